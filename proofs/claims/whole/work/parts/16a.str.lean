/-! ===== the texts of StandAssigner$Text: String's own methods over them ===== -/
abbrev nA : Nat → Prop := fun _ => False
def g_PcS (adK adV : Nat → Nat) (av : List Value) : Array Value → State → Prop := va_Pc av (fun U => g_V adK adV nA U U.heap)
def g_QS (r : Int32) : Array Value → State → Outcome → State → Prop := va_Qi (fun (r1 : Int32) (_ : Unit) => r1 = r) (fun _ _ => True) nA
def g_QSv : Array Value → State → Outcome → State → Prop := va_Qv (fun (_ : Unit) => True) (fun _ _ => True) nA
theorem g_blindS {adK adV : Nat → Nat} {av : List Value} : FrameBlind (g_PcS adK adV av) := by
  intro a U g mk q
  obtain ⟨q0, qV⟩ := q
  exact ⟨q0, g_V.warm (s := U) (U := U.calling g mk a) (State.WarmedH.refl U) qV⟩
theorem g_startS {l : Launch} {yM : MethodName} {cc : ByteArray} {maxL : Nat} {ret : Option FieldType} {rm : Room} {adK adV : Nat → Nat} {av : List Value} {Qc : Array Value → State → Outcome → State → Prop} (hy : plainName yM.cls = true) (hlen : (lg_sl av).length ≤ maxL)
    (body : ∀ (p : Program) (e : Env) (s : State) (m : MethodId) (below : List Frame) (meth : Method) (c : Code) (ls : Array Slot), CallFix p m c cc maxL s av.toArray gl yM.cls → meth.sig.returnType = ret → meth.locks = false → lv_has ls maxL (lv_args 0 av) → g_V adK adV nA s s.heap →
      W p l e rm s m av.toArray below meth c s.heap [] 0 0 (MQ below Qc av.toArray s 0 0 nA) (F0 m 0 ls [])) : Met l yM (Cond.code yM cc maxL ret :: gl) rm (g_PcS adK adV av) Qc 0 0 nA := by
  refine Met.ofW (cc := cc) (maxL := maxL) (ret := ret) hy rfl ?_
  intro p e s m args below meth c s₁ B hml hv
  obtain ⟨rfl, hV⟩ := hv
  have hts := atoms_spec (ws := Cond.code yM cc maxL ret :: gl) B.pre
  have hown : s.vm.findClass yM.cls = some m.cls := findClass_of_methodNamed B.named
  have hl := lv_entry av (n := maxL) hlen
  rw [lg_entry_eq]
  exact body p e s m below meth c _ ⟨B.exec, B.bytes, hml, hown, fun w h => hts w (List.mem_cons_of_mem _ h)⟩ B.returns B.notSynchronized hl hV
section GS
variable {p : Program} {l : Launch} {e : Env} {R : Room} {s : State} {m : MethodId} {args : Array Value} {below : List Frame} {meth : Method} {c : Code} {H : Heap} {locs : List Loc} {cells slots : Nat} {Q : State → Prop}
variable {cc : ByteArray} {pc nL : Nat} {ls : Array Slot} {rest : List Value} {own : String} {adK adV : Nat → Nat} {A : Nat → Prop} {H0 : Heap}
theorem g_callS {st0 : List Value} {a : Array Value} {r : Int32} (hS : va_S A H0 H locs) (hr : va_Run p l e R s m args below meth c H locs cells slots 0 0 (F0 m pc ls st0) rest (g_QS r a) nA)
    (kk : ∀ (H1 : Heap) (locs1 : List Loc), va_S A H0 H1 locs1 → (∀ q : Nat, q < H.size → H1[q]? = H[q]?) → W p l e R s m args below meth c H1 locs1 cells slots Q (F0 m (pc + 3) ls (.int r :: rest))) : W p l e R s m args below meth c H locs cells slots Q (F0 m pc ls st0) := by
  refine va_calli hr hS (fun q _ h => h.elim) (fun q h => h.elim) (fun r1 u t H1 locs1 ht hvm hp hB hz hk hS => ?_)
  subst hp
  exact kk H1 locs1 hS (fun q hq => hk q hq (fun z => z))
theorem g_callSv {st0 : List Value} {a : Array Value} (hS : va_S A H0 H locs) (hr : va_Run p l e R s m args below meth c H locs cells slots 0 0 (F0 m pc ls st0) rest (g_QSv a) nA)
    (kk : ∀ (H1 : Heap) (locs1 : List Loc), va_S A H0 H1 locs1 → (∀ q : Nat, q < H.size → H1[q]? = H[q]?) → W p l e R s m args below meth c H1 locs1 cells slots Q (F0 m (pc + 3) ls rest)) : W p l e R s m args below meth c H locs cells slots Q (F0 m pc ls st0) := by
  refine va_callv hr hS (fun q _ h => h.elim) (fun q h => h.elim) (fun u t H1 locs1 ht hvm hp hB hz hk hS => ?_)
  exact kk H1 locs1 hS (fun q hq => hk q hq (fun z => z))
theorem g_runVS (S : CallFix p m c cc nL s args gl own) (hV : g_V adK adV A s s.heap) (hS : va_S A s.heap H locs) {index n maxL i : Nat} {yM : MethodName} {bytes : ByteArray} {ret : Option FieldType} {rm : Room} {As st0 : List Value} {Qc : Array Value → State → Outcome → State → Prop}
    (hM : Met l yM (Cond.code yM bytes maxL ret :: gl) rm (g_PcS adK adV (.ref (adK i) :: As)) Qc 0 0 nA) (ok : g_okV own index RJ0 yM bytes maxL ret n) (hrm : rm.cells = 0 ∧ rm.slots = 0 ∧ rm.frames + 1 ≤ R.frames ∧ 8 + (maxL + 11) + rm.locals ≤ R.locals) (hi : i < 6) (hn : As.length = n) (hls : ls.size = nL) (hst : st0 = As.reverse ++ .ref (adK i) :: rest) (hrest : (rest.map fun v => v.category).sum ≤ 8) (hdg : decode cc pc = .ok (.invokevirtual index, 3)) (hcs : cells ≤ R.cells ∧ slots ≤ R.slots) :
    va_Run p l e R s m args below meth c H locs cells slots 0 0 (F0 m pc ls st0) rest (Qc (Value.ref (adK i) :: As).toArray) nA := by
  refine va_runV (As := As) (rest := rest) S hM (cwV n S.2.2.2.2 (g_goodV ok) rfl hrm.1 hrm.2.1 ok.2.2.2.2.2 ⟨hrm.2.2.1, hrm.2.2.2⟩) ⟨g_blindS, vk_recv hV.1 hi hS, fun U hU hW => ⟨rfl, ?_⟩⟩ rfl hn hls (by rw [hst]) (lv_room hrest) hdg hcs
  show g_V adK adV nA U U.heap
  rw [hU]
  exact ((hV.kept hS.2.1).narrow (fun q h => h.elim)).warm hW
theorem g_runSS (S : CallFix p m c cc nL s args gl own) (hV : g_V adK adV A s s.heap) (hS : va_S A s.heap H locs) {index n maxL : Nat} {yM : MethodName} {bytes : ByteArray} {ret : Option FieldType} {rm : Room} {As st0 : List Value} {Qc : Array Value → State → Outcome → State → Prop}
    (hM : Met l yM (Cond.code yM bytes maxL ret :: gl) rm (g_PcS adK adV As) Qc 0 0 nA) (ok : g_okS own index yM bytes maxL ret n) (hrm : rm.cells = 0 ∧ rm.slots = 0 ∧ rm.frames + 1 ≤ R.frames ∧ 8 + (maxL + 11) + rm.locals ≤ R.locals) (hn : As.length = n) (hls : ls.size = nL) (hst : st0 = As.reverse ++ rest) (hrest : (rest.map fun v => v.category).sum ≤ 8) (hdg : decode cc pc = .ok (.invokestatic index, 3)) (hcs : cells ≤ R.cells ∧ slots ≤ R.slots) :
    va_Run p l e R s m args below meth c H locs cells slots 0 0 (F0 m pc ls st0) rest (Qc As.toArray) nA := by
  refine va_runS (As := As) (rest := rest) S hM (va_cwS n S.2.2.2.2 (g_goodS ok) rfl hrm.1 hrm.2.1 ok.2.2.2.2 ⟨hrm.2.2.1, hrm.2.2.2⟩) ⟨g_blindS, fun U hU hW => ⟨rfl, ?_⟩⟩ rfl hn hls (by rw [hst]) (lv_room hrest) hdg hcs
  show g_V adK adV nA U U.heap
  rw [hU]
  exact ((hV.kept hS.2.1).narrow (fun q h => h.elim)).warm hW
theorem g_sret {r : Int32} {ty : FieldType} (S : CallFix p m c cc nL s args gl own) (hr : meth.sig.returnType = some ty) (hn : narrow ty (.int r) = .int r) (hlk : meth.locks = false) (hS : va_S nA s.heap H locs) (hdg : decode cc pc = .ok (.ireturn, 1)) :
    W p l e R s m args below meth c H locs 0 0 (MQ below (g_QS r) args s 0 0 nA) (F0 m pc ls [.int r]) :=
  W.zret S.1 S.2.1 hr hn (fun t ht hW => ⟨⟨r, (), rfl, rfl, trivial⟩, hS.F ht⟩) hS.2.2 hdg hlk
end GS
def ts_n (i : Nat) : Nat := ts_len.getD i 0
def ts_c (i : Nat) (x : Int32) : Int32 := jc ((ts_byt.getD i []).getD x.toNatClampNeg 0 &&& 255)
theorem ts_small : ∀ i, i < 6 → ts_n i < 2 ^ 31 := by decide
section GT
variable (l : Launch) (adK adV : Nat → Nat)
set_option maxHeartbeats 4000000 in
theorem c_coder {i : Nat} (hi : i < 6) : Met l yJ0_coder_7d493 (Cond.code yJ0_coder_7d493 cJ0_coder_7d493 1 (some .byte) :: gl) ({ frames := 0, cells := 0, slots := 0, locals := 0 }) (g_PcS adK adV [.ref (adK i)]) (g_QS 0) 0 0 nA := by
  refine g_startS (by decide) (Nat.le_of_ble_eq_true rfl) (fun p e s m below meth c ls S hr hlk hl hV => ?_)
  have hl : lv_has ls 1 [(0, .ref (adK i))] := hl
  have hS : va_S nA s.heap s.heap [] := va_S.rf
  refine va_gets S.1 S.2.1 hV.2.2.1 hS S.2.2.2.1 (S.2.2.2.2 _ fj_J0_38) (fun _ h => h) dJ0_coder_7d493_0 ?_
  refine lv_if_eq (tgt := 13) S.1 S.2.1 dJ0_coder_7d493_3 (by decide) (fun h => absurd h (by decide)) (fun _ => ?_)
  refine lv_aload_n S.1 S.2.1 dJ0_coder_7d493_6 rfl (lv_at hl 0 rfl) ?_
  refine vk_getf S.1 S.2.1 (hV.1.1 i hi).2.1 hS S.2.2.2.1 (S.2.2.2.2 _ fj_J0_15) (fun _ h => h) dJ0_coder_7d493_7 ?_
  refine lv_goto (tgt := 14) S.1 S.2.1 dJ0_coder_7d493_10 (by decide) ?_
  exact g_sret (r := 0) S hr rfl hlk hS dJ0_coder_7d493_14
set_option maxHeartbeats 4000000 in
theorem c_isLatin1 {i : Nat} (hi : i < 6) : Met l yJ0_isLatin1_aae02 (Cond.code yJ0_isLatin1_aae02 cJ0_isLatin1_aae02 1 (some .boolean) :: gl) ({ frames := 0, cells := 0, slots := 0, locals := 0 }) (g_PcS adK adV [.ref (adK i)]) (g_QS 1) 0 0 nA := by
  refine g_startS (by decide) (Nat.le_of_ble_eq_true rfl) (fun p e s m below meth c ls S hr hlk hl hV => ?_)
  have hl : lv_has ls 1 [(0, .ref (adK i))] := hl
  have hS : va_S nA s.heap s.heap [] := va_S.rf
  refine va_gets S.1 S.2.1 hV.2.2.1 hS S.2.2.2.1 (S.2.2.2.2 _ fj_J0_38) (fun _ h => h) dJ0_isLatin1_aae02_0 ?_
  refine lv_if_eq (tgt := 17) S.1 S.2.1 dJ0_isLatin1_aae02_3 (by decide) (fun h => absurd h (by decide)) (fun _ => ?_)
  refine lv_aload_n S.1 S.2.1 dJ0_isLatin1_aae02_6 rfl (lv_at hl 0 rfl) ?_
  refine vk_getf S.1 S.2.1 (hV.1.1 i hi).2.1 hS S.2.2.2.1 (S.2.2.2.2 _ fj_J0_15) (fun _ h => h) dJ0_isLatin1_aae02_7 ?_
  refine lv_if_ne (tgt := 17) S.1 S.2.1 dJ0_isLatin1_aae02_10 (by decide) (fun h => absurd rfl h) (fun _ => ?_)
  refine lv_iconst (v := 1) S.1 S.2.1 dJ0_isLatin1_aae02_13 (by decide) ?_
  refine lv_goto (tgt := 18) S.1 S.2.1 dJ0_isLatin1_aae02_14 (by decide) ?_
  exact g_sret (r := 1) S hr rfl hlk hS dJ0_isLatin1_aae02_18
set_option maxHeartbeats 4000000 in
theorem c_isEmpty {i : Nat} (hi : i < 6) : Met l yJ0_isEmpty_aae02 (Cond.code yJ0_isEmpty_aae02 cJ0_isEmpty_aae02 1 (some .boolean) :: gl) ({ frames := 0, cells := 0, slots := 0, locals := 0 }) (g_PcS adK adV [.ref (adK i)]) (g_QS (if nI (ts_n i) = 0 then 1 else 0)) 0 0 nA := by
  refine g_startS (by decide) (Nat.le_of_ble_eq_true rfl) (fun p e s m below meth c ls S hr hlk hl hV => ?_)
  have hl : lv_has ls 1 [(0, .ref (adK i))] := hl
  have hS : va_S nA s.heap s.heap [] := va_S.rf
  refine lv_aload_n S.1 S.2.1 dJ0_isEmpty_aae02_0 rfl (lv_at hl 0 rfl) ?_
  refine vk_getf S.1 S.2.1 (hV.1.1 i hi).2.2.1 hS S.2.2.2.1 (S.2.2.2.2 _ fj_J0_9) (fun _ h => h) dJ0_isEmpty_aae02_1 ?_
  refine va_tlen (v := nI (ts_n i)) S.1 S.2.1 (hV.1.1 i hi).2.2.2 hS rfl dJ0_isEmpty_aae02_4 ?_
  refine lv_if_ne (tgt := 12) S.1 S.2.1 dJ0_isEmpty_aae02_5 (by decide) (fun h => ?_) (fun h => ?_)
  · rw [if_neg h]
    refine lv_iconst (v := 0) S.1 S.2.1 dJ0_isEmpty_aae02_12 (by decide) ?_
    exact g_sret (r := 0) S hr rfl hlk hS dJ0_isEmpty_aae02_13
  · rw [if_pos h]
    refine lv_iconst (v := 1) S.1 S.2.1 dJ0_isEmpty_aae02_8 (by decide) ?_
    refine lv_goto (tgt := 13) S.1 S.2.1 dJ0_isEmpty_aae02_9 (by decide) ?_
    exact g_sret (r := 1) S hr rfl hlk hS dJ0_isEmpty_aae02_13
set_option maxHeartbeats 4000000 in
theorem c_length {i : Nat} (hi : i < 6) : Met l yJ0_length_8abf5 (Cond.code yJ0_length_8abf5 cJ0_length_8abf5 1 (some .int) :: gl) ({ frames := 1, cells := 0, slots := 0, locals := 20 }) (g_PcS adK adV [.ref (adK i)]) (g_QS (nI (ts_n i))) 0 0 nA := by
  refine g_startS (by decide) (Nat.le_of_ble_eq_true rfl) (fun p e s m below meth c ls S hr hlk hl hV => ?_)
  have hl : lv_has ls 1 [(0, .ref (adK i))] := hl
  have hS : va_S nA s.heap s.heap [] := va_S.rf
  refine lv_aload_n S.1 S.2.1 dJ0_length_8abf5_0 rfl (lv_at hl 0 rfl) ?_
  refine vk_getf S.1 S.2.1 (hV.1.1 i hi).2.2.1 hS S.2.2.2.1 (S.2.2.2.2 _ fj_J0_9) (fun _ h => h) dJ0_length_8abf5_1 ?_
  refine va_tlen (v := nI (ts_n i)) S.1 S.2.1 (hV.1.1 i hi).2.2.2 hS rfl dJ0_length_8abf5_4 ?_
  refine lv_aload_n S.1 S.2.1 dJ0_length_8abf5_5 rfl (lv_at hl 0 rfl) ?_
  refine g_callS hS (g_runVS (i := i) (As := []) (rest := [.int (nI (ts_n i))]) S hV hS (c_coder l adK adV hi) ok_J0_335 ⟨rfl, rfl, Nat.le_of_ble_eq_true rfl, Nat.le_of_ble_eq_true rfl⟩ hi rfl hl.1 rfl (Nat.le_of_ble_eq_true rfl) dJ0_length_8abf5_6 ⟨Nat.zero_le _, Nat.zero_le _⟩) (fun H locs hS hk => ?_)
  refine lv_ishr S.1 S.2.1 dJ0_length_8abf5_9 ?_
  rw [sc_shr0 (ts_small i hi)]
  exact g_sret (r := nI (ts_n i)) S hr rfl hlk hS dJ0_length_8abf5_10
set_option maxHeartbeats 4000000 in
theorem c_preCheck {x n : Int32} {v : Value} (hv : v = .null ∨ ∃ t, v = .ref t) (h0 : ¬ x < 0) (h1 : x < n) : Met l yJ3_checkIndex_8e157 (Cond.code yJ3_checkIndex_8e157 cJ3_checkIndex_8e157 3 (some .int) :: gl) ({ frames := 0, cells := 0, slots := 0, locals := 0 }) (g_PcS adK adV [.int x, .int n, v]) (g_QS x) 0 0 nA := by
  refine g_startS (by decide) (by rcases hv with rfl | ⟨t, rfl⟩ <;> exact Nat.le_of_ble_eq_true rfl) (fun p e s m below meth c ls S hr hlk hl hV => ?_)
  have hl : lv_has ls 3 [(0, .int x), (1, .int n)] := lv_sub hl [0, 1] rfl
  have hS : va_S nA s.heap s.heap [] := va_S.rf
  refine lv_iload_n S.1 S.2.1 dJ3_checkIndex_8e157_0 rfl (lv_at hl 0 rfl) ?_
  refine lv_if_lt (tgt := 9) S.1 S.2.1 dJ3_checkIndex_8e157_1 (by decide) (fun h => absurd h h0) (fun _ => ?_)
  refine lv_iload_n S.1 S.2.1 dJ3_checkIndex_8e157_4 rfl (lv_at hl 0 rfl) ?_
  refine lv_iload_n S.1 S.2.1 dJ3_checkIndex_8e157_5 rfl (lv_at hl 1 rfl) ?_
  refine lv_icmp_lt (tgt := 16) S.1 S.2.1 dJ3_checkIndex_8e157_6 (by decide) (fun _ => ?_) (fun h => absurd h1 h)
  refine lv_iload_n S.1 S.2.1 dJ3_checkIndex_8e157_16 rfl (lv_at hl 0 rfl) ?_
  exact g_sret (r := x) S hr rfl hlk hS dJ3_checkIndex_8e157_17
set_option maxHeartbeats 4000000 in
theorem c_strCheck {x n : Int32} (h0 : ¬ x < 0) (h1 : x < n) : Met l yJ0_checkIndex_df160 (Cond.code yJ0_checkIndex_df160 cJ0_checkIndex_df160 2 none :: gl) ({ frames := 1, cells := 0, slots := 0, locals := 22 }) (g_PcS adK adV [.int x, .int n]) g_QSv 0 0 nA := by
  refine g_startS (by decide) (Nat.le_of_ble_eq_true rfl) (fun p e s m below meth c ls S hr hlk hl hV => ?_)
  have hl : lv_has ls 2 [(0, .int x), (1, .int n)] := hl
  have hS : va_S nA s.heap s.heap [] := va_S.rf
  refine lv_iload_n S.1 S.2.1 dJ0_checkIndex_df160_0 rfl (lv_at hl 0 rfl) ?_
  refine lv_iload_n S.1 S.2.1 dJ0_checkIndex_df160_1 rfl (lv_at hl 1 rfl) ?_
  have key : ∀ v : Value, (v = .null ∨ ∃ t, v = .ref t) → va_Z "jdk/internal/util/Preconditions" "SIOOBE_FORMATTER" "Ljava/util/function/BiFunction;" v nA s s.heap → W p l e ({ frames := 1, cells := 0, slots := 0, locals := 22 }) s m [Value.int x, Value.int n].toArray below meth c s.heap [] 0 0 (MQ below g_QSv [Value.int x, Value.int n].toArray s 0 0 nA) (F0 m 2 ls [.int n, .int x]) := by
    intro v hv hZ
    have hcat : v.category = 1 := by rcases hv with rfl | ⟨t, rfl⟩ <;> rfl
    refine va_gets S.1 S.2.1 hZ hS S.2.2.2.1 (S.2.2.2.2 _ fj_J0_1053) (fun _ h => h) dJ0_checkIndex_df160_2 ?_
    refine g_callS hS (g_runSS (As := [.int x, .int n, v]) (rest := []) S hV hS (c_preCheck l adK adV hv h0 h1) ok_J0_1059 ⟨rfl, rfl, Nat.le_of_ble_eq_true rfl, Nat.le_of_ble_eq_true rfl⟩ rfl hl.1 rfl (Nat.le_of_ble_eq_true rfl) dJ0_checkIndex_df160_5 ⟨Nat.zero_le _, Nat.zero_le _⟩) (fun H locs hS hk => ?_)
    refine lv_pop S.1 S.2.1 dJ0_checkIndex_df160_8 rfl ?_
    exact W.vret S.1 S.2.1 hr (fun t ht hW => ⟨⟨(), rfl, trivial, trivial⟩, hS.F ht⟩) hS.2.2 dJ0_checkIndex_df160_9 hlk
  rcases hV.2.2.2 with h | ⟨t, h⟩
  · exact key .null (Or.inl rfl) h
  · exact key (.ref t) (Or.inr ⟨t, rfl⟩) h
set_option maxHeartbeats 4000000 in
theorem c_latCharAt {i : Nat} (hi : i < 6) {x : Int32} (hx : ib x (ts_n i) = true) : Met l yJ1_charAt_3b067 (Cond.code yJ1_charAt_3b067 cJ1_charAt_3b067 2 (some .char) :: gl) ({ frames := 2, cells := 0, slots := 0, locals := 43 }) (g_PcS adK adV [.ref (adV i), .int x]) (g_QS (ts_c i x)) 0 0 nA := by
  refine g_startS (by decide) (Nat.le_of_ble_eq_true rfl) (fun p e s m below meth c ls S hr hlk hl hV => ?_)
  have hl : lv_has ls 2 [(0, .ref (adV i)), (1, .int x)] := hl
  have hS : va_S nA s.heap s.heap [] := va_S.rf
  have hsm := ts_small i hi
  obtain ⟨g1, g2⟩ := of_decide_eq_true hx
  have h0 : ¬ x < 0 := fun h => by
    have := Int32.lt_iff_toInt_lt.mp h
    rw [Int32.toInt_zero] at this
    omega
  have h1 : x < nI (ts_n i) := Int32.lt_iff_toInt_lt.mpr (by rw [nI_toInt hsm]; exact g2)
  refine lv_iload_n S.1 S.2.1 dJ1_charAt_3b067_0 rfl (lv_at hl 1 rfl) ?_
  refine lv_aload_n S.1 S.2.1 dJ1_charAt_3b067_1 rfl (lv_at hl 0 rfl) ?_
  refine va_tlen (v := nI (ts_n i)) S.1 S.2.1 (hV.1.1 i hi).2.2.2 hS rfl dJ1_charAt_3b067_2 ?_
  refine g_callSv hS (g_runSS (As := [.int x, .int (nI (ts_n i))]) (rest := []) S hV hS (c_strCheck l adK adV h0 h1) ok_J1_9 ⟨rfl, rfl, Nat.le_of_ble_eq_true rfl, Nat.le_of_ble_eq_true rfl⟩ rfl hl.1 rfl (Nat.le_of_ble_eq_true rfl) dJ1_charAt_3b067_3 ⟨Nat.zero_le _, Nat.zero_le _⟩) (fun H locs hS hk => ?_)
  refine lv_aload_n S.1 S.2.1 dJ1_charAt_3b067_6 rfl (lv_at hl 0 rfl) ?_
  refine lv_iload_n S.1 S.2.1 dJ1_charAt_3b067_7 rfl (lv_at hl 1 rfl) ?_
  refine va_tb S.1 S.2.1 (hV.1.1 i hi).2.2.2 hS (ib_in hx) rfl dJ1_charAt_3b067_8 ?_
  refine lv_sipush (v := 255) S.1 S.2.1 dJ1_charAt_3b067_9 (by decide) ?_
  refine lv_iand S.1 S.2.1 dJ1_charAt_3b067_12 ?_
  refine lv_i2c (v := ts_c i x) S.1 S.2.1 dJ1_charAt_3b067_13 rfl ?_
  exact g_sret (r := ts_c i x) S hr (pk_nc _) hlk hS dJ1_charAt_3b067_14
set_option maxHeartbeats 4000000 in
theorem c_charAt {i : Nat} (hi : i < 6) {x : Int32} (hx : ib x (ts_n i) = true) : Met l yJ0_charAt_5068e (Cond.code yJ0_charAt_5068e cJ0_charAt_5068e 2 (some .char) :: gl) ({ frames := 3, cells := 0, slots := 0, locals := 64 }) (g_PcS adK adV [.ref (adK i), .int x]) (g_QS (ts_c i x)) 0 0 nA := by
  refine g_startS (by decide) (Nat.le_of_ble_eq_true rfl) (fun p e s m below meth c ls S hr hlk hl hV => ?_)
  have hl : lv_has ls 2 [(0, .ref (adK i)), (1, .int x)] := hl
  have hS : va_S nA s.heap s.heap [] := va_S.rf
  refine lv_aload_n S.1 S.2.1 dJ0_charAt_5068e_0 rfl (lv_at hl 0 rfl) ?_
  refine g_callS hS (g_runVS (i := i) (As := []) (rest := []) S hV hS (c_isLatin1 l adK adV hi) ok_J0_492 ⟨rfl, rfl, Nat.le_of_ble_eq_true rfl, Nat.le_of_ble_eq_true rfl⟩ hi rfl hl.1 rfl (Nat.le_of_ble_eq_true rfl) dJ0_charAt_5068e_1 ⟨Nat.zero_le _, Nat.zero_le _⟩) (fun H locs hS hk => ?_)
  refine lv_if_eq (tgt := 16) S.1 S.2.1 dJ0_charAt_5068e_4 (by decide) (fun h => absurd h (by decide)) (fun _ => ?_)
  refine lv_aload_n S.1 S.2.1 dJ0_charAt_5068e_7 rfl (lv_at hl 0 rfl) ?_
  refine vk_getf S.1 S.2.1 (hV.1.1 i hi).2.2.1 hS S.2.2.2.1 (S.2.2.2.2 _ fj_J0_9) (fun _ h => h) dJ0_charAt_5068e_8 ?_
  refine lv_iload_n S.1 S.2.1 dJ0_charAt_5068e_11 rfl (lv_at hl 1 rfl) ?_
  refine g_callS hS (g_runSS (As := [.ref (adV i), .int x]) (rest := []) S hV hS (c_latCharAt l adK adV hi hx) ok_J0_495 ⟨rfl, rfl, Nat.le_of_ble_eq_true rfl, Nat.le_of_ble_eq_true rfl⟩ rfl hl.1 rfl (Nat.le_of_ble_eq_true rfl) dJ0_charAt_5068e_12 ⟨Nat.zero_le _, Nat.zero_le _⟩) (fun H locs hS hk => ?_)
  exact g_sret (r := ts_c i x) S hr (pk_nc _) hlk hS dJ0_charAt_5068e_15
end GT
/-- which text a letter has -/
def shp (x : Int32) : Nat := if x = 112 then 0 else if x = 108 then 1 else if x = 100 then 2 else if x = 116 then 3 else if x = 97 then 4 else 5
theorem shp_lt (x : Int32) : shp x < 6 := by
  unfold shp
  repeat' split
  all_goals omega
def g_QSr (adK : Nat → Nat) (k : Nat) : Array Value → State → Outcome → State → Prop := va_Qr (fun (_ : Unit) => True) (fun _ a _ => a = adK k) nA
section GU
variable {p : Program} {l : Launch} {e : Env} {R : Room} {s : State} {m : MethodId} {args : Array Value} {below : List Frame} {meth : Method} {c : Code} {H : Heap} {locs : List Loc} {cells slots : Nat} {Q : State → Prop}
variable {cc : ByteArray} {pc nL : Nat} {ls : Array Slot} {rest : List Value} {own : String} {D : va_G} {y : ClassId × ClassId × ClassId} {A : Nat → Prop} {H0 : Heap} {ad : Nat → Nat} {X : va_W} {σ : gS} {adK adV : Nat → Nat}
theorem g_sref {k : Nat} (S : CallFix p m c cc nL s args gl own) (hr : meth.sig.returnType = some (.object "java/lang/String")) (hlk : meth.locks = false) (hS : va_S nA s.heap H locs) (hdg : decode cc pc = .ok (.areturn, 1)) :
    W p l e R s m args below meth c H locs 0 0 (MQ below (g_QSr adK k) args s 0 0 nA) (F0 m pc ls [.ref (adK k)]) :=
  W.aret S.1 S.2.1 hr (Or.inl ⟨_, rfl⟩) (Or.inr ⟨_, rfl⟩) (fun t ht hW => ⟨⟨(), adK k, rfl, trivial, rfl⟩, hS.F ht⟩) hS.2.2 hdg hlk
/-- a call that changes nothing, over the world -/
theorem g_keep (hW : g_W A H0 D y ad X σ H locs) {H1 : Heap} {locs1 : List Loc} (hS : va_S A H0 H1 locs1) (hk : ∀ q : Nat, q < H.size → H1[q]? = H[q]?) : g_W A H0 D y ad X σ H1 locs1 :=
  ⟨hW.1.kept (fun k q hq => hk q.1 (hW.1 k q hq).lt), hW.2.1, hS, hW.2.2.2⟩
theorem g_callWS {st0 : List Value} {a : Array Value} {r : Int32} (hW : g_W A H0 D y ad X σ H locs) (hr : va_Run p l e R s m args below meth c H locs cells slots 0 0 (F0 m pc ls st0) rest (g_QS r a) nA)
    (kk : ∀ (H1 : Heap) (locs1 : List Loc), g_W A H0 D y ad X σ H1 locs1 → W p l e R s m args below meth c H1 locs1 cells slots Q (F0 m (pc + 3) ls (.int r :: rest))) : W p l e R s m args below meth c H locs cells slots Q (F0 m pc ls st0) :=
  g_callS hW.2.2.1 hr (fun H1 locs1 hS hk => kk H1 locs1 (g_keep hW hS hk))
theorem g_callWSr {st0 : List Value} {a : Array Value} {k : Nat} (hW : g_W A H0 D y ad X σ H locs) (hr : va_Run p l e R s m args below meth c H locs cells slots 0 0 (F0 m pc ls st0) rest (g_QSr adK k a) nA)
    (kk : ∀ (H1 : Heap) (locs1 : List Loc), g_W A H0 D y ad X σ H1 locs1 → W p l e R s m args below meth c H1 locs1 cells slots Q (F0 m (pc + 3) ls (.ref (adK k) :: rest))) : W p l e R s m args below meth c H locs cells slots Q (F0 m pc ls st0) := by
  refine va_callr hr hW.2.2.1 (fun q _ h => h.elim) (fun q h => h.elim) (fun u ra t H1 locs1 ht hvm hp hB hz hk hS => ?_)
  subst hB
  exact kk H1 locs1 (g_keep hW hS (fun q hq => hk q hq (fun z => z)))
theorem g_fix (hC : g_C p s m args c cc nL own D y) : CallFix p m c cc nL s args gl own := ⟨hC.1, hC.2.1, hC.2.2.1, hC.2.2.2.1, hC.2.2.2.2.1⟩
end GU
set_option maxHeartbeats 4000000 in
theorem c_shapeOf (l : Launch) (adK adV : Nat → Nat) (x0 : Int32) : Met l yX5_shapeOf (Cond.code yX5_shapeOf cX5_shapeOf 1 (some (.object "java/lang/String")) :: gl) ({ frames := 0, cells := 0, slots := 0, locals := 0 }) (g_PcS adK adV [.int x0]) (g_QSr adK (shp x0)) 0 0 nA := by
  refine g_startS (by decide) (Nat.le_of_ble_eq_true rfl) (fun p e s m below meth c ls S hr hlk hl hV => ?_)
  have hl : lv_has ls 1 [(0, .int x0)] := hl
  have hS : va_S nA s.heap s.heap [] := va_S.rf
  have k0 : vk_R RX5 60 "#.#@#;" (adK 0) s := hV.2.1 0 (by omega)
  have k1 : vk_R RX5 62 "#.#;" (adK 1) s := hV.2.1 1 (by omega)
  have k2 : vk_R RX5 64 "#+*;" (adK 2) s := hV.2.1 2 (by omega)
  have k3 : vk_R RX5 66 "#@*;" (adK 3) s := hV.2.1 3 (by omega)
  have k4 : vk_R RX5 68 ";" (adK 4) s := hV.2.1 4 (by omega)
  have k5 : vk_R RX5 70 "" (adK 5) s := hV.2.1 5 (by omega)
  unfold shp
  refine lv_iload_n S.1 S.2.1 dX5_shapeOf_0 rfl (lv_at hl 0 rfl) ?_
  refine lv_bipush (v := 112) S.1 S.2.1 dX5_shapeOf_1 (by decide) ?_
  refine lv_icmp_ne (tgt := 9) S.1 S.2.1 dX5_shapeOf_3 (by decide) (fun c0 => ?_) (fun c0 => ?_)
  · rw [if_neg c0]
    refine lv_iload_n S.1 S.2.1 dX5_shapeOf_9 rfl (lv_at hl 0 rfl) ?_
    refine lv_bipush (v := 108) S.1 S.2.1 dX5_shapeOf_10 (by decide) ?_
    refine lv_icmp_ne (tgt := 18) S.1 S.2.1 dX5_shapeOf_12 (by decide) (fun c1 => ?_) (fun c1 => ?_)
    · rw [if_neg c1]
      refine lv_iload_n S.1 S.2.1 dX5_shapeOf_18 rfl (lv_at hl 0 rfl) ?_
      refine lv_bipush (v := 100) S.1 S.2.1 dX5_shapeOf_19 (by decide) ?_
      refine lv_icmp_ne (tgt := 27) S.1 S.2.1 dX5_shapeOf_21 (by decide) (fun c2 => ?_) (fun c2 => ?_)
      · rw [if_neg c2]
        refine lv_iload_n S.1 S.2.1 dX5_shapeOf_27 rfl (lv_at hl 0 rfl) ?_
        refine lv_bipush (v := 116) S.1 S.2.1 dX5_shapeOf_28 (by decide) ?_
        refine lv_icmp_ne (tgt := 36) S.1 S.2.1 dX5_shapeOf_30 (by decide) (fun c3 => ?_) (fun c3 => ?_)
        · rw [if_neg c3]
          refine lv_iload_n S.1 S.2.1 dX5_shapeOf_36 rfl (lv_at hl 0 rfl) ?_
          refine lv_bipush (v := 97) S.1 S.2.1 dX5_shapeOf_37 (by decide) ?_
          refine lv_icmp_ne (tgt := 47) S.1 S.2.1 dX5_shapeOf_39 (by decide) (fun c4 => ?_) (fun c4 => ?_)
          · rw [if_neg c4]
            refine va_ldcS S.1 S.2.1 S.2.2.2.1 k5 dX5_shapeOf_47 ?_
            exact g_sref S hr hlk hS dX5_shapeOf_49
          · rw [if_pos c4]
            refine va_ldcS S.1 S.2.1 S.2.2.2.1 k4 dX5_shapeOf_42 ?_
            refine lv_goto (tgt := 49) S.1 S.2.1 dX5_shapeOf_44 (by decide) ?_
            exact g_sref S hr hlk hS dX5_shapeOf_49
        · rw [if_pos c3]
          refine va_ldcS S.1 S.2.1 S.2.2.2.1 k3 dX5_shapeOf_33 ?_
          exact g_sref S hr hlk hS dX5_shapeOf_35
      · rw [if_pos c2]
        refine va_ldcS S.1 S.2.1 S.2.2.2.1 k2 dX5_shapeOf_24 ?_
        exact g_sref S hr hlk hS dX5_shapeOf_26
    · rw [if_pos c1]
      refine va_ldcS S.1 S.2.1 S.2.2.2.1 k1 dX5_shapeOf_15 ?_
      exact g_sref S hr hlk hS dX5_shapeOf_17
  · rw [if_pos c0]
    refine va_ldcS S.1 S.2.1 S.2.2.2.1 k0 dX5_shapeOf_6 ?_
    exact g_sref S hr hlk hS dX5_shapeOf_8
/-- a method that needs the texts, and doesn't throw -/
theorem g_startZ {l : Launch} {yM : MethodName} {cc : ByteArray} {maxL : Nat} {ret : Option FieldType} {rm : Room} {D : va_G} {y : ClassId × ClassId × ClassId} {ad : Nat → Nat} {σ : gS} {sz : Nat} {av : List Value} {Qc : Array Value → State → Outcome → State → Prop} (hy : plainName yM.cls = true) (hlen : (lg_sl av).length ≤ maxL)
    (body : ∀ (p : Program) (e : Env) (s : State) (m : MethodId) (below : List Frame) (meth : Method) (c : Code) (ls : Array Slot), g_C p s m av.toArray c cc maxL yM.cls D y → meth.sig.returnType = ret → meth.locks = false → s.heap.size = sz → g_W (g_A ad sz) s.heap D y ad [] σ s.heap [] → lv_has ls maxL (lv_args 0 av) → g_Z (g_A ad sz) s s.heap →
      W p l e rm s m av.toArray below meth c s.heap [] 0 0 (MQ below Qc av.toArray s 0 0 (g_A ad sz)) (F0 m 0 ls [])) : Met l yM (Cond.code yM cc maxL ret :: gl) rm (g_PcX D y ad σ sz av) Qc 0 0 (g_A ad sz) := by
  refine Met.ofW (cc := cc) (maxL := maxL) (ret := ret) hy rfl ?_
  intro p e s m args below meth c s₁ B hml hv
  obtain ⟨rfl, hsz, hP, hK, hD0, hZ⟩ := hv
  have hx := B.exec
  have hb := B.bytes
  have hr := B.returns
  have hts := atoms_spec (ws := Cond.code yM cc maxL ret :: gl) B.pre
  have hown : s.vm.findClass yM.cls = some m.cls := findClass_of_methodNamed B.named
  have hlocks := B.notSynchronized
  have hl := lv_entry av (n := maxL) hlen
  rw [lg_entry_eq]
  have hD1 : va_D (g_A ad sz) (g_wl y ad σ ++ []) := by
    rw [List.append_nil]
    refine ⟨hD0.1, fun k q hq => ?_⟩
    obtain ⟨h1, rfl⟩ := g_wl_inv hq
    exact Or.inl ⟨k, h1, rfl⟩
  exact body p e s m below meth c _ ⟨hx, hb, hml, hown, fun w h => hts w (List.mem_cons_of_mem _ h), hK⟩ hr hlocks hsz ⟨by rw [List.append_nil]; exact hP, hD1, va_S.rf, fun q h => Or.inr (by rw [← hsz]; exact h)⟩ hl hZ
section GV
variable {p : Program} {l : Launch} {e : Env} {R : Room} {s : State} {m : MethodId} {args : Array Value} {below : List Frame} {meth : Method} {c : Code} {H : Heap} {locs : List Loc} {cells slots : Nat} {Q : State → Prop}
variable {cc : ByteArray} {pc nL : Nat} {ls : Array Slot} {rest : List Value} {own : String} {D : va_G} {y : ClassId × ClassId × ClassId} {A : Nat → Prop} {ad : Nat → Nat} {X : va_W} {σ : gS}
/-- the call of such a method -/
theorem g_runZ (hC : g_C p s m args c cc nL own D y) (hW : g_W A s.heap D y ad X σ H locs) (hZ : g_Z A s s.heap) {index n maxL i ci : Nat} {C : String} {yM : MethodName} {bytes : ByteArray} {ret : Option FieldType} {rm : Room} {As st0 : List Value} {Qc : Array Value → State → Outcome → State → Prop} {free : Addr → Prop} {q : vw_C} {fl : List (Option Nat)}
    (hM : Met l yM (Cond.code yM bytes maxL ret :: gl) rm (g_PcX D y ad σ H.size (.ref (ad i) :: As)) Qc 0 0 free) (ok : g_okV own index C yM bytes maxL ret n) (hrm : rm.cells = 0 ∧ rm.slots = 0 ∧ rm.frames + 1 ≤ R.frames ∧ 8 + (maxL + 11) + rm.locals ≤ R.locals) (hi : i < 143) (hsh : g_sh i = .inl (ci, fl)) (hc : vwCl[ci]? = some q) (hq : q.1 = C) (hn : As.length = n) (hls : ls.size = nL) (hst : st0 = As.reverse ++ .ref (ad i) :: rest) (hrest : (rest.map fun v => v.category).sum ≤ 8) (hdg : decode cc pc = .ok (.invokevirtual index, 3)) (hcs : cells ≤ R.cells ∧ slots ≤ R.slots) :
    va_Run p l e R s m args below meth c H locs cells slots 0 0 (F0 m pc ls st0) rest (Qc (Value.ref (ad i) :: As).toArray) free := by
  obtain ⟨hx, hb, hml, hown, hts, hK⟩ := hC
  have hcl := g_cl hW
  obtain ⟨hP, hD, hS, hA⟩ := hW
  have hP0 : va_P D vwCl (g_wl y ad σ) H := fun k x hk => hP k x (by rw [List.getElem?_append_left (List.getElem?_eq_some_iff.mp hk).1]; exact hk)
  have hD0 : va_D (fun _ => True) (g_wl y ad σ) := ⟨fun i j a b ha hb => hD.1 i j a b (by rw [List.getElem?_append_left (List.getElem?_eq_some_iff.mp ha).1]; exact ha) (by rw [List.getElem?_append_left (List.getElem?_eq_some_iff.mp hb).1]; exact hb), fun _ _ _ => trivial⟩
  have hZ1 : g_Z (g_A ad H.size) s H := (hZ.kept hS.2.1).narrow hcl
  refine va_runV (As := As) (rest := rest) ⟨hx, hb, hml, hown, hts⟩ hM (cwV n hts (g_goodV ok) rfl hrm.1 hrm.2.1 ok.2.2.2.2.2 ⟨hrm.2.2.1, hrm.2.2.2⟩) ⟨g_blindX, ?_, fun U hU hW => ⟨rfl, by rw [hU], by rw [hU]; exact hP0, va_K.moved hW.alike hK, hD0, by rw [hU]; exact hZ1.warm hW⟩⟩ rfl hn hls (by rw [hst]) (lv_room hrest) hdg hcs
  rw [← hq]
  exact va_recv hK hP hc (by rw [g_wl_get y ad σ X hi, g_ce_obj hsh])
end GV
