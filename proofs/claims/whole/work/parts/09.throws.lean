/-! ===== methods that throw: what they need of the launch, and their ends ===== -/
def gx_ok : Cond → Bool
  | .castable .. => true
  | .declares .. => true
  | w => goodWord w
theorem gx_warm {w : Cond} (hg : gx_ok w = true) {s U : State} (hW : s.WarmedH U.vm) (h : va_Nw w s) : va_Nw w U := by
  have key : goodWord w = true → va_Nw w U := fun hw => word_at hW (good_of_word hw) h
  cases w <;> first | exact va_Nw.warmC hW h | exact va_Nw.warmD hW h | exact key hg
theorem gx_on {w : Cond} (h : gx_ok w = true) (h2 : vx_ot w = true) : w.onTables = true ∨ goodWord w = true := by
  simp only [vx_ot, Bool.or_eq_true] at h2
  exact h2
def gx : List Cond := lw_tbl.filter gx_ok
def g_strs : List (Nat × String) := [(76, "kind or size out of range"), (86, "no more stands"), (103, "no such stand"), (106, "the same stand, or limit out of range"), (116, "buffer out of range"), (148, "what is not 0 to 6"), (150, "minute out of range"), (157, "no stay at this minute"), (163, "size or weight out of range"), (165, "departure too early"), (167, "no more turns"), (176, "no such turn"), (196, "what is not 0 to 5"), (202, "no such turn or stay"), (222, "no such turn, stay or stand"), (229, "refused"), (238, "no stand for this stay"), (240, "on no stand"), (242, "no reason was kept"), (247, "no minute for a tow"), (252, "it has a tow"), (257, "it has no tow"), (262, "minutes out of range"), (267, "the departure would be too late"), (286, "no repair"), (295, "no repair or no such move"), (318, "account is not 0 to 10"), (334, "no turns"), (337, "character out of range"), (342, "the input is full"), (352, "not a text of this kind"), (367, "an entry cannot be done"), (369, "no error position was kept"), (374, "no change is remembered"), (379, "nothing was saved")]
/-- the texts of StandAssigner$Text, by their places -/
def ts_len : List Nat := [6, 4, 4, 4, 1, 0]
def ts_byt : List (List Int32) := [[35, 46, 35, 64, 35, 59], [35, 46, 35, 59], [35, 43, 42, 59], [35, 64, 42, 59], [59], []]
def ts_txt : List String := ["#.#@#;", "#.#;", "#+*;", "#@*;", ";", ""]
def g_V (adK adV : Nat → Nat) (A : Nat → Prop) (U : State) (H : Heap) : Prop := vk_S 6 ts_len ts_byt adK adV A U H ∧ (∀ i, i < 6 → vk_R RX5 (60 + 2 * i) (ts_txt.getD i "") (adK i) U) ∧ va_Z "java/lang/String" "COMPACT_STRINGS" "Z" (.int 1) A U H ∧ va_Zq "jdk/internal/util/Preconditions" "SIOOBE_FORMATTER" "Ljava/util/function/BiFunction;" A U H
theorem g_V.warm {adK adV : Nat → Nat} {A : Nat → Prop} {s U : State} {H : Heap} (hW : s.WarmedH U.vm) (h : g_V adK adV A s H) : g_V adK adV A U H := ⟨vk_S.moved hW.alike h.1, fun i hi => vk_R.warm hW (h.2.1 i hi), va_Z.moved hW.alike h.2.2.1, va_Zq.moved hW.alike h.2.2.2⟩
theorem g_V.kept {adK adV : Nat → Nat} {A : Nat → Prop} {s : State} {H H1 : Heap} (h : g_V adK adV A s H) (hq : ∀ a : Nat, a < H.size → ¬ A a → H1[a]? = H[a]?) : g_V adK adV A s H1 := ⟨h.1.kept hq, h.2.1, h.2.2.1.kept hq, h.2.2.2.kept hq⟩
theorem g_V.narrow {adK adV : Nat → Nat} {A B : Nat → Prop} {s : State} {H : Heap} (h : g_V adK adV A s H) (hAB : ∀ q, B q → A q) : g_V adK adV B s H := ⟨h.1.narrow hAB, h.2.1, h.2.2.1.narrow hAB, h.2.2.2.narrow hAB⟩
def g_Z (A : Nat → Prop) (U : State) (H : Heap) : Prop := (∀ w ∈ gx, va_Nw w U) ∧ vx_Zq Bundle.tN "UNASSIGNED_STACK" Bundle.steD A U H ∧ vx_Zq Bundle.tN "SUPPRESSED_SENTINEL" Bundle.listD A U H ∧ (∀ q ∈ g_strs, ∃ sa : Nat, vk_R RX6 q.1 q.2 sa U) ∧ ∃ adK adV : Nat → Nat, g_V adK adV A U H
theorem g_Z.warm {A : Nat → Prop} {s U : State} {H : Heap} (hW : s.WarmedH U.vm) (h : g_Z A s H) : g_Z A U H := by
  obtain ⟨h1, h2, h3, h4, adK, adV, h5⟩ := h
  refine ⟨fun w hw => gx_warm (List.mem_filter.mp hw).2 hW (h1 w hw), vx_Zq.moved hW.alike h2, vx_Zq.moved hW.alike h3, fun q hq => ?_, adK, adV, h5.warm hW⟩
  obtain ⟨sa, h⟩ := h4 q hq
  exact ⟨sa, vk_R.warm hW h⟩
theorem g_Z.kept {A : Nat → Prop} {s : State} {H H1 : Heap} (h : g_Z A s H) (hq : ∀ a : Nat, a < H.size → ¬ A a → H1[a]? = H[a]?) : g_Z A s H1 := by
  obtain ⟨h1, h2, h3, h4, adK, adV, h5⟩ := h
  exact ⟨h1, h2.kept hq, h3.kept hq, h4, adK, adV, h5.kept hq⟩
theorem g_Z.narrow {A B : Nat → Prop} {s : State} {H : Heap} (h : g_Z A s H) (hAB : ∀ q, B q → A q) : g_Z B s H := by
  obtain ⟨h1, h2, h3, h4, adK, adV, h5⟩ := h
  exact ⟨h1, h2.narrow hAB, h3.narrow hAB, h4, adK, adV, h5.narrow hAB⟩
def g_PcX (D : va_G) (y : ClassId × ClassId × ClassId) (ad : Nat → Nat) (σ : gS) (sz : Nat) (av : List Value) : Array Value → State → Prop := va_Pc av (fun U => U.heap.size = sz ∧ va_P D vwCl (g_wl y ad σ) U.heap ∧ va_K D vwCl (g_ty y) U ∧ va_D (fun _ => True) (g_wl y ad σ) ∧ g_Z (g_A ad sz) U U.heap)
def g_QX (D : va_G) (y : ClassId × ClassId × ClassId) (ad : Nat → Nat) (sz : Nat) (q : (String ⊕ Int32) × gS) : Array Value → State → Outcome → State → Prop := va_Qi (fun (r1 : Int32) (_ : Unit) => q.1 = .inr r1) (fun _ t => va_P D vwCl (g_wl y ad q.2) t.heap) (g_A ad sz)
def g_XX {α : Type} (D : va_G) (y : ClassId × ClassId × ClassId) (ad : Nat → Nat) (sz : Nat) (q : (String ⊕ α) × gS) : String → State → State → Prop := vx_X (fun (_ : Unit) => True) (fun E _ t => q.1 = .inl E ∧ va_P D vwCl (g_wl y ad q.2) t.heap) (g_A ad sz)
theorem g_blindX {D : va_G} {y : ClassId × ClassId × ClassId} {ad : Nat → Nat} {σ : gS} {sz : Nat} {av : List Value} : FrameBlind (g_PcX D y ad σ sz av) := by
  intro a U g mk q
  obtain ⟨q0, q1, qP, qK, qD, qZ⟩ := q
  exact ⟨q0, q1, qP, va_K.moved (u := U) (U := U.calling g mk a) (Vm.Alike.refl U.vm) qK, qD, g_Z.warm (s := U) (U := U.calling g mk a) (State.WarmedH.refl U) qZ⟩
section GX
variable {p : Program} {l : Launch} {e : Env} {R : Room} {s : State} {m : MethodId} {args : Array Value} {below : List Frame} {meth : Method} {c : Code} {H : Heap} {locs : List Loc} {Q : State → Prop}
variable {cc : ByteArray} {pc nL : Nat} {ls : Array Slot} {rest : List Value} {own : String} {D : va_G} {y : ClassId × ClassId × ClassId} {ad : Nat → Nat} {σ : gS} {sz : Nat} {q : (String ⊕ Int32) × gS}
theorem g_iretX {r : Int32} (hq : (.inr r, σ) = q) (hC : g_C p s m args c cc nL own D y) (hr : meth.sig.returnType = some .int) (hlk : meth.locks = false) (hsz : s.heap.size = sz) (hW : g_W (g_A ad sz) s.heap D y ad [] σ H locs) (hdg : decode cc pc = .ok (.ireturn, 1)) :
    W p l e R s m args below meth c H locs 0 0 (vx_MQ below (g_QX D y ad sz q) (g_XX D y ad sz q) args s 1 6 (g_A ad sz)) (F0 m pc ls [.int r]) := by
  subst hq
  obtain ⟨hx, hb, -⟩ := hC
  obtain ⟨hP, hD, hS, hA⟩ := hW
  rw [List.append_nil] at hP
  exact W.widen (k := 1) (n := 6) (by omega) (by omega) (vx_ret (W.iret hx hb hr (fun t ht hW => ⟨⟨r, (), rfl, rfl, by show va_P D vwCl (g_wl y ad σ) t.heap; rw [ht]; exact hP⟩, hS.F ht⟩) hS.2.2 hdg hlk))
theorem g_zretX {r : Int32} (hq : (.inr r, σ) = q) (hC : g_C p s m args c cc nL own D y) (hr : meth.sig.returnType = some .boolean) (hlk : meth.locks = false) (hsz : s.heap.size = sz) (hW : g_W (g_A ad sz) s.heap D y ad [] σ H locs) (hz : bz r = true) (hdg : decode cc pc = .ok (.ireturn, 1)) :
    W p l e R s m args below meth c H locs 0 0 (vx_MQ below (g_QX D y ad sz q) (g_XX D y ad sz q) args s 1 6 (g_A ad sz)) (F0 m pc ls [.int r]) := by
  subst hq
  obtain ⟨hx, hb, -⟩ := hC
  obtain ⟨hP, hD, hS, hA⟩ := hW
  rw [List.append_nil] at hP
  exact W.widen (k := 1) (n := 6) (by omega) (by omega) (vx_ret (W.zret hx hb hr (by rcases of_decide_eq_true hz with rfl | rfl <;> rfl) (fun t ht hW => ⟨⟨r, (), rfl, rfl, by show va_P D vwCl (g_wl y ad σ) t.heap; rw [ht]; exact hP⟩, hS.F ht⟩) hS.2.2 hdg hlk))
/-- the words of 'throw new E(..)' in StandAssigner -/
def g_okT (ik ic : Nat) (cls : String) (names : List String) : Prop := Bundle.fit cls = true ∧ (∀ n ∈ names, Bundle.fit n = true) ∧ Cond.classLink RX6 ik cls ∈ gl ∧ Cond.initialized cls ∈ gl ∧ (∀ w ∈ vx_atS RX6 ic cls names, w ∈ gx) ∧ (∀ w ∈ Cond.classLink RX6 ik cls :: Cond.initialized cls :: vx_atS RX6 ic cls names, vx_ot w = true) ∧ names.length = 2
theorem g_throw {α : Type} {q : (String ⊕ α) × gS} {Qc : Array Value → State → Outcome → State → Prop} (hfl : l.stackTraces = false) {cls text : String} {names : List String} {ik is ic : Nat} (ok : g_okT ik ic cls names) (hq : (.inl cls, σ) = q) (hC : g_C p s m args c cc nL RX6 D y) (hlk : meth.locks = false) (ht : ∀ x ∈ c.exceptionTable.toList, False) (hZ : g_Z (g_A ad sz) s s.heap) (hls : ls.size = nL) (hW : g_W (g_A ad sz) s.heap D y ad [] σ H locs) (hstr : (is, text) ∈ g_strs)
    (d0 : decode cc pc = .ok (.new ik, 3)) (d3 : decode cc (pc + 3) = .ok (.dup, 1)) (d4 : decode cc (pc + 4) = .ok (.ldc is, 2)) (d6 : decode cc (pc + 6) = .ok (.invokespecial ic, 3)) (d9 : decode cc (pc + 9) = .ok (.athrow, 1)) (hR : 6 ≤ R.frames ∧ 82 ≤ R.locals ∧ 1 ≤ R.cells ∧ 6 ≤ R.slots) :
    W p l e R s m args below meth c H locs 0 0 (vx_MQ below Qc (g_XX D y ad sz q) args s 1 6 (g_A ad sz)) (F0 m pc ls []) := by
  subst hq
  obtain ⟨hx, hb, hml, hown, hts, hK⟩ := hC
  obtain ⟨hP, hD, hS, hA⟩ := hW
  rw [List.append_nil] at hP
  obtain ⟨o1, o2, o3, o4, o5, o6, o7⟩ := ok
  obtain ⟨sa, hsa⟩ := hZ.2.2.2.1 _ hstr
  refine vx_throwS (names := names) (text := text) (sa := sa) hx hb hfl hown o1 o2 (hts _ o3) (hts _ o4) hsa (fun w hw => vx_ot_at (State.WarmedH.refl s) rfl (o6 w (List.mem_cons_of_mem _ (List.mem_cons_of_mem _ hw))) (hZ.1 w (o5 w hw))) o6 hZ.2.1 hZ.2.2.1 hS (hls.trans hml.symm) d0 d3 d4 d6 d9 (fun x hx => (ht x hx).elim) (by rw [o7]; exact hR.1) (by rw [o7]; exact hR.2.1) hR.2.2.1 hR.2.2.2 hlk (fun t hal hz hk => ⟨(), trivial, ⟨rfl, hP.kept (fun k x hx => hk x.1 (hP k x hx).lt)⟩, ⟨Nat.le_trans hS.1 hz, fun z h1 h2 => (hk z (Nat.lt_of_lt_of_le h1 hS.1)).trans (hS.2.1 z h1 h2)⟩⟩) hS.2.2 (by omega) (by omega)
theorem g_throwW {α : Type} {q : (String ⊕ α) × gS} {Qc : Array Value → State → Outcome → State → Prop} (hfl : l.stackTraces = false) {cls text : String} {names : List String} {ik is ic : Nat} (ok : g_okT ik ic cls names) (hq : (.inl cls, σ) = q) (hC : g_C p s m args c cc nL RX6 D y) (hlk : meth.locks = false) (ht : ∀ x ∈ c.exceptionTable.toList, False) (hZ : g_Z (g_A ad sz) s s.heap) (hls : ls.size = nL) (hW : g_W (g_A ad sz) s.heap D y ad [] σ H locs) (hstr : (is, text) ∈ g_strs)
    (d0 : decode cc pc = .ok (.new ik, 3)) (d3 : decode cc (pc + 3) = .ok (.dup, 1)) (d4 : decode cc (pc + 4) = .ok (.ldc_w is, 3)) (d7 : decode cc (pc + 7) = .ok (.invokespecial ic, 3)) (d10 : decode cc (pc + 10) = .ok (.athrow, 1)) (hR : 6 ≤ R.frames ∧ 82 ≤ R.locals ∧ 1 ≤ R.cells ∧ 6 ≤ R.slots) :
    W p l e R s m args below meth c H locs 0 0 (vx_MQ below Qc (g_XX D y ad sz q) args s 1 6 (g_A ad sz)) (F0 m pc ls []) := by
  subst hq
  obtain ⟨hx, hb, hml, hown, hts, hK⟩ := hC
  obtain ⟨hP, hD, hS, hA⟩ := hW
  rw [List.append_nil] at hP
  obtain ⟨o1, o2, o3, o4, o5, o6, o7⟩ := ok
  obtain ⟨sa, hsa⟩ := hZ.2.2.2.1 _ hstr
  refine vx_throwSW (names := names) (text := text) (sa := sa) hx hb hfl hown o1 o2 (hts _ o3) (hts _ o4) hsa (fun w hw => vx_ot_at (State.WarmedH.refl s) rfl (o6 w (List.mem_cons_of_mem _ (List.mem_cons_of_mem _ hw))) (hZ.1 w (o5 w hw))) o6 hZ.2.1 hZ.2.2.1 hS (hls.trans hml.symm) d0 d3 d4 d7 d10 (fun x hx => (ht x hx).elim) (by rw [o7]; exact hR.1) (by rw [o7]; exact hR.2.1) hR.2.2.1 hR.2.2.2 hlk (fun t hal hz hk => ⟨(), trivial, ⟨rfl, hP.kept (fun k x hx => hk x.1 (hP k x hx).lt)⟩, ⟨Nat.le_trans hS.1 hz, fun z h1 h2 => (hk z (Nat.lt_of_lt_of_le h1 hS.1)).trans (hS.2.1 z h1 h2)⟩⟩) hS.2.2 (by omega) (by omega)
end GX
theorem g_startX {l : Launch} {yM : MethodName} {cc : ByteArray} {maxL : Nat} {ret : Option FieldType} {rm : Room} {D : va_G} {y : ClassId × ClassId × ClassId} {ad : Nat → Nat} {σ : gS} {sz : Nat} {av : List Value} {Qc : Array Value → State → Outcome → State → Prop} {XC : String → State → State → Prop} (hy : plainName yM.cls = true) (hlen : (lg_sl av).length ≤ maxL)
    (body : ∀ (p : Program) (e : Env) (s : State) (m : MethodId) (below : List Frame) (meth : Method) (c : Code) (ls : Array Slot), g_C p s m av.toArray c cc maxL yM.cls D y → meth.sig.returnType = ret → meth.locks = false → s.heap.size = sz → g_W (g_A ad sz) s.heap D y ad [] σ s.heap [] → lv_has ls maxL (lv_args 0 av) → (∀ x ∈ c.exceptionTable.toList, False) → g_Z (g_A ad sz) s s.heap →
      W p l e rm s m av.toArray below meth c s.heap [] 0 0 (vx_MQ below Qc XC av.toArray s 1 6 (g_A ad sz)) (F0 m 0 ls [])) : vx_Met l yM (Cond.code yM cc maxL ret :: gl) rm (g_PcX D y ad σ sz av) Qc XC 1 6 (g_A ad sz) := by
  refine vx_ofW (cc := cc) (maxL := maxL) (ret := ret) hy rfl ?_
  intro p e s m args below meth c s₁ B hml ht hv
  obtain ⟨rfl, hsz, hP, hK, hD0, hZ⟩ := hv
  have hx := B.exec
  have hb := B.bytes
  have hr := B.returns
  have hts := atoms_spec (ws := Cond.code yM cc maxL ret :: gl) B.pre
  have hown : s.vm.findClass yM.cls = some m.cls := findClass_of_methodNamed B.named
  have hlocks := B.notSynchronized
  have hl := lv_entry av (n := maxL) hlen
  rw [lg_entry_eq]
  have hD1 : va_D (g_A ad sz) (g_wl y ad σ ++ []) := by
    rw [List.append_nil]
    refine ⟨hD0.1, fun k q hq => ?_⟩
    obtain ⟨h1, rfl⟩ := g_wl_inv hq
    exact Or.inl ⟨k, h1, rfl⟩
  exact body p e s m below meth c _ ⟨hx, hb, hml, hown, fun w h => hts w (List.mem_cons_of_mem _ h), hK⟩ hr hlocks hsz ⟨by rw [List.append_nil]; exact hP, hD1, va_S.rf, fun q h => Or.inr (by rw [← hsz]; exact h)⟩ hl ht hZ
theorem ox_IllegalArgumentException : g_okT 74 78 "java/lang/IllegalArgumentException" ["java/lang/RuntimeException", "java/lang/Exception"] := ⟨by decide +kernel, by decide +kernel, gl_2 (i := 161) (by decide +kernel) rfl, gl_1 (i := 13) (by decide +kernel) rfl, fun w h => List.mem_filter.mpr ⟨(by decide +kernel : ∀ w ∈ vx_atS RX6 78 "java/lang/IllegalArgumentException" ["java/lang/RuntimeException", "java/lang/Exception"], w ∈ lw_tbl) w h, (by decide +kernel : ∀ w ∈ vx_atS RX6 78 "java/lang/IllegalArgumentException" ["java/lang/RuntimeException", "java/lang/Exception"], gx_ok w = true) w h⟩, by decide +kernel, rfl⟩
theorem ox_IllegalStateException : g_okT 84 88 "java/lang/IllegalStateException" ["java/lang/RuntimeException", "java/lang/Exception"] := ⟨by decide +kernel, by decide +kernel, gl_2 (i := 233) (by decide +kernel) rfl, gl_1 (i := 14) (by decide +kernel) rfl, fun w h => List.mem_filter.mpr ⟨(by decide +kernel : ∀ w ∈ vx_atS RX6 88 "java/lang/IllegalStateException" ["java/lang/RuntimeException", "java/lang/Exception"], w ∈ lw_tbl) w h, (by decide +kernel : ∀ w ∈ vx_atS RX6 88 "java/lang/IllegalStateException" ["java/lang/RuntimeException", "java/lang/Exception"], gx_ok w = true) w h⟩, by decide +kernel, rfl⟩
theorem ox_IndexOutOfBoundsException : g_okT 101 105 "java/lang/IndexOutOfBoundsException" ["java/lang/RuntimeException", "java/lang/Exception"] := ⟨by decide +kernel, by decide +kernel, gl_3 (i := 48) (by decide +kernel) rfl, gl_1 (i := 16) (by decide +kernel) rfl, fun w h => List.mem_filter.mpr ⟨(by decide +kernel : ∀ w ∈ vx_atS RX6 105 "java/lang/IndexOutOfBoundsException" ["java/lang/RuntimeException", "java/lang/Exception"], w ∈ lw_tbl) w h, (by decide +kernel : ∀ w ∈ vx_atS RX6 105 "java/lang/IndexOutOfBoundsException" ["java/lang/RuntimeException", "java/lang/Exception"], gx_ok w = true) w h⟩, by decide +kernel, rfl⟩
theorem ox_UnsupportedOperationException : g_okT 227 231 "java/lang/UnsupportedOperationException" ["java/lang/RuntimeException", "java/lang/Exception"] := ⟨by decide +kernel, by decide +kernel, gl_3 (i := 227) (by decide +kernel) rfl, gl_1 (i := 22) (by decide +kernel) rfl, fun w h => List.mem_filter.mpr ⟨(by decide +kernel : ∀ w ∈ vx_atS RX6 231 "java/lang/UnsupportedOperationException" ["java/lang/RuntimeException", "java/lang/Exception"], w ∈ lw_tbl) w h, (by decide +kernel : ∀ w ∈ vx_atS RX6 231 "java/lang/UnsupportedOperationException" ["java/lang/RuntimeException", "java/lang/Exception"], gx_ok w = true) w h⟩, by decide +kernel, rfl⟩
theorem ox_ArithmeticException : g_okT 332 336 "java/lang/ArithmeticException" ["java/lang/RuntimeException", "java/lang/Exception"] := ⟨by decide +kernel, by decide +kernel, gl_5 (i := 9) (by decide +kernel) rfl, gl_1 (i := 23) (by decide +kernel) rfl, fun w h => List.mem_filter.mpr ⟨(by decide +kernel : ∀ w ∈ vx_atS RX6 336 "java/lang/ArithmeticException" ["java/lang/RuntimeException", "java/lang/Exception"], w ∈ lw_tbl) w h, (by decide +kernel : ∀ w ∈ vx_atS RX6 336 "java/lang/ArithmeticException" ["java/lang/RuntimeException", "java/lang/Exception"], gx_ok w = true) w h⟩, by decide +kernel, rfl⟩
