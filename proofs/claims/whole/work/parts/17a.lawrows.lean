/-! ===== the law's own body: rows ===== -/
def g_lw (p : Program) (s : State) (m : MethodId) (c : Code) (b L : Nat) (xs : Nat → Int32) (D : va_G) (y : ClassId × ClassId × ClassId) (cL cD : ClassId) : Prop :=
  g_C p s m #[.ref b] c code 8 RL D y ∧ va_K D vwCl [(cL, .long)] s ∧ va_K D vwCl [(cD, .double)] s ∧ g_Y (fun q => s.heap.size ≤ q) s s.heap ∧ va_X b L xs s s.heap ∧ b < s.heap.size
def g_X2 (cL cD : ClassId) (oa od : Nat) (f : Nat → Int64) (fd : Nat → UInt64) : va_W := [(oa, .inl (cL, 1, .inr (.inl f))), (od, .inl (cD, 1, .inr (.inr (.inr (.inl fd)))))]
abbrev g_ll (b oa od : Nat) (ad : Nat → Nat) (i : Int32) : List (Nat × Value) := [(0, .ref b), (1, .ref (ad 0)), (2, .ref (ad 132)), (3, .ref oa), (4, .ref od), (5, .int i)]
def bx (x : Int32) : Int32 := if x = 0 then 0 else 1
def g_okL (own : String) (index : Nat) (yM : MethodName) (bytes : ByteArray) (maxL : Nat) (ret : Option FieldType) (hh : List (Nat × Nat × Nat × Nat)) (n : Nat) : Prop :=
  Cond.codeWith yM bytes maxL ret hh ∈ gl ∧ Cond.methodLink own index yM ∈ gl ∧ Cond.static yM ∈ gl ∧ Cond.initialized yM.cls ∈ gl ∧ (yM.cls ≠ "java/lang/invoke/MethodHandle" ∧ yM.cls ≠ "java/lang/invoke/VarHandle" ∧ (parseMethodDescriptor yM.desc).map (fun d => d.parameters.length) = some n)
theorem g_goodL {own : String} {index : Nat} {yM : MethodName} {bytes : ByteArray} {maxL n : Nat} {ret : Option FieldType} {hh : List (Nat × Nat × Nat × Nat)} (ok : g_okL own index yM bytes maxL ret hh n) : GoodIn gl (va_wsS own index yM (Cond.codeWith yM bytes maxL ret hh :: gl)) := by
  obtain ⟨h1, h2, h3, h4, -⟩ := ok
  refine g_gin (fun w hw => ?_)
  rcases List.mem_append.mp (show w ∈ ([.methodLink own index yM, .static yM, .initialized yM.cls] : List Cond) ++ (Cond.codeWith yM bytes maxL ret hh :: gl) from hw) with h | h
  · simp only [List.mem_cons, List.not_mem_nil, or_false] at h
    rcases h with rfl | rfl | rfl <;> assumption
  · rcases List.mem_cons.mp h with rfl | h
    · exact h1
    · exact h
theorem g_joinL {A : Nat → Prop} {H0 H H1 : Heap} {D : va_G} {y : ClassId × ClassId × ClassId} {ad : Nat → Nat} {X : va_W} {σ σ' : gS} {locs locs1 : List Loc} (hW : g_W A H0 D y ad X σ H locs) {j oa : Nat} {ee ee' : va_E} (hX : X[j]? = some (oa, ee)) (hP : va_P D vwCl (g_wl y ad σ' ++ [(oa, ee')]) H1) (hk : ∀ q : Nat, q < H.size → ¬ g_AL ad oa H.size q → H1[q]? = H[q]?) (hS : va_S A H0 H1 locs1) : g_W A H0 D y ad (X.set j (oa, ee')) σ' H1 locs1 := by
  obtain ⟨h1, h2, h3, h4⟩ := hW
  have hjl : j < X.length := (List.getElem?_eq_some_iff.mp hX).1
  have hXj : (g_wl y ad σ ++ X)[143 + j]? = some (oa, ee) := by
    rw [List.getElem?_append_right (by rw [g_wl_len]; omega), g_wl_len, Nat.add_sub_cancel_left]; exact hX
  have key : ∀ (k : Nat) (q : Nat × va_E), (g_wl y ad σ' ++ X.set j (oa, ee'))[k]? = some q → (k < 143 ∧ q = (ad k, g_ce y ad σ' k)) ∨ (k = 143 + j ∧ q = (oa, ee')) ∨ (143 ≤ k ∧ k ≠ 143 + j ∧ (g_wl y ad σ ++ X)[k]? = some q) := by
    intro k q hq
    by_cases hk2 : k < 143
    · rw [g_wl_get y ad σ' _ hk2] at hq
      exact Or.inl ⟨hk2, (Option.some.inj hq).symm⟩
    · by_cases hk3 : k = 143 + j
      · subst hk3
        rw [List.getElem?_append_right (by rw [g_wl_len]; omega), g_wl_len, Nat.add_sub_cancel_left, List.getElem?_set_self hjl] at hq
        exact Or.inr (Or.inl ⟨rfl, (Option.some.inj hq).symm⟩)
      · refine Or.inr (Or.inr ⟨by omega, hk3, ?_⟩)
        rw [List.getElem?_append_right (by rw [g_wl_len]; omega), g_wl_len] at hq ⊢
        rw [List.getElem?_set_ne (by omega)] at hq
        exact hq
  have ad' : ∀ (k : Nat) (q : Nat × va_E), (g_wl y ad σ' ++ X.set j (oa, ee'))[k]? = some q → ∃ q0 : Nat × va_E, (g_wl y ad σ ++ X)[k]? = some q0 ∧ q0.1 = q.1 := by
    intro k q hq
    rcases key k q hq with ⟨a1, rfl⟩ | ⟨rfl, rfl⟩ | ⟨a1, a3, a2⟩
    · exact ⟨_, g_wl_get y ad σ X a1, rfl⟩
    · exact ⟨_, hXj, rfl⟩
    · exact ⟨_, a2, rfl⟩
  refine ⟨?_, ⟨?_, ?_⟩, hS, h4⟩
  · intro k q hq
    rcases key k q hq with ⟨a1, rfl⟩ | ⟨rfl, rfl⟩ | ⟨a1, a3, a2⟩
    · exact hP k _ (g_wl_get y ad σ' _ a1)
    · exact hP 143 _ g_xl_get
    · have hlt := (h1 k q a2).lt
      refine (h1 k q a2).kept (hk q.1 hlt ?_)
      rintro (h | ⟨i, hi, e⟩ | h)
      · have := h2.1 k (143 + j) q _ a2 hXj h
        omega
      · have := h2.1 k i q _ a2 (g_wl_get y ad σ X hi) e
        omega
      · omega
  · intro i j2 a b ha hb hab
    obtain ⟨a0, e1, e2⟩ := ad' i a ha
    obtain ⟨b0, e3, e4⟩ := ad' j2 b hb
    exact h2.1 i j2 a0 b0 e1 e3 (e2.trans (hab.trans e4.symm))
  · intro k q hq
    obtain ⟨q0, e1, e2⟩ := ad' k q hq
    rw [← e2]
    exact h2.2 k q0 e1
section GLW
variable {p : Program} {l : Launch} {e : Env} {R : Room} {s : State} {m : MethodId} {args : Array Value} {below : List Frame} {meth : Method} {c : Code} {H : Heap} {locs : List Loc} {cells slots : Nat} {Q : State → Prop}
variable {cc : ByteArray} {pc nL : Nat} {ls : Array Slot} {rest : List Value} {own : String} {D : va_G} {y : ClassId × ClassId × ClassId} {A : Nat → Prop} {ad : Nat → Nat} {X : va_W} {σ : gS}
/-- the call of a helper -/
theorem g_callL (hC : g_C p s m args c cc nL own D y) {kl : ClassId × FieldType} (hKL : va_K D vwCl [kl] s) (hY : g_Y A s s.heap) (hW : g_W A s.heap D y ad X σ H locs) {j oa : Nat} {ee : va_E} (hX : X[j]? = some (oa, ee)) {index n maxL : Nat} {yM : MethodName} {bytes : ByteArray} {ret : Option FieldType} {hh : List (Nat × Nat × Nat × Nat)} {rm : Room} {As st0 : List Value} {q : Int32 × va_E × gS}
    (hM : Met l yM (Cond.codeWith yM bytes maxL ret hh :: gl) rm (g_PcL D y ad σ H.size kl oa ee As) (g_QL D y ad H.size oa q) 1 6 (g_AL ad oa H.size)) (ok : g_okL own index yM bytes maxL ret hh n) (hrm : rm.cells = 1 ∧ rm.slots = 6 ∧ rm.frames + 1 ≤ R.frames ∧ 8 + (maxL + 11) + rm.locals ≤ R.locals) (hn : As.length = n) (hls : ls.size = nL) (hst : st0 = As.reverse ++ rest) (hrest : (rest.map fun v => v.category).sum ≤ 8) (hdg : decode cc pc = .ok (.invokestatic index, 3)) (hcs : cells + 1 ≤ R.cells ∧ slots + 6 ≤ R.slots)
    (kk : ∀ (H1 : Heap) (locs1 : List Loc), g_W A s.heap D y ad (X.set j (oa, q.2.1)) q.2.2 H1 locs1 → W p l e R s m args below meth c H1 locs1 (cells + 1) (slots + 6) Q (F0 m (pc + 3) ls (.int q.1 :: rest))) : W p l e R s m args below meth c H locs cells slots Q (F0 m pc ls st0) := by
  obtain ⟨hx, hb, hml, hown, hts, hK⟩ := hC
  have hcl := g_cl hW
  have hW0 := hW
  obtain ⟨hP, hD, hS, hA⟩ := hW
  have hXj : (g_wl y ad σ ++ X)[143 + j]? = some (oa, ee) := by
    rw [List.getElem?_append_right (by rw [g_wl_len]; omega), g_wl_len, Nat.add_sub_cancel_left]; exact hX
  have sub : ∀ (k : Nat) (x : Nat × va_E), (g_wl y ad σ ++ [(oa, ee)])[k]? = some x → ∃ k2, (g_wl y ad σ ++ X)[k2]? = some x ∧ (k = k2 ∧ k < 143 ∨ k = 143 ∧ k2 = 143 + j) := by
    intro k x hk
    by_cases h : k < 143
    · rw [g_wl_get y ad σ _ h] at hk
      exact ⟨k, by rw [g_wl_get y ad σ X h]; exact hk, Or.inl ⟨rfl, h⟩⟩
    · rw [List.getElem?_append_right (by rw [g_wl_len]; omega), g_wl_len] at hk
      have h1 := (List.getElem?_eq_some_iff.mp hk).1
      have h0 : k - 143 = 0 := by simp at h1; omega
      rw [h0] at hk
      rw [← Option.some.inj hk]
      exact ⟨143 + j, hXj, Or.inr ⟨by omega, rfl⟩⟩
  have hP0 : va_P D vwCl (g_wl y ad σ ++ [(oa, ee)]) H := fun k x hk => by
    obtain ⟨k2, h2, -⟩ := sub k x hk
    exact hP k2 x h2
  have hD0 : va_D (fun _ => True) (g_wl y ad σ ++ [(oa, ee)]) := ⟨fun i j a b ha hb hab => by
    obtain ⟨i2, h1, h3⟩ := sub i a ha
    obtain ⟨j2, h2, h4⟩ := sub j b hb
    have := hD.1 i2 j2 a b h1 h2 hab
    omega, fun _ _ _ => trivial⟩
  have hcL : ∀ q, g_AL ad oa H.size q → A q := by
    rintro q (rfl | h)
    · exact hD.2 _ _ hXj
    · exact hcl q h
  have hY1 : g_Y (g_AL ad oa H.size) s H := (hY.kept hS.2.1).narrow hcL
  refine va_calli (vx_runSW (As := As) (rest := rest) ⟨hx, hb, hml, hown, hts⟩ hM (vx_cwSW n hts (g_goodL ok) rfl hrm.1 hrm.2.1 ok.2.2.2.2 ⟨hrm.2.2.1, hrm.2.2.2⟩) ⟨g_blindL, fun U hU hW => ⟨rfl, by rw [hU], by rw [hU]; exact hP0, va_K.moved hW.alike hK, va_K.moved hW.alike hKL, hD0, by rw [hU]; exact hY1.warm hW⟩⟩ rfl hn hls (by rw [hst]) (lv_room hrest) hdg hcs) hS (fun q _ h => hcL q h) hcL (fun r1 u t H1 locs1 ht hvm hp hB hz hk hS => ?_)
  subst hp
  rw [ht] at hB
  exact kk H1 locs1 (g_joinL hW0 hX hB hk hS)
theorem g_callf {st0 : List Value} {a : Array Value} {σ' : gS} {r : UInt32} {H0 : Heap} (hW : g_W A H0 D y ad X σ H locs) (hr : va_Run p l e R s m args below meth c H locs cells slots 0 0 (F0 m pc ls st0) rest (g_Qf D y ad σ' H.size r a) (g_A ad H.size))
    (kk : ∀ (H1 : Heap) (locs1 : List Loc), g_W A H0 D y ad X σ' H1 locs1 → W p l e R s m args below meth c H1 locs1 cells slots Q (F0 m (pc + 3) ls (.float r :: rest))) : W p l e R s m args below meth c H locs cells slots Q (F0 m pc ls st0) := by
  refine va_callf hr hW.2.2.1 (fun q _ h => g_cl hW q h) (g_cl hW) (fun r1 u t H1 locs1 ht hvm hp hB hz hk hS => ?_)
  subst hp
  rw [ht] at hB
  exact kk H1 locs1 (g_join hW hB hk hS)
theorem g_X2_0 {cL cD : ClassId} {oa od : Nat} {f : Nat → Int64} {fd : Nat → UInt64} : (g_wl y ad σ ++ g_X2 cL cD oa od f fd)[143]? = some (oa, .inl (cL, 1, .inr (.inl f))) := by
  rw [List.getElem?_append_right (by rw [g_wl_len]; omega), g_wl_len]; rfl
theorem g_X2_1 {cL cD : ClassId} {oa od : Nat} {f : Nat → Int64} {fd : Nat → UInt64} : (g_wl y ad σ ++ g_X2 cL cD oa od f fd)[144]? = some (od, .inl (cD, 1, .inr (.inr (.inr (.inl fd))))) := by
  rw [List.getElem?_append_right (by rw [g_wl_len]; omega), g_wl_len]; rfl
end GLW
theorem ii_L : Cond.initialized RL ∈ gl := gl_1 (i := 0) (by decide +kernel) rfl
theorem mc_L_addStand : Cond.codeWith yL_addStand cL_addStand 5 (some .int) [(0, 10, 13, 13), (0, 10, 17, 15)] ∈ gl := gl_2 (i := 154) rfl rfl
theorem ml_L_131 : Cond.methodLink RL 131 yL_addStand ∈ gl := gl_2 (i := 152) (by decide +kernel) rfl
theorem mt_L_addStand : Cond.static yL_addStand ∈ gl := gl_2 (i := 153) (by decide +kernel) rfl
theorem ok_L_131 : g_okL RL 131 yL_addStand cL_addStand 5 (some .int) [(0, 10, 13, 13), (0, 10, 17, 15)] 4 := ⟨mc_L_addStand, ml_L_131, mt_L_addStand, ii_L, by decide +kernel⟩
theorem mc_L_pair : Cond.codeWith yL_pair cL_pair 6 (some .int) [(0, 12, 15, 21), (0, 12, 19, 13)] ∈ gl := gl_3 (i := 15) rfl rfl
theorem ml_L_140 : Cond.methodLink RL 140 yL_pair ∈ gl := gl_3 (i := 13) (by decide +kernel) rfl
theorem mt_L_pair : Cond.static yL_pair ∈ gl := gl_3 (i := 14) (by decide +kernel) rfl
theorem ok_L_140 : g_okL RL 140 yL_pair cL_pair 6 (some .int) [(0, 12, 15, 21), (0, 12, 19, 13)] 5 := ⟨mc_L_pair, ml_L_140, mt_L_pair, ii_L, by decide +kernel⟩
theorem mc_L_setOpen : Cond.codeWith yL_setOpen cL_setOpen 5 (some .int) [(0, 17, 20, 21)] ∈ gl := gl_3 (i := 68) rfl rfl
theorem ml_L_144 : Cond.methodLink RL 144 yL_setOpen ∈ gl := gl_3 (i := 66) (by decide +kernel) rfl
theorem mt_L_setOpen : Cond.static yL_setOpen ∈ gl := gl_3 (i := 67) (by decide +kernel) rfl
theorem ok_L_144 : g_okL RL 144 yL_setOpen cL_setOpen 5 (some .int) [(0, 17, 20, 21)] 4 := ⟨mc_L_setOpen, ml_L_144, mt_L_setOpen, ii_L, by decide +kernel⟩
theorem mc_L_setBuffer : Cond.codeWith yL_setBuffer cL_setBuffer 4 (some .int) [(0, 9, 12, 13)] ∈ gl := gl_3 (i := 79) rfl rfl
theorem ml_L_148 : Cond.methodLink RL 148 yL_setBuffer ∈ gl := gl_3 (i := 77) (by decide +kernel) rfl
theorem mt_L_setBuffer : Cond.static yL_setBuffer ∈ gl := gl_3 (i := 78) (by decide +kernel) rfl
theorem ok_L_148 : g_okL RL 148 yL_setBuffer cL_setBuffer 4 (some .int) [(0, 9, 12, 13)] 3 := ⟨mc_L_setBuffer, ml_L_148, mt_L_setBuffer, ii_L, by decide +kernel⟩
theorem mc_L_stand : Cond.codeWith yL_stand cL_stand 5 (some .int) [(0, 10, 13, 21), (0, 10, 17, 13)] ∈ gl := gl_3 (i := 87) rfl rfl
theorem ml_L_152 : Cond.methodLink RL 152 yL_stand ∈ gl := gl_3 (i := 85) (by decide +kernel) rfl
theorem mt_L_stand : Cond.static yL_stand ∈ gl := gl_3 (i := 86) (by decide +kernel) rfl
theorem ok_L_152 : g_okL RL 152 yL_stand cL_stand 5 (some .int) [(0, 10, 13, 21), (0, 10, 17, 13)] 4 := ⟨mc_L_stand, ml_L_152, mt_L_stand, ii_L, by decide +kernel⟩
theorem mc_L_at : Cond.codeWith yL_at cL_at 5 (some .int) [(0, 10, 13, 21), (0, 10, 17, 13), (0, 10, 21, 37)] ∈ gl := gl_3 (i := 118) rfl rfl
theorem ml_L_155 : Cond.methodLink RL 155 yL_at ∈ gl := gl_3 (i := 116) (by decide +kernel) rfl
theorem mt_L_at : Cond.static yL_at ∈ gl := gl_3 (i := 117) (by decide +kernel) rfl
theorem ok_L_155 : g_okL RL 155 yL_at cL_at 5 (some .int) [(0, 10, 13, 21), (0, 10, 17, 13), (0, 10, 21, 37)] 4 := ⟨mc_L_at, ml_L_155, mt_L_at, ii_L, by decide +kernel⟩
theorem mc_L_gap : Cond.codeWith yL_gap cL_gap 5 (some .int) [(0, 10, 13, 21), (0, 10, 17, 13)] ∈ gl := gl_3 (i := 147) rfl rfl
theorem ml_L_158 : Cond.methodLink RL 158 yL_gap ∈ gl := gl_3 (i := 145) (by decide +kernel) rfl
theorem mt_L_gap : Cond.static yL_gap ∈ gl := gl_3 (i := 146) (by decide +kernel) rfl
theorem ok_L_158 : g_okL RL 158 yL_gap cL_gap 5 (some .int) [(0, 10, 13, 21), (0, 10, 17, 13)] 4 := ⟨mc_L_gap, ml_L_158, mt_L_gap, ii_L, by decide +kernel⟩
theorem mc_L_addTurn : Cond.codeWith yL_addTurn cL_addTurn 7 (some .int) [(0, 14, 17, 13), (0, 14, 21, 15)] ∈ gl := gl_3 (i := 162) rfl rfl
theorem ml_L_161 : Cond.methodLink RL 161 yL_addTurn ∈ gl := gl_3 (i := 160) (by decide +kernel) rfl
theorem mt_L_addTurn : Cond.static yL_addTurn ∈ gl := gl_3 (i := 161) (by decide +kernel) rfl
theorem ok_L_161 : g_okL RL 161 yL_addTurn cL_addTurn 7 (some .int) [(0, 14, 17, 13), (0, 14, 21, 15)] 6 := ⟨mc_L_addTurn, ml_L_161, mt_L_addTurn, ii_L, by decide +kernel⟩
theorem mc_L_turn : Cond.codeWith yL_turn cL_turn 5 (some .int) [(0, 10, 13, 21), (0, 10, 17, 13)] ∈ gl := gl_3 (i := 180) rfl rfl
theorem ml_L_165 : Cond.methodLink RL 165 yL_turn ∈ gl := gl_3 (i := 178) (by decide +kernel) rfl
theorem mt_L_turn : Cond.static yL_turn ∈ gl := gl_3 (i := 179) (by decide +kernel) rfl
theorem ok_L_165 : g_okL RL 165 yL_turn cL_turn 5 (some .int) [(0, 10, 13, 21), (0, 10, 17, 13)] 4 := ⟨mc_L_turn, ml_L_165, mt_L_turn, ii_L, by decide +kernel⟩
theorem mc_L_ofStay : Cond.codeWith yL_ofStay cL_ofStay 6 (some .int) [(0, 12, 15, 21), (0, 12, 19, 13)] ∈ gl := gl_3 (i := 204) rfl rfl
theorem ml_L_168 : Cond.methodLink RL 168 yL_ofStay ∈ gl := gl_3 (i := 202) (by decide +kernel) rfl
theorem mt_L_ofStay : Cond.static yL_ofStay ∈ gl := gl_3 (i := 203) (by decide +kernel) rfl
theorem ok_L_168 : g_okL RL 168 yL_ofStay cL_ofStay 6 (some .int) [(0, 12, 15, 21), (0, 12, 19, 13)] 5 := ⟨mc_L_ofStay, ml_L_168, mt_L_ofStay, ii_L, by decide +kernel⟩
theorem mc_L_place : Cond.codeWith yL_place cL_place 6 (some .int) [(0, 12, 15, 21), (0, 12, 19, 55)] ∈ gl := gl_3 (i := 219) rfl rfl
theorem ml_L_171 : Cond.methodLink RL 171 yL_place ∈ gl := gl_3 (i := 217) (by decide +kernel) rfl
theorem mt_L_place : Cond.static yL_place ∈ gl := gl_3 (i := 218) (by decide +kernel) rfl
theorem ok_L_171 : g_okL RL 171 yL_place cL_place 6 (some .int) [(0, 12, 15, 21), (0, 12, 19, 55)] 5 := ⟨mc_L_place, ml_L_171, mt_L_place, ii_L, by decide +kernel⟩
theorem mc_L_whyNot : Cond.codeWith yL_whyNot cL_whyNot 6 (some .int) [(0, 12, 15, 21)] ∈ gl := gl_4 (i := 5) rfl rfl
theorem ml_L_174 : Cond.methodLink RL 174 yL_whyNot ∈ gl := gl_4 (i := 3) (by decide +kernel) rfl
theorem mt_L_whyNot : Cond.static yL_whyNot ∈ gl := gl_4 (i := 4) (by decide +kernel) rfl
theorem ok_L_174 : g_okL RL 174 yL_whyNot cL_whyNot 6 (some .int) [(0, 12, 15, 21)] 5 := ⟨mc_L_whyNot, ml_L_174, mt_L_whyNot, ii_L, by decide +kernel⟩
theorem mc_L_options : Cond.codeWith yL_options cL_options 5 (some .int) [(0, 10, 13, 21)] ∈ gl := gl_4 (i := 12) rfl rfl
theorem ml_L_177 : Cond.methodLink RL 177 yL_options ∈ gl := gl_4 (i := 10) (by decide +kernel) rfl
theorem mt_L_options : Cond.static yL_options ∈ gl := gl_4 (i := 11) (by decide +kernel) rfl
theorem ok_L_177 : g_okL RL 177 yL_options cL_options 5 (some .int) [(0, 10, 13, 21)] 4 := ⟨mc_L_options, ml_L_177, mt_L_options, ii_L, by decide +kernel⟩
theorem mc_L_cheapest : Cond.codeWith yL_cheapest cL_cheapest 5 (some .int) [(0, 10, 13, 21), (0, 10, 17, 37)] ∈ gl := gl_4 (i := 23) rfl rfl
theorem ml_L_180 : Cond.methodLink RL 180 yL_cheapest ∈ gl := gl_4 (i := 21) (by decide +kernel) rfl
theorem mt_L_cheapest : Cond.static yL_cheapest ∈ gl := gl_4 (i := 22) (by decide +kernel) rfl
theorem ok_L_180 : g_okL RL 180 yL_cheapest cL_cheapest 5 (some .int) [(0, 10, 13, 21), (0, 10, 17, 37)] 4 := ⟨mc_L_cheapest, ml_L_180, mt_L_cheapest, ii_L, by decide +kernel⟩
theorem mc_L_lift : Cond.codeWith yL_lift cL_lift 5 (some .int) [(0, 10, 13, 21), (0, 10, 17, 15)] ∈ gl := gl_4 (i := 32) rfl rfl
theorem ml_L_183 : Cond.methodLink RL 183 yL_lift ∈ gl := gl_4 (i := 30) (by decide +kernel) rfl
theorem mt_L_lift : Cond.static yL_lift ∈ gl := gl_4 (i := 31) (by decide +kernel) rfl
theorem ok_L_183 : g_okL RL 183 yL_lift cL_lift 5 (some .int) [(0, 10, 13, 21), (0, 10, 17, 15)] 4 := ⟨mc_L_lift, ml_L_183, mt_L_lift, ii_L, by decide +kernel⟩
theorem mc_L_reason : Cond.codeWith yL_reason cL_reason 3 (some .int) [(0, 8, 11, 37)] ∈ gl := gl_4 (i := 40) rfl rfl
theorem ml_L_186 : Cond.methodLink RL 186 yL_reason ∈ gl := gl_4 (i := 38) (by decide +kernel) rfl
theorem mt_L_reason : Cond.static yL_reason ∈ gl := gl_4 (i := 39) (by decide +kernel) rfl
theorem ok_L_186 : g_okL RL 186 yL_reason cL_reason 3 (some .int) [(0, 8, 11, 37)] 2 := ⟨mc_L_reason, ml_L_186, mt_L_reason, ii_L, by decide +kernel⟩
theorem mc_L_tow : Cond.codeWith yL_tow cL_tow 5 (some .int) [(0, 10, 13, 21), (0, 10, 17, 13), (0, 10, 21, 15)] ∈ gl := gl_4 (i := 48) rfl rfl
theorem ml_L_190 : Cond.methodLink RL 190 yL_tow ∈ gl := gl_4 (i := 46) (by decide +kernel) rfl
theorem mt_L_tow : Cond.static yL_tow ∈ gl := gl_4 (i := 47) (by decide +kernel) rfl
theorem ok_L_190 : g_okL RL 190 yL_tow cL_tow 5 (some .int) [(0, 10, 13, 21), (0, 10, 17, 13), (0, 10, 21, 15)] 4 := ⟨mc_L_tow, ml_L_190, mt_L_tow, ii_L, by decide +kernel⟩
theorem mc_L_untow : Cond.codeWith yL_untow cL_untow 4 (some .int) [(0, 9, 12, 21), (0, 9, 15, 15)] ∈ gl := gl_4 (i := 66) rfl rfl
theorem ml_L_193 : Cond.methodLink RL 193 yL_untow ∈ gl := gl_4 (i := 64) (by decide +kernel) rfl
theorem mt_L_untow : Cond.static yL_untow ∈ gl := gl_4 (i := 65) (by decide +kernel) rfl
theorem ok_L_193 : g_okL RL 193 yL_untow cL_untow 4 (some .int) [(0, 9, 12, 21), (0, 9, 15, 15)] 3 := ⟨mc_L_untow, ml_L_193, mt_L_untow, ii_L, by decide +kernel⟩
theorem mc_L_delay : Cond.codeWith yL_delay cL_delay 5 (some .int) [(0, 10, 13, 21), (0, 10, 17, 13), (0, 10, 21, 15)] ∈ gl := gl_4 (i := 78) rfl rfl
theorem ml_L_196 : Cond.methodLink RL 196 yL_delay ∈ gl := gl_4 (i := 76) (by decide +kernel) rfl
theorem mt_L_delay : Cond.static yL_delay ∈ gl := gl_4 (i := 77) (by decide +kernel) rfl
theorem ok_L_196 : g_okL RL 196 yL_delay cL_delay 5 (some .int) [(0, 10, 13, 21), (0, 10, 17, 13), (0, 10, 21, 15)] 4 := ⟨mc_L_delay, ml_L_196, mt_L_delay, ii_L, by decide +kernel⟩
theorem mc_L_towGain : Cond.codeWith yL_towGain cL_towGain 5 (some .int) [(0, 10, 13, 21), (0, 10, 17, 13), (0, 10, 21, 15)] ∈ gl := gl_4 (i := 103) rfl rfl
theorem ml_L_203 : Cond.methodLink RL 203 yL_towGain ∈ gl := gl_4 (i := 101) (by decide +kernel) rfl
theorem mt_L_towGain : Cond.static yL_towGain ∈ gl := gl_4 (i := 102) (by decide +kernel) rfl
theorem ok_L_203 : g_okL RL 203 yL_towGain cL_towGain 5 (some .int) [(0, 10, 13, 21), (0, 10, 17, 13), (0, 10, 21, 15)] 4 := ⟨mc_L_towGain, ml_L_203, mt_L_towGain, ii_L, by decide +kernel⟩
theorem mc_L_leastMoves : Cond.codeWith yL_leastMoves cL_leastMoves 3 (some .int) [(0, 8, 11, 37)] ∈ gl := gl_4 (i := 115) rfl rfl
theorem ml_L_206 : Cond.methodLink RL 206 yL_leastMoves ∈ gl := gl_4 (i := 113) (by decide +kernel) rfl
theorem mt_L_leastMoves : Cond.static yL_leastMoves ∈ gl := gl_4 (i := 114) (by decide +kernel) rfl
theorem ok_L_206 : g_okL RL 206 yL_leastMoves cL_leastMoves 3 (some .int) [(0, 8, 11, 37)] 2 := ⟨mc_L_leastMoves, ml_L_206, mt_L_leastMoves, ii_L, by decide +kernel⟩
theorem mc_L_leastAgain : Cond.codeWith yL_leastAgain cL_leastAgain 3 (some .int) [(0, 8, 11, 37)] ∈ gl := gl_4 (i := 170) rfl rfl
theorem ml_L_209 : Cond.methodLink RL 209 yL_leastAgain ∈ gl := gl_4 (i := 168) (by decide +kernel) rfl
theorem mt_L_leastAgain : Cond.static yL_leastAgain ∈ gl := gl_4 (i := 169) (by decide +kernel) rfl
theorem ok_L_209 : g_okL RL 209 yL_leastAgain cL_leastAgain 3 (some .int) [(0, 8, 11, 37)] 2 := ⟨mc_L_leastAgain, ml_L_209, mt_L_leastAgain, ii_L, by decide +kernel⟩
theorem mc_L_moveOf : Cond.codeWith yL_moveOf cL_moveOf 5 (some .int) [(0, 10, 13, 37)] ∈ gl := gl_4 (i := 196) rfl rfl
theorem ml_L_212 : Cond.methodLink RL 212 yL_moveOf ∈ gl := gl_4 (i := 194) (by decide +kernel) rfl
theorem mt_L_moveOf : Cond.static yL_moveOf ∈ gl := gl_4 (i := 195) (by decide +kernel) rfl
theorem ok_L_212 : g_okL RL 212 yL_moveOf cL_moveOf 5 (some .int) [(0, 10, 13, 37)] 4 := ⟨mc_L_moveOf, ml_L_212, mt_L_moveOf, ii_L, by decide +kernel⟩
theorem mc_L_repair : Cond.codeWith yL_repair cL_repair 3 (some .int) [(0, 8, 11, 37)] ∈ gl := gl_4 (i := 204) rfl rfl
theorem ml_L_215 : Cond.methodLink RL 215 yL_repair ∈ gl := gl_4 (i := 202) (by decide +kernel) rfl
theorem mt_L_repair : Cond.static yL_repair ∈ gl := gl_4 (i := 203) (by decide +kernel) rfl
theorem ok_L_215 : g_okL RL 215 yL_repair cL_repair 3 (some .int) [(0, 8, 11, 37)] 2 := ⟨mc_L_repair, ml_L_215, mt_L_repair, ii_L, by decide +kernel⟩
theorem mc_L_account : Cond.codeWith yL_account cL_account 4 (some .int) [(0, 9, 12, 13)] ∈ gl := gl_4 (i := 211) rfl rfl
theorem ml_L_222 : Cond.methodLink RL 222 yL_account ∈ gl := gl_4 (i := 209) (by decide +kernel) rfl
theorem mt_L_account : Cond.static yL_account ∈ gl := gl_4 (i := 210) (by decide +kernel) rfl
theorem ok_L_222 : g_okL RL 222 yL_account cL_account 4 (some .int) [(0, 9, 12, 13)] 3 := ⟨mc_L_account, ml_L_222, mt_L_account, ii_L, by decide +kernel⟩
theorem mc_L_meanCost : Cond.codeWith yL_meanCost cL_meanCost 3 (some .int) [(0, 8, 11, 105)] ∈ gl := gl_4 (i := 230) rfl rfl
theorem ml_L_234 : Cond.methodLink RL 234 yL_meanCost ∈ gl := gl_4 (i := 228) (by decide +kernel) rfl
theorem mt_L_meanCost : Cond.static yL_meanCost ∈ gl := gl_4 (i := 229) (by decide +kernel) rfl
theorem ok_L_234 : g_okL RL 234 yL_meanCost cL_meanCost 3 (some .int) [(0, 8, 11, 105)] 2 := ⟨mc_L_meanCost, ml_L_234, mt_L_meanCost, ii_L, by decide +kernel⟩
theorem mc_L_append : Cond.codeWith yL_append cL_append 4 (some .int) [(0, 9, 12, 13), (0, 9, 15, 15)] ∈ gl := gl_5 (i := 14) rfl rfl
theorem ml_L_238 : Cond.methodLink RL 238 yL_append ∈ gl := gl_5 (i := 12) (by decide +kernel) rfl
theorem mt_L_append : Cond.static yL_append ∈ gl := gl_5 (i := 13) (by decide +kernel) rfl
theorem ok_L_238 : g_okL RL 238 yL_append cL_append 4 (some .int) [(0, 9, 12, 13), (0, 9, 15, 15)] 3 := ⟨mc_L_append, ml_L_238, mt_L_append, ii_L, by decide +kernel⟩
theorem mc_L_read : Cond.codeWith yL_read cL_read 3 (some .int) [(0, 8, 11, 13), (0, 8, 14, 15)] ∈ gl := gl_5 (i := 27) rfl rfl
theorem ml_L_242 : Cond.methodLink RL 242 yL_read ∈ gl := gl_5 (i := 25) (by decide +kernel) rfl
theorem mt_L_read : Cond.static yL_read ∈ gl := gl_5 (i := 26) (by decide +kernel) rfl
theorem ok_L_242 : g_okL RL 242 yL_read cL_read 3 (some .int) [(0, 8, 11, 13), (0, 8, 14, 15)] 2 := ⟨mc_L_read, ml_L_242, mt_L_read, ii_L, by decide +kernel⟩
theorem mc_L_errorPosition : Cond.codeWith yL_errorPosition cL_errorPosition 3 (some .int) [(0, 8, 11, 37)] ∈ gl := gl_5 (i := 147) rfl rfl
theorem ml_L_245 : Cond.methodLink RL 245 yL_errorPosition ∈ gl := gl_5 (i := 145) (by decide +kernel) rfl
theorem mt_L_errorPosition : Cond.static yL_errorPosition ∈ gl := gl_5 (i := 146) (by decide +kernel) rfl
theorem ok_L_245 : g_okL RL 245 yL_errorPosition cL_errorPosition 3 (some .int) [(0, 8, 11, 37)] 2 := ⟨mc_L_errorPosition, ml_L_245, mt_L_errorPosition, ii_L, by decide +kernel⟩
theorem mc_L_undo : Cond.codeWith yL_undo cL_undo 3 (some .int) [(0, 8, 11, 37)] ∈ gl := gl_5 (i := 155) rfl rfl
theorem ml_L_248 : Cond.methodLink RL 248 yL_undo ∈ gl := gl_5 (i := 153) (by decide +kernel) rfl
theorem mt_L_undo : Cond.static yL_undo ∈ gl := gl_5 (i := 154) (by decide +kernel) rfl
theorem ok_L_248 : g_okL RL 248 yL_undo cL_undo 3 (some .int) [(0, 8, 11, 37)] 2 := ⟨mc_L_undo, ml_L_248, mt_L_undo, ii_L, by decide +kernel⟩
theorem mc_L_restore : Cond.codeWith yL_restore cL_restore 3 (some .int) [(0, 8, 11, 15)] ∈ gl := gl_5 (i := 167) rfl rfl
theorem ml_L_255 : Cond.methodLink RL 255 yL_restore ∈ gl := gl_5 (i := 165) (by decide +kernel) rfl
theorem mt_L_restore : Cond.static yL_restore ∈ gl := gl_5 (i := 166) (by decide +kernel) rfl
theorem ok_L_255 : g_okL RL 255 yL_restore cL_restore 3 (some .int) [(0, 8, 11, 15)] 2 := ⟨mc_L_restore, ml_L_255, mt_L_restore, ii_L, by decide +kernel⟩
