/-! ===== rows over the world ===== -/
/-- the words: those of the tables that stay as they are -/
def gl : List Cond := lw_tbl.filter goodWord
theorem gl_of {w : Cond} (h : w ∈ lw_tbl) (hg : goodWord w = true) : w ∈ gl := List.mem_filter.mpr ⟨h, hg⟩
theorem gl_tbl {w : Cond} (h : w ∈ gl) : w ∈ lw_tbl := (List.mem_filter.mp h).1
theorem g_good : ∀ w ∈ gl, goodWord w = true := fun w h => (List.mem_filter.mp h).2
theorem gl_t {w : Cond} (h : w ∈ tables_1) (hg : goodWord w = true) : w ∈ gl := gl_of (List.mem_append_right _ h) hg
theorem gl_1 {w : Cond} {i : Nat} (h : tables_1_1[i]? = some w) (hg : goodWord w = true) : w ∈ gl := gl_t (List.mem_append_left _ (List.mem_of_getElem? h)) hg
theorem gl_2 {w : Cond} {i : Nat} (h : tables_1_2[i]? = some w) (hg : goodWord w = true) : w ∈ gl := gl_t (List.mem_append_right _ (List.mem_append_left _ (List.mem_of_getElem? h))) hg
theorem gl_3 {w : Cond} {i : Nat} (h : tables_1_3[i]? = some w) (hg : goodWord w = true) : w ∈ gl := gl_t (List.mem_append_right _ (List.mem_append_right _ (List.mem_append_left _ (List.mem_of_getElem? h)))) hg
theorem gl_4 {w : Cond} {i : Nat} (h : tables_1_4[i]? = some w) (hg : goodWord w = true) : w ∈ gl := gl_t (List.mem_append_right _ (List.mem_append_right _ (List.mem_append_right _ (List.mem_append_left _ (List.mem_of_getElem? h))))) hg
theorem gl_5 {w : Cond} {i : Nat} (h : tables_1_5[i]? = some w) (hg : goodWord w = true) : w ∈ gl := gl_t (List.mem_append_right _ (List.mem_append_right _ (List.mem_append_right _ (List.mem_append_right _ (List.mem_append_left _ (List.mem_of_getElem? h)))))) hg
theorem gl_6 {w : Cond} {i : Nat} (h : tables_1_6[i]? = some w) (hg : goodWord w = true) : w ∈ gl := gl_t (List.mem_append_right _ (List.mem_append_right _ (List.mem_append_right _ (List.mem_append_right _ (List.mem_append_right _ (List.mem_append_left _ (List.mem_of_getElem? h))))))) hg
theorem gl_7 {w : Cond} {i : Nat} (h : tables_1_7[i]? = some w) (hg : goodWord w = true) : w ∈ gl := gl_t (List.mem_append_right _ (List.mem_append_right _ (List.mem_append_right _ (List.mem_append_right _ (List.mem_append_right _ (List.mem_append_right _ (List.mem_of_getElem? h))))))) hg
theorem gl_p {q : MethodName × Nat} {i : Nat} (h : lw_privs[i]? = some q) : Cond.selects q.1.cls q.1 q.1 ∈ gl := gl_of (List.mem_append_left _ (List.mem_map.mpr ⟨q, List.mem_of_getElem? h, rfl⟩)) rfl
theorem g_gin {ws : List Cond} (h : ∀ w ∈ ws, w ∈ gl) : GoodIn gl ws := fun w hw => ⟨h w hw, good_of_word (g_good w (h w hw))⟩
def g_C (p : Program) (s : State) (m : MethodId) (args : Array Value) (c : Code) (cc : ByteArray) (nL : Nat) (own : String) (D : va_G) (y : ClassId × ClassId × ClassId) : Prop :=
  p.tables.exec = Jvm.exec ∧ c.code = cc ∧ c.maxLocals = nL ∧ s.vm.findClass own = some m.cls ∧ (∀ w ∈ gl, w.before args s = true) ∧ va_K D vwCl (g_ty y) s
def g_W (A : Nat → Prop) (H0 : Heap) (D : va_G) (y : ClassId × ClassId × ClassId) (ad : Nat → Nat) (X : va_W) (σ : gS) (H : Heap) (locs : List Loc) : Prop :=
  va_P D vwCl (g_wl y ad σ ++ X) H ∧ va_D A (g_wl y ad σ ++ X) ∧ va_S A H0 H locs ∧ ∀ q, H0.size ≤ q → A q
def g_Pc (D : va_G) (y : ClassId × ClassId × ClassId) (ad : Nat → Nat) (σ : gS) (sz : Nat) (av : List Value) : Array Value → State → Prop := va_Pc av (fun U => U.heap.size = sz ∧ va_P D vwCl (g_wl y ad σ) U.heap ∧ va_K D vwCl (g_ty y) U ∧ va_D (fun _ => True) (g_wl y ad σ))
def g_Qi (D : va_G) (y : ClassId × ClassId × ClassId) (ad : Nat → Nat) (σ : gS) (sz : Nat) (r : Int32) : Array Value → State → Outcome → State → Prop := va_Qi (fun (r1 : Int32) (_ : Unit) => r1 = r) (fun _ t => va_P D vwCl (g_wl y ad σ) t.heap) (g_A ad sz)
def g_Qv (D : va_G) (y : ClassId × ClassId × ClassId) (ad : Nat → Nat) (σ : gS) (sz : Nat) : Array Value → State → Outcome → State → Prop := va_Qv (fun (_ : Unit) => True) (fun _ t => va_P D vwCl (g_wl y ad σ) t.heap) (g_A ad sz)
theorem g_blind {D : va_G} {y : ClassId × ClassId × ClassId} {ad : Nat → Nat} {σ : gS} {sz : Nat} {av : List Value} : FrameBlind (g_Pc D y ad σ sz av) := by
  intro a U g mk q
  obtain ⟨q0, q1, qP, qK, qD⟩ := q
  exact ⟨q0, q1, qP, va_K.moved (u := U) (U := U.calling g mk a) (Vm.Alike.refl U.vm) qK, qD⟩
theorem g_cl {A : Nat → Prop} {H0 H : Heap} {D : va_G} {y : ClassId × ClassId × ClassId} {ad : Nat → Nat} {X : va_W} {σ : gS} {locs : List Loc} (hW : g_W A H0 D y ad X σ H locs) : ∀ q, g_A ad H.size q → A q := by
  intro q h
  rcases h with ⟨i, hi, rfl⟩ | h
  · exact hW.2.1.2 i _ (g_wl_get y ad σ X hi)
  · exact hW.2.2.2 q (Nat.le_trans hW.2.2.1.1 h)
/-- behind a call: the caller's other cells stand -/
theorem g_join {A : Nat → Prop} {H0 H H1 : Heap} {D : va_G} {y : ClassId × ClassId × ClassId} {ad : Nat → Nat} {X : va_W} {σ σ' : gS} {locs locs1 : List Loc} (hW : g_W A H0 D y ad X σ H locs) (hP : va_P D vwCl (g_wl y ad σ') H1) (hk : ∀ q : Nat, q < H.size → ¬ g_A ad H.size q → H1[q]? = H[q]?) (hS : va_S A H0 H1 locs1) : g_W A H0 D y ad X σ' H1 locs1 := by
  obtain ⟨h1, h2, h3, h4⟩ := hW
  have key : ∀ (k : Nat) (q : Nat × va_E), (g_wl y ad σ' ++ X)[k]? = some q → (k < 143 ∧ q = (ad k, g_ce y ad σ' k)) ∨ (143 ≤ k ∧ (g_wl y ad σ ++ X)[k]? = some q) := by
    intro k q hq
    by_cases hk2 : k < 143
    · rw [g_wl_get y ad σ' X hk2] at hq
      exact Or.inl ⟨hk2, (Option.some.inj hq).symm⟩
    · refine Or.inr ⟨by omega, ?_⟩
      rw [List.getElem?_append_right (by rw [g_wl_len]; omega), g_wl_len] at hq ⊢
      exact hq
  have ad' : ∀ (k : Nat) (q : Nat × va_E), (g_wl y ad σ' ++ X)[k]? = some q → ∃ q0 : Nat × va_E, (g_wl y ad σ ++ X)[k]? = some q0 ∧ q0.1 = q.1 := by
    intro k q hq
    rcases key k q hq with ⟨a1, rfl⟩ | ⟨a1, a2⟩
    · exact ⟨_, g_wl_get y ad σ X a1, rfl⟩
    · exact ⟨_, a2, rfl⟩
  refine ⟨?_, ⟨?_, ?_⟩, hS, h4⟩
  · intro k q hq
    rcases key k q hq with ⟨a1, rfl⟩ | ⟨a1, a2⟩
    · exact hP k _ (by have := g_wl_get y ad σ' [] a1; rw [List.append_nil] at this; exact this)
    · have hlt := (h1 k q a2).lt
      refine (h1 k q a2).kept (hk q.1 hlt ?_)
      rintro (⟨i, hi, e⟩ | h)
      · have := h2.1 k i q _ a2 (g_wl_get y ad σ X hi) e
        omega
      · omega
  · intro i j a b ha hb hab
    obtain ⟨a0, e1, e2⟩ := ad' i a ha
    obtain ⟨b0, e3, e4⟩ := ad' j b hb
    exact h2.1 i j a0 b0 e1 e3 (e2.trans (hab.trans e4.symm))
  · intro k q hq
    obtain ⟨q0, e1, e2⟩ := ad' k q hq
    rw [← e2]
    exact h2.2 k q0 e1
section GR
variable {p : Program} {l : Launch} {e : Env} {R : Room} {s : State} {m : MethodId} {args : Array Value} {below : List Frame} {meth : Method} {c : Code} {H : Heap} {locs : List Loc} {cells slots : Nat} {Q : State → Prop}
variable {cc : ByteArray} {pc nL : Nat} {ls : Array Slot} {rest : List Value} {own : String} {D : va_G} {y : ClassId × ClassId × ClassId} {A : Nat → Prop} {H0 : Heap} {ad : Nat → Nat} {X : va_W} {σ : gS}
theorem g_geti (hC : g_C p s m args c cc nL own D y) (hW : g_W A H0 D y ad X σ H locs) {C : String} {T : u_T} {N ci k index i : Nat} {fl : List (Option Nat)} (hin : ∀ w ∈ u_ws C T N, w ∈ gl) (hc : vwCl[ci]? = some (C, T, N)) (hk : k < N) (hlink : Cond.fieldLink own index (T k).1 (T k).2.1 (T k).2.2.1 ∈ gl) (hi : i < 143) (hsh : g_sh i = .inl (ci, fl)) (hf : fl[k]? = some none) (hdg : decode cc pc = .ok (.getfield index, 3))
    (kk : W p l e R s m args below meth c H locs cells slots Q (F0 m (pc + 3) ls (.int (σ i k) :: rest))) : W p l e R s m args below meth c H locs cells slots Q (F0 m pc ls (.ref (ad i) :: rest)) := by
  obtain ⟨hx, hb, hml, hown, hts, hK⟩ := hC
  exact va_get hx hb hts hin hown hK hW.1 i (by rw [g_wl_get y ad σ X hi, g_ce_obj hsh]) hc k hk (hts _ hlink) (fun _ h => h) (v := .int (σ i k)) (by rw [g_fv_get, hf]; simp) hdg kk
theorem g_getr (hC : g_C p s m args c cc nL own D y) (hW : g_W A H0 D y ad X σ H locs) {C : String} {T : u_T} {N ci k index i r : Nat} {fl : List (Option Nat)} (hin : ∀ w ∈ u_ws C T N, w ∈ gl) (hc : vwCl[ci]? = some (C, T, N)) (hk : k < N) (hlink : Cond.fieldLink own index (T k).1 (T k).2.1 (T k).2.2.1 ∈ gl) (hi : i < 143) (hsh : g_sh i = .inl (ci, fl)) (hf : fl[k]? = some (some r)) (hdg : decode cc pc = .ok (.getfield index, 3))
    (kk : W p l e R s m args below meth c H locs cells slots Q (F0 m (pc + 3) ls (.ref (ad r) :: rest))) : W p l e R s m args below meth c H locs cells slots Q (F0 m pc ls (.ref (ad i) :: rest)) := by
  obtain ⟨hx, hb, hml, hown, hts, hK⟩ := hC
  exact va_get hx hb hts hin hown hK hW.1 i (by rw [g_wl_get y ad σ X hi, g_ce_obj hsh]) hc k hk (hts _ hlink) (fun _ h => h) (v := .ref (ad r)) (by rw [g_fv_get, hf]; simp) hdg kk
theorem g_puti (hC : g_C p s m args c cc nL own D y) (hW : g_W A H0 D y ad X σ H locs) {C : String} {T : u_T} {N ci k index i : Nat} {fl : List (Option Nat)} (hin : ∀ w ∈ u_ws C T N, w ∈ gl) (ty0 : Nat → FieldType) (hty : ∀ k, k < N → parseFieldDescriptor (T k).2.2.1 = some (ty0 k)) (hnm : ∀ a, a < N → ∀ b, b < N → a ≠ b → (T a).2.1 ≠ (T b).2.1) (hc : vwCl[ci]? = some (C, T, N)) (hk : k < N) (hlink : Cond.fieldLink own index (T k).1 (T k).2.1 (T k).2.2.1 ∈ gl) (hfin : (T k).2.2.2 = false) (hi : i < 143) (hsh : g_sh i = .inl (ci, fl)) (hf : fl[k]? = some none) {x : Int32} (hn : narrow (ty0 k) (.int x) = .int x) (hfit : fits (ty0 k) (.int x) = true) (hdg : decode cc pc = .ok (.putfield index, 3))
    (kk : ∀ (H1 : Heap) (locs1 : List Loc), g_W A H0 D y ad X (g_up σ i k x) H1 locs1 → W p l e R s m args below meth c H1 locs1 cells slots Q (F0 m (pc + 3) ls rest)) : W p l e R s m args below meth c H locs cells slots Q (F0 m pc ls (.int x :: .ref (ad i) :: rest)) := by
  obtain ⟨hx, hb, hml, hown, hts, hK⟩ := hC
  obtain ⟨hP, hD, hS, hA⟩ := hW
  have es : (g_wl y ad σ ++ X).set i (ad i, .inr (ci, (g_fv ad (σ i) 0 fl).set k (.int x))) = g_wl y ad (g_up σ i k x) ++ X := g_wl_set hi (by rw [g_ce_obj hsh, g_fv_set ad _ x fl 0 k hf, g_up_eq]; simp) (fun j hj => g_up_ne hj)
  refine va_put hx hb hts hin ty0 hty hnm hown hK hP hD hS i (by rw [g_wl_get y ad σ X hi, g_ce_obj hsh]) hc k hk (hts _ hlink) (fun _ h => h) hfin (hty k hk) hn hfit (by rw [g_fv_len]; exact (List.getElem?_eq_some_iff.mp hf).1) hdg (fun H1 locs1 hP hD hS => ?_)
  rw [es] at hP hD
  exact kk H1 locs1 ⟨hP, hD, hS, hA⟩
theorem g_iald (hC : g_C p s m args c cc nL own D y) (hW : g_W A H0 D y ad X σ H locs) {i n : Nat} {j : Int32} (hi : i < 143) (hsh : g_sh i = .inr (0, n)) (hj : ib j n = true) (hdg : decode cc pc = .ok (.iaload, 1))
    (kk : W p l e R s m args below meth c H locs cells slots Q (F0 m (pc + 1) ls (.int (σ i j.toNatClampNeg) :: rest))) : W p l e R s m args below meth c H locs cells slots Q (F0 m pc ls (.int j :: .ref (ad i) :: rest)) := by
  obtain ⟨hx, hb, hml, hown, hts, hK⟩ := hC
  exact va_iald hx hb hK hW.1 i 0 (by rw [g_wl_get y ad σ X hi, g_ce_int hsh]) rfl (ib_in hj) hdg kk
theorem g_cald (hC : g_C p s m args c cc nL own D y) (hW : g_W A H0 D y ad X σ H locs) {i n : Nat} {j : Int32} (hi : i < 143) (hsh : g_sh i = .inr (1, n)) (hj : ib j n = true) (hdg : decode cc pc = .ok (.caload, 1))
    (kk : W p l e R s m args below meth c H locs cells slots Q (F0 m (pc + 1) ls (.int (σ i j.toNatClampNeg) :: rest))) : W p l e R s m args below meth c H locs cells slots Q (F0 m pc ls (.int j :: .ref (ad i) :: rest)) := by
  obtain ⟨hx, hb, hml, hown, hts, hK⟩ := hC
  exact va_cald hx hb hK hW.1 i 1 (by rw [g_wl_get y ad σ X hi, g_ce_chr hsh]) rfl (ib_in hj) hdg kk
theorem g_aald (hC : g_C p s m args c cc nL own D y) (hW : g_W A H0 D y ad X σ H locs) {i n : Nat} {j : Int32} (hi : i < 143) (hsh : g_sh i = .inr (2, n)) (hj : ib j n = true) (hdg : decode cc pc = .ok (.aaload, 1))
    (kk : W p l e R s m args below meth c H locs cells slots Q (F0 m (pc + 1) ls (.ref (ad (60 + 12 * j.toNatClampNeg)) :: rest))) : W p l e R s m args below meth c H locs cells slots Q (F0 m pc ls (.int j :: .ref (ad i) :: rest)) := by
  obtain ⟨hx, hb, hml, hown, hts, hK⟩ := hC
  exact va_aldq (f := fun j => some (ad (60 + 12 * j))) hx hb hK hW.1 i 2 (by rw [g_wl_get y ad σ X hi, g_ce_ref hsh]) rfl (ib_in hj) hdg kk
theorem g_upd_up {σ : gS} {i : Nat} {j : Int32} {x : Int32} : upd (σ i) j.toNatClampNeg x = g_up σ i j.toNatClampNeg x i := by
  rw [g_up_eq]; rfl
theorem g_iast (hC : g_C p s m args c cc nL own D y) (hW : g_W A H0 D y ad X σ H locs) {i n : Nat} {j x : Int32} (hi : i < 143) (hsh : g_sh i = .inr (0, n)) (hj : ib j n = true) (hdg : decode cc pc = .ok (.iastore, 1))
    (kk : ∀ (H1 : Heap) (locs1 : List Loc), g_W A H0 D y ad X (g_up σ i j.toNatClampNeg x) H1 locs1 → W p l e R s m args below meth c H1 locs1 cells slots Q (F0 m (pc + 1) ls rest)) : W p l e R s m args below meth c H locs cells slots Q (F0 m pc ls (.int x :: .int j :: .ref (ad i) :: rest)) := by
  obtain ⟨hx, hb, hml, hown, hts, hK⟩ := hC
  obtain ⟨hP, hD, hS, hA⟩ := hW
  have es : (g_wl y ad σ ++ X).set i (ad i, .inl (y.1, n, .inl (upd (σ i) j.toNatClampNeg x))) = g_wl y ad (g_up σ i j.toNatClampNeg x) ++ X := g_wl_set hi (by rw [g_ce_int hsh, g_upd_up]) (fun j hj => g_up_ne hj)
  refine va_iast hx hb hK hP hD hS i 0 (by rw [g_wl_get y ad σ X hi, g_ce_int hsh]) rfl (ib_in hj) hdg (fun H1 locs1 hP hD hS => ?_)
  rw [es] at hP hD
  exact kk H1 locs1 ⟨hP, hD, hS, hA⟩
theorem g_cast (hC : g_C p s m args c cc nL own D y) (hW : g_W A H0 D y ad X σ H locs) {i n : Nat} {j x : Int32} (hi : i < 143) (hsh : g_sh i = .inr (1, n)) (hj : ib j n = true) (hdg : decode cc pc = .ok (.castore, 1))
    (kk : ∀ (H1 : Heap) (locs1 : List Loc), g_W A H0 D y ad X (g_up σ i j.toNatClampNeg (vp_nar .char x)) H1 locs1 → W p l e R s m args below meth c H1 locs1 cells slots Q (F0 m (pc + 1) ls rest)) : W p l e R s m args below meth c H locs cells slots Q (F0 m pc ls (.int x :: .int j :: .ref (ad i) :: rest)) := by
  obtain ⟨hx, hb, hml, hown, hts, hK⟩ := hC
  obtain ⟨hP, hD, hS, hA⟩ := hW
  have es : (g_wl y ad σ ++ X).set i (ad i, .inl (y.2.1, n, .inl (upd (σ i) j.toNatClampNeg (vp_nar .char x)))) = g_wl y ad (g_up σ i j.toNatClampNeg (vp_nar .char x)) ++ X := g_wl_set hi (by rw [g_ce_chr hsh, g_upd_up]) (fun j hj => g_up_ne hj)
  refine va_cast hx hb hK hP hD hS i 1 (by rw [g_wl_get y ad σ X hi, g_ce_chr hsh]) rfl (ib_in hj) hdg (fun H1 locs1 hP hD hS => ?_)
  rw [es] at hP hD
  exact kk H1 locs1 ⟨hP, hD, hS, hA⟩
/-- System.arraycopy of int rows -/
theorem g_copy (hC : g_C p s m args c cc nL own D y) (hW : g_W A H0 D y ad X σ H locs) (hls : ls.size = nL) {index : Nat} (hlink : Cond.methodLink own index arraycopyName ∈ gl) {i0 i1 n0 n1 : Nat} {sp dp n : Int32} (hi0 : i0 < 143) (hi1 : i1 < 143) (h0 : g_sh i0 = .inr (0, n0)) (h1 : g_sh i1 = .inr (0, n1)) (hg : decide (0 ≤ sp.toInt ∧ 0 ≤ dp.toInt ∧ 0 ≤ n.toInt ∧ sp.toNatClampNeg + n.toNatClampNeg ≤ n0 ∧ dp.toNatClampNeg + n.toNatClampNeg ≤ n1) = true)
    (hw : Cond.native arraycopyName ∈ gl ∧ Cond.static arraycopyName ∈ gl ∧ Cond.initialized "java/lang/System" ∈ gl) (hR : 1 ≤ R.frames ∧ (rest.map fun v => v.category).sum + (nativeFrameWords "java/lang/System" "arraycopy" 5 + 11) ≤ R.locals) (hdg : decode cc pc = .ok (.invokestatic index, 3))
    (kk : ∀ (H1 : Heap) (locs1 : List Loc), g_W A H0 D y ad X (g_row σ i1 (va_cpy (σ i0) (σ i1) sp.toNatClampNeg dp.toNatClampNeg n.toNatClampNeg)) H1 locs1 → W p l e R s m args below meth c H1 locs1 cells slots Q (F0 m (pc + 3) ls rest)) : W p l e R s m args below meth c H locs cells slots Q (F0 m pc ls (.int n :: .int dp :: .ref (ad i1) :: .int sp :: .ref (ad i0) :: rest)) := by
  obtain ⟨hx, hb, hml, hown, hts, hK⟩ := hC
  obtain ⟨hP, hD, hS, hA⟩ := hW
  obtain ⟨g1, g2, g3, g4, g5⟩ := of_decide_eq_true hg
  have nn : ∀ z : Int32, 0 ≤ z.toInt → ¬ z < 0 := fun z hz h => by
    have := Int32.lt_iff_toInt_lt.mp h
    rw [Int32.toInt_zero] at this
    omega
  have es : (g_wl y ad σ ++ X).set i1 (ad i1, .inl (y.1, n1, .inl (va_cpy (σ i0) (σ i1) sp.toNatClampNeg dp.toNatClampNeg n.toNatClampNeg))) = g_wl y ad (g_row σ i1 (va_cpy (σ i0) (σ i1) sp.toNatClampNeg dp.toNatClampNeg n.toNatClampNeg)) ++ X := g_wl_set hi1 (by rw [g_ce_int h1]; unfold g_row; rw [if_pos rfl]) (fun j hj => by unfold g_row; rw [if_neg hj])
  refine va_copyi hx hb (hml.trans hls.symm) hown (hts _ hlink) (hts _ hw.1) (hts _ hw.2.1) (hts _ hw.2.2) hK hP hD hS i0 i1 0 0 (ty := .int) (by rw [g_wl_get y ad σ X hi0, g_ce_int h0]) (by rw [g_wl_get y ad σ X hi1, g_ce_int h1]) rfl rfl rfl (nn _ g1) (nn _ g2) (nn _ g3) g4 g5 (fun _ _ => rfl) hR.1 hR.2 hdg (fun H1 locs1 hP hD hS => ?_)
  rw [es] at hP hD
  exact kk H1 locs1 ⟨hP, hD, hS, hA⟩
theorem g_calli {st0 : List Value} {a : Array Value} {σ' : gS} {r : Int32} (hW : g_W A H0 D y ad X σ H locs) (hr : va_Run p l e R s m args below meth c H locs cells slots 0 0 (F0 m pc ls st0) rest (g_Qi D y ad σ' H.size r a) (g_A ad H.size))
    (kk : ∀ (H1 : Heap) (locs1 : List Loc), g_W A H0 D y ad X σ' H1 locs1 → W p l e R s m args below meth c H1 locs1 cells slots Q (F0 m (pc + 3) ls (.int r :: rest))) : W p l e R s m args below meth c H locs cells slots Q (F0 m pc ls st0) := by
  refine va_calli hr hW.2.2.1 (fun q _ h => g_cl hW q h) (g_cl hW) (fun r1 u t H1 locs1 ht hvm hp hB hz hk hS => ?_)
  subst hp
  rw [ht] at hB
  exact kk H1 locs1 (g_join hW hB hk hS)
theorem g_callv {st0 : List Value} {a : Array Value} {σ' : gS} (hW : g_W A H0 D y ad X σ H locs) (hr : va_Run p l e R s m args below meth c H locs cells slots 0 0 (F0 m pc ls st0) rest (g_Qv D y ad σ' H.size a) (g_A ad H.size))
    (kk : ∀ (H1 : Heap) (locs1 : List Loc), g_W A H0 D y ad X σ' H1 locs1 → W p l e R s m args below meth c H1 locs1 cells slots Q (F0 m (pc + 3) ls rest)) : W p l e R s m args below meth c H locs cells slots Q (F0 m pc ls st0) := by
  refine va_callv hr hW.2.2.1 (fun q _ h => g_cl hW q h) (g_cl hW) (fun u t H1 locs1 ht hvm hp hB hz hk hS => ?_)
  rw [ht] at hB
  exact kk H1 locs1 (g_join hW hB hk hS)
/-- the words of a call -/
def g_okV (own : String) (index : Nat) (C : String) (yM : MethodName) (bytes : ByteArray) (maxL : Nat) (ret : Option FieldType) (n : Nat) : Prop :=
  Cond.code yM bytes maxL ret ∈ gl ∧ Cond.methodLink own index yM ∈ gl ∧ Cond.instanceMethod yM ∈ gl ∧ Cond.selects C yM yM ∈ gl ∧ Cond.initialized C ∈ gl ∧ (yM.cls = C ∧ yM.cls ≠ "java/lang/invoke/MethodHandle" ∧ yM.cls ≠ "java/lang/invoke/VarHandle" ∧ (parseMethodDescriptor yM.desc).map (fun d => d.parameters.length) = some n)
def g_okS (own : String) (index : Nat) (yM : MethodName) (bytes : ByteArray) (maxL : Nat) (ret : Option FieldType) (n : Nat) : Prop :=
  Cond.code yM bytes maxL ret ∈ gl ∧ Cond.methodLink own index yM ∈ gl ∧ Cond.static yM ∈ gl ∧ Cond.initialized yM.cls ∈ gl ∧ (yM.cls ≠ "java/lang/invoke/MethodHandle" ∧ yM.cls ≠ "java/lang/invoke/VarHandle" ∧ (parseMethodDescriptor yM.desc).map (fun d => d.parameters.length) = some n)
theorem g_goodV {index : Nat} {C : String} {yM : MethodName} {bytes : ByteArray} {maxL n : Nat} {ret : Option FieldType} (ok : g_okV own index C yM bytes maxL ret n) : GoodIn gl (wsV own index C yM (Cond.code yM bytes maxL ret :: gl)) := by
  obtain ⟨h1, h2, h3, h4, h5, -⟩ := ok
  refine g_gin (fun w hw => ?_)
  rcases List.mem_append.mp (show w ∈ ([.methodLink own index yM, .instanceMethod yM, .selects C yM yM, .initialized C] : List Cond) ++ (Cond.code yM bytes maxL ret :: gl) from hw) with h | h
  · simp only [List.mem_cons, List.not_mem_nil, or_false] at h
    rcases h with rfl | rfl | rfl | rfl <;> assumption
  · rcases List.mem_cons.mp h with rfl | h
    · exact h1
    · exact h
theorem g_goodS {index : Nat} {yM : MethodName} {bytes : ByteArray} {maxL n : Nat} {ret : Option FieldType} (ok : g_okS own index yM bytes maxL ret n) : GoodIn gl (va_wsS own index yM (Cond.code yM bytes maxL ret :: gl)) := by
  obtain ⟨h1, h2, h3, h4, -⟩ := ok
  refine g_gin (fun w hw => ?_)
  rcases List.mem_append.mp (show w ∈ ([.methodLink own index yM, .static yM, .initialized yM.cls] : List Cond) ++ (Cond.code yM bytes maxL ret :: gl) from hw) with h | h
  · simp only [List.mem_cons, List.not_mem_nil, or_false] at h
    rcases h with rfl | rfl | rfl <;> assumption
  · rcases List.mem_cons.mp h with rfl | h
    · exact h1
    · exact h
theorem g_runV (hC : g_C p s m args c cc nL own D y) (hW : g_W A H0 D y ad X σ H locs) {index n maxL i ci : Nat} {C : String} {yM : MethodName} {bytes : ByteArray} {ret : Option FieldType} {rm : Room} {As st0 : List Value} {Qc : Array Value → State → Outcome → State → Prop} {free : Addr → Prop} {q : vw_C} {fl : List (Option Nat)}
    (hM : Met l yM (Cond.code yM bytes maxL ret :: gl) rm (g_Pc D y ad σ H.size (.ref (ad i) :: As)) Qc 0 0 free) (ok : g_okV own index C yM bytes maxL ret n) (hrm : rm.cells = 0 ∧ rm.slots = 0 ∧ rm.frames + 1 ≤ R.frames ∧ 8 + (maxL + 11) + rm.locals ≤ R.locals) (hi : i < 143) (hsh : g_sh i = .inl (ci, fl)) (hc : vwCl[ci]? = some q) (hq : q.1 = C) (hn : As.length = n) (hls : ls.size = nL) (hst : st0 = As.reverse ++ .ref (ad i) :: rest) (hrest : (rest.map fun v => v.category).sum ≤ 8) (hdg : decode cc pc = .ok (.invokevirtual index, 3)) (hcs : cells ≤ R.cells ∧ slots ≤ R.slots) :
    va_Run p l e R s m args below meth c H locs cells slots 0 0 (F0 m pc ls st0) rest (Qc (Value.ref (ad i) :: As).toArray) free := by
  obtain ⟨hx, hb, hml, hown, hts, hK⟩ := hC
  obtain ⟨hP, hD, hS, hA⟩ := hW
  have hP0 : va_P D vwCl (g_wl y ad σ) H := fun k x hk => hP k x (by rw [List.getElem?_append_left (List.getElem?_eq_some_iff.mp hk).1]; exact hk)
  have hD0 : va_D (fun _ => True) (g_wl y ad σ) := ⟨fun i j a b ha hb => hD.1 i j a b (by rw [List.getElem?_append_left (List.getElem?_eq_some_iff.mp ha).1]; exact ha) (by rw [List.getElem?_append_left (List.getElem?_eq_some_iff.mp hb).1]; exact hb), fun _ _ _ => trivial⟩
  refine va_runV (As := As) (rest := rest) ⟨hx, hb, hml, hown, hts⟩ hM (cwV n hts (g_goodV ok) rfl hrm.1 hrm.2.1 ok.2.2.2.2.2 ⟨hrm.2.2.1, hrm.2.2.2⟩) ⟨g_blind, ?_, fun U hU hW => ⟨rfl, by rw [hU], by rw [hU]; exact hP0, va_K.moved hW.alike hK, hD0⟩⟩ rfl hn hls (by rw [hst]) (lv_room hrest) hdg hcs
  rw [← hq]
  exact va_recv hK hP hc (by rw [g_wl_get y ad σ X hi, g_ce_obj hsh])
theorem g_runS (hC : g_C p s m args c cc nL own D y) (hW : g_W A H0 D y ad X σ H locs) {index n maxL : Nat} {yM : MethodName} {bytes : ByteArray} {ret : Option FieldType} {rm : Room} {As st0 : List Value} {Qc : Array Value → State → Outcome → State → Prop} {free : Addr → Prop}
    (hM : Met l yM (Cond.code yM bytes maxL ret :: gl) rm (g_Pc D y ad σ H.size As) Qc 0 0 free) (ok : g_okS own index yM bytes maxL ret n) (hrm : rm.cells = 0 ∧ rm.slots = 0 ∧ rm.frames + 1 ≤ R.frames ∧ 8 + (maxL + 11) + rm.locals ≤ R.locals) (hn : As.length = n) (hls : ls.size = nL) (hst : st0 = As.reverse ++ rest) (hrest : (rest.map fun v => v.category).sum ≤ 8) (hdg : decode cc pc = .ok (.invokestatic index, 3)) (hcs : cells ≤ R.cells ∧ slots ≤ R.slots) :
    va_Run p l e R s m args below meth c H locs cells slots 0 0 (F0 m pc ls st0) rest (Qc As.toArray) free := by
  obtain ⟨hx, hb, hml, hown, hts, hK⟩ := hC
  obtain ⟨hP, hD, hS, hA⟩ := hW
  have hP0 : va_P D vwCl (g_wl y ad σ) H := fun k x hk => hP k x (by rw [List.getElem?_append_left (List.getElem?_eq_some_iff.mp hk).1]; exact hk)
  have hD0 : va_D (fun _ => True) (g_wl y ad σ) := ⟨fun i j a b ha hb => hD.1 i j a b (by rw [List.getElem?_append_left (List.getElem?_eq_some_iff.mp ha).1]; exact ha) (by rw [List.getElem?_append_left (List.getElem?_eq_some_iff.mp hb).1]; exact hb), fun _ _ _ => trivial⟩
  exact va_runS (As := As) (rest := rest) ⟨hx, hb, hml, hown, hts⟩ hM (va_cwS n hts (g_goodS ok) rfl hrm.1 hrm.2.1 ok.2.2.2.2 ⟨hrm.2.2.1, hrm.2.2.2⟩) ⟨g_blind, fun U hU hW => ⟨rfl, by rw [hU], by rw [hU]; exact hP0, va_K.moved hW.alike hK, hD0⟩⟩ rfl hn hls (by rw [hst]) (lv_room hrest) hdg hcs
theorem g_iret {sz : Nat} {r : Int32} (hC : g_C p s m args c cc nL own D y) (hr : meth.sig.returnType = some .int) (hlk : meth.locks = false) (hsz : s.heap.size = sz) (hW : g_W (g_A ad sz) s.heap D y ad [] σ H locs) (hdg : decode cc pc = .ok (.ireturn, 1)) :
    W p l e R s m args below meth c H locs 0 0 (MQ below (g_Qi D y ad σ sz r) args s 0 0 (g_A ad sz)) (F0 m pc ls [.int r]) := by
  obtain ⟨hx, hb, -⟩ := hC
  obtain ⟨hP, hD, hS, hA⟩ := hW
  rw [List.append_nil] at hP
  exact W.iret hx hb hr (fun t ht hW => ⟨⟨r, (), rfl, rfl, by show va_P D vwCl (g_wl y ad σ) t.heap; rw [ht]; exact hP⟩, hS.F ht⟩) hS.2.2 hdg hlk
theorem g_zret {sz : Nat} {r : Int32} (hC : g_C p s m args c cc nL own D y) (hr : meth.sig.returnType = some .boolean) (hlk : meth.locks = false) (hsz : s.heap.size = sz) (hW : g_W (g_A ad sz) s.heap D y ad [] σ H locs) (hz : bz r = true) (hdg : decode cc pc = .ok (.ireturn, 1)) :
    W p l e R s m args below meth c H locs 0 0 (MQ below (g_Qi D y ad σ sz r) args s 0 0 (g_A ad sz)) (F0 m pc ls [.int r]) := by
  obtain ⟨hx, hb, -⟩ := hC
  obtain ⟨hP, hD, hS, hA⟩ := hW
  rw [List.append_nil] at hP
  exact W.zret hx hb hr (by rcases of_decide_eq_true hz with rfl | rfl <;> rfl) (fun t ht hW => ⟨⟨r, (), rfl, rfl, by show va_P D vwCl (g_wl y ad σ) t.heap; rw [ht]; exact hP⟩, hS.F ht⟩) hS.2.2 hdg hlk
theorem g_vret {sz : Nat} (hC : g_C p s m args c cc nL own D y) (hr : meth.sig.returnType = none) (hlk : meth.locks = false) (hsz : s.heap.size = sz) (hW : g_W (g_A ad sz) s.heap D y ad [] σ H locs) (hdg : decode cc pc = .ok (.return_, 1)) :
    W p l e R s m args below meth c H locs 0 0 (MQ below (g_Qv D y ad σ sz) args s 0 0 (g_A ad sz)) (F0 m pc ls []) := by
  obtain ⟨hx, hb, -⟩ := hC
  obtain ⟨hP, hD, hS, hA⟩ := hW
  rw [List.append_nil] at hP
  exact W.vret hx hb hr (fun t ht hW => ⟨⟨(), rfl, trivial, by show va_P D vwCl (g_wl y ad σ) t.heap; rw [ht]; exact hP⟩, hS.F ht⟩) hS.2.2 hdg hlk
end GR
theorem g_start {l : Launch} {yM : MethodName} {cc : ByteArray} {maxL : Nat} {ret : Option FieldType} {rm : Room} {D : va_G} {y : ClassId × ClassId × ClassId} {ad : Nat → Nat} {σ : gS} {sz : Nat} {av : List Value} {Qc : Array Value → State → Outcome → State → Prop} (hy : plainName yM.cls = true) (hlen : (lg_sl av).length ≤ maxL)
    (body : ∀ (p : Program) (e : Env) (s : State) (m : MethodId) (below : List Frame) (meth : Method) (c : Code) (ls : Array Slot), g_C p s m av.toArray c cc maxL yM.cls D y → meth.sig.returnType = ret → meth.locks = false → s.heap.size = sz → g_W (g_A ad sz) s.heap D y ad [] σ s.heap [] → lv_has ls maxL (lv_args 0 av) →
      W p l e rm s m av.toArray below meth c s.heap [] 0 0 (MQ below Qc av.toArray s 0 0 (g_A ad sz)) (F0 m 0 ls [])) : Met l yM (Cond.code yM cc maxL ret :: gl) rm (g_Pc D y ad σ sz av) Qc 0 0 (g_A ad sz) := by
  refine Met.ofW (cc := cc) (maxL := maxL) (ret := ret) hy rfl ?_
  intro p e s m args below meth c s₁ B hml hv
  obtain ⟨rfl, hsz, hP, hK, hD0⟩ := hv
  have hx := B.exec
  have hb := B.bytes
  have hr := B.returns
  have hts := atoms_spec (ws := Cond.code yM cc maxL ret :: gl) B.pre
  have hown : s.vm.findClass yM.cls = some m.cls := findClass_of_methodNamed B.named
  have hlocks := B.notSynchronized
  have hl := lv_entry av (n := maxL) hlen
  rw [lg_entry_eq]
  have hD1 : va_D (g_A ad sz) (g_wl y ad σ ++ []) := by
    rw [List.append_nil]
    refine ⟨hD0.1, fun k q hq => ?_⟩
    obtain ⟨h1, rfl⟩ := g_wl_inv hq
    exact Or.inl ⟨k, h1, rfl⟩
  exact body p e s m below meth c _ ⟨hx, hb, hml, hown, fun w h => hts w (List.mem_cons_of_mem _ h), hK⟩ hr hlocks hsz ⟨by rw [List.append_nil]; exact hP, hD1, va_S.rf, fun q h => Or.inr (by rw [← hsz]; exact h)⟩ hl
