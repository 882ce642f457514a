/-! ===== the constructors of the class and of the model ===== -/
def g_cw (y : ClassId × ClassId × ClassId) (ad : Nat → Nat) (σ : gS) (n : Nat) : va_W := (List.range n).map (fun i => (ad i, g_ce y ad σ i))
theorem g_cw_len (y : ClassId × ClassId × ClassId) (ad : Nat → Nat) (σ : gS) (n : Nat) : (g_cw y ad σ n).length = n := by simp [g_cw]
theorem g_cw_get (y : ClassId × ClassId × ClassId) (ad : Nat → Nat) (σ : gS) {n i : Nat} (h : i < n) : (g_cw y ad σ n)[i]? = some (ad i, g_ce y ad σ i) := by simp [g_cw, h]
theorem g_cw_inv {y : ClassId × ClassId × ClassId} {ad : Nat → Nat} {σ : gS} {n k : Nat} {q : Nat × va_E} (h : (g_cw y ad σ n)[k]? = some q) : k < n ∧ q = (ad k, g_ce y ad σ k) := by
  have hl := (List.getElem?_eq_some_iff.mp h).1
  rw [g_cw_len] at hl
  rw [g_cw_get y ad σ hl] at h
  exact ⟨hl, (Option.some.inj h).symm⟩
/-- a world in another order -/
theorem s_perm {A : Nat → Prop} {H0 H : Heap} {locs : List Loc} {D : va_G} {y : ClassId × ClassId × ClassId} {L : va_W} {ad : Nat → Nat} {σ : gS} {n : Nat} (g : Nat → Nat) (hg : ∀ k, k < n → ∃ e, L[g k]? = some (ad k, e) ∧ (va_at D vwCl (ad k, e) H → va_at D vwCl (ad k, g_ce y ad σ k) H)) (hi : ∀ i, i < n → ∀ j, j < n → g i = g j → i = j) (hW : s_W A H0 D L H locs) : s_W A H0 D (g_cw y ad σ n) H locs := by
  obtain ⟨hP, hD, hS, hA⟩ := hW
  refine ⟨fun k q hk => ?_, ⟨fun i j a b ha hb hab => ?_, fun k q hk => ?_⟩, hS, hA⟩
  · obtain ⟨h1, rfl⟩ := g_cw_inv hk
    obtain ⟨e, h2, h3⟩ := hg k h1
    exact h3 (hP _ _ h2)
  · obtain ⟨h1, rfl⟩ := g_cw_inv ha
    obtain ⟨h2, rfl⟩ := g_cw_inv hb
    obtain ⟨e1, h3, -⟩ := hg i h1
    obtain ⟨e2, h4, -⟩ := hg j h2
    exact hi i h1 j h2 (hD.1 _ _ _ _ h3 h4 hab)
  · obtain ⟨h1, rfl⟩ := g_cw_inv hk
    obtain ⟨e, h2, -⟩ := hg k h1
    exact hD.2 (g k) (ad k, e) h2
/-- what stands in the class's cells when it is made -/
def g_z0 : gS := fun i j => if i = 0 then (if j = 10 then (-1) else 0) else if i < 24 then 0 else if 132 ≤ i then 0 else if i % 12 = 0 then (if j = 2 then 15 else 0) else if i % 12 = 11 then (if j < 20 then (-1) else 0) else 0
def g_pm (k : Nat) : Nat := if k < 24 then [0, 131, 37, 38, 111, 112, 113, 114, 120, 121, 122, 123, 129, 130, 115, 116, 117, 118, 119, 124, 125, 126, 127, 128].getD k 0 else if k < 60 then k - 23 else k - 21
theorem g_pm_inj : ∀ i, i < 132 → ∀ j, j < 132 → g_pm i = g_pm j → i = j := by decide +kernel
def w_all (y : ClassId × ClassId × ClassId) (h : Nat) (q : Nat → Nat) (u0 u1 u2 : Nat → Nat) (u3 : Nat × (Nat → Nat → Nat)) (u4 u5 u6 : Nat → Nat) : va_W :=
  [(h, .inr (8, [.ref (q 0), .ref (q 1), .ref (q 2), .ref (q 3), .ref (q 4), .ref (q 5), .ref (q 6), .ref (q 7), .int 0, .int 0, .int (-1)]))] ++ w_air y (q 0) u0 ++ w_air y (q 1) u1 ++ w_air y (q 2) u2 ++ w_his y (q 3) u3.1 u3.2 ++ w_txt y (q 4) u4 ++ w_fst y (q 5) u5 ++ w_evr y (q 6) u6 ++ [(q 7, .inl (y.1, 1441, .inl fun _ => 0))]
def w_ad (h : Nat) (q : Nat → Nat) (u0 u1 u2 : Nat → Nat) (u3 : Nat × (Nat → Nat → Nat)) (u4 u5 u6 : Nat → Nat) (k : Nat) : Nat :=
  if k < 24 then [h, q 7, q 3, u3.1, q 4, u4 0, u4 1, q 5, u5 5, u5 6, u5 7, q 6, u6 5, u6 6, u5 0, u5 1, u5 2, u5 3, u5 4, u6 0, u6 1, u6 2, u6 3, u6 4].getD k 0
  else if k = 24 then q 0 else if k < 36 then u0 (k - 24) else if k = 36 then q 1 else if k < 48 then u1 (k - 36) else if k = 48 then q 2 else if k < 60 then u2 (k - 48) else u3.2 ((k - 60) / 12) ((k - 60) % 12)
theorem w_air_len (y : ClassId × ClassId × ClassId) (h : Nat) (a : Nat → Nat) : (w_air y h a).length = 12 := rfl
theorem w_txt_len (y : ClassId × ClassId × ClassId) (h : Nat) (a : Nat → Nat) : (w_txt y h a).length = 3 := rfl
theorem w_fst_len (y : ClassId × ClassId × ClassId) (h : Nat) (a : Nat → Nat) : (w_fst y h a).length = 9 := rfl
theorem w_evr_len (y : ClassId × ClassId × ClassId) (h : Nat) (a : Nat → Nat) : (w_evr y h a).length = 8 := rfl
theorem w_his_len (y : ClassId × ClassId × ClassId) (h r : Nat) (u : Nat → Nat → Nat) : (w_his y h r u).length = 74 := by
  unfold w_his; simp only [List.length_append, w_air_len]; rfl
theorem w_1 (x : Nat × va_E) : ([x] : va_W).length = 1 := rfl
theorem w_all_b0 {y : ClassId × ClassId × ClassId} {h : Nat} {q : Nat → Nat} {u0 u1 u2 : Nat → Nat} {u3 : Nat × (Nat → Nat → Nat)} {u4 u5 u6 : Nat → Nat} {j k : Nat} {x : Nat × va_E} (h1 : ([(h, .inr (8, [.ref (q 0), .ref (q 1), .ref (q 2), .ref (q 3), .ref (q 4), .ref (q 5), .ref (q 6), .ref (q 7), .int 0, .int 0, .int (-1)]))] : va_W)[j]? = some x) (hj : j < 1) (hk : k = 0 + j) : (w_all y h q u0 u1 u2 u3 u4 u5 u6)[k]? = some x := by
  subst hk
  unfold w_all
  rw [List.getElem?_append_left (by simp only [List.length_append, w_air_len, w_txt_len, w_fst_len, w_evr_len, w_his_len, w_1]; omega)]
  rw [List.getElem?_append_left (by simp only [List.length_append, w_air_len, w_txt_len, w_fst_len, w_evr_len, w_his_len, w_1]; omega)]
  rw [List.getElem?_append_left (by simp only [List.length_append, w_air_len, w_txt_len, w_fst_len, w_evr_len, w_his_len, w_1]; omega)]
  rw [List.getElem?_append_left (by simp only [List.length_append, w_air_len, w_txt_len, w_fst_len, w_evr_len, w_his_len, w_1]; omega)]
  rw [List.getElem?_append_left (by simp only [List.length_append, w_air_len, w_txt_len, w_fst_len, w_evr_len, w_his_len, w_1]; omega)]
  rw [List.getElem?_append_left (by simp only [List.length_append, w_air_len, w_txt_len, w_fst_len, w_evr_len, w_his_len, w_1]; omega)]
  rw [List.getElem?_append_left (by simp only [List.length_append, w_air_len, w_txt_len, w_fst_len, w_evr_len, w_his_len, w_1]; omega)]
  rw [List.getElem?_append_left (by simp only [List.length_append, w_air_len, w_txt_len, w_fst_len, w_evr_len, w_his_len, w_1]; omega)]
  rw [Nat.zero_add]
  exact h1
theorem w_all_b1 {y : ClassId × ClassId × ClassId} {h : Nat} {q : Nat → Nat} {u0 u1 u2 : Nat → Nat} {u3 : Nat × (Nat → Nat → Nat)} {u4 u5 u6 : Nat → Nat} {j k : Nat} {x : Nat × va_E} (h1 : (w_air y (q 0) u0 : va_W)[j]? = some x) (hj : j < 12) (hk : k = 1 + j) : (w_all y h q u0 u1 u2 u3 u4 u5 u6)[k]? = some x := by
  subst hk
  unfold w_all
  rw [List.getElem?_append_left (by simp only [List.length_append, w_air_len, w_txt_len, w_fst_len, w_evr_len, w_his_len, w_1]; omega)]
  rw [List.getElem?_append_left (by simp only [List.length_append, w_air_len, w_txt_len, w_fst_len, w_evr_len, w_his_len, w_1]; omega)]
  rw [List.getElem?_append_left (by simp only [List.length_append, w_air_len, w_txt_len, w_fst_len, w_evr_len, w_his_len, w_1]; omega)]
  rw [List.getElem?_append_left (by simp only [List.length_append, w_air_len, w_txt_len, w_fst_len, w_evr_len, w_his_len, w_1]; omega)]
  rw [List.getElem?_append_left (by simp only [List.length_append, w_air_len, w_txt_len, w_fst_len, w_evr_len, w_his_len, w_1]; omega)]
  rw [List.getElem?_append_left (by simp only [List.length_append, w_air_len, w_txt_len, w_fst_len, w_evr_len, w_his_len, w_1]; omega)]
  rw [List.getElem?_append_left (by simp only [List.length_append, w_air_len, w_txt_len, w_fst_len, w_evr_len, w_his_len, w_1]; omega)]
  rw [List.getElem?_append_right (by simp only [List.length_append, w_air_len, w_txt_len, w_fst_len, w_evr_len, w_his_len, w_1]; omega)]
  rw [show 1 + j - _ = j by simp only [List.length_append, w_air_len, w_txt_len, w_fst_len, w_evr_len, w_his_len, w_1]; omega]
  exact h1
theorem w_all_b2 {y : ClassId × ClassId × ClassId} {h : Nat} {q : Nat → Nat} {u0 u1 u2 : Nat → Nat} {u3 : Nat × (Nat → Nat → Nat)} {u4 u5 u6 : Nat → Nat} {j k : Nat} {x : Nat × va_E} (h1 : (w_air y (q 1) u1 : va_W)[j]? = some x) (hj : j < 12) (hk : k = 13 + j) : (w_all y h q u0 u1 u2 u3 u4 u5 u6)[k]? = some x := by
  subst hk
  unfold w_all
  rw [List.getElem?_append_left (by simp only [List.length_append, w_air_len, w_txt_len, w_fst_len, w_evr_len, w_his_len, w_1]; omega)]
  rw [List.getElem?_append_left (by simp only [List.length_append, w_air_len, w_txt_len, w_fst_len, w_evr_len, w_his_len, w_1]; omega)]
  rw [List.getElem?_append_left (by simp only [List.length_append, w_air_len, w_txt_len, w_fst_len, w_evr_len, w_his_len, w_1]; omega)]
  rw [List.getElem?_append_left (by simp only [List.length_append, w_air_len, w_txt_len, w_fst_len, w_evr_len, w_his_len, w_1]; omega)]
  rw [List.getElem?_append_left (by simp only [List.length_append, w_air_len, w_txt_len, w_fst_len, w_evr_len, w_his_len, w_1]; omega)]
  rw [List.getElem?_append_left (by simp only [List.length_append, w_air_len, w_txt_len, w_fst_len, w_evr_len, w_his_len, w_1]; omega)]
  rw [List.getElem?_append_right (by simp only [List.length_append, w_air_len, w_txt_len, w_fst_len, w_evr_len, w_his_len, w_1]; omega)]
  rw [show 13 + j - _ = j by simp only [List.length_append, w_air_len, w_txt_len, w_fst_len, w_evr_len, w_his_len, w_1]; omega]
  exact h1
theorem w_all_b3 {y : ClassId × ClassId × ClassId} {h : Nat} {q : Nat → Nat} {u0 u1 u2 : Nat → Nat} {u3 : Nat × (Nat → Nat → Nat)} {u4 u5 u6 : Nat → Nat} {j k : Nat} {x : Nat × va_E} (h1 : (w_air y (q 2) u2 : va_W)[j]? = some x) (hj : j < 12) (hk : k = 25 + j) : (w_all y h q u0 u1 u2 u3 u4 u5 u6)[k]? = some x := by
  subst hk
  unfold w_all
  rw [List.getElem?_append_left (by simp only [List.length_append, w_air_len, w_txt_len, w_fst_len, w_evr_len, w_his_len, w_1]; omega)]
  rw [List.getElem?_append_left (by simp only [List.length_append, w_air_len, w_txt_len, w_fst_len, w_evr_len, w_his_len, w_1]; omega)]
  rw [List.getElem?_append_left (by simp only [List.length_append, w_air_len, w_txt_len, w_fst_len, w_evr_len, w_his_len, w_1]; omega)]
  rw [List.getElem?_append_left (by simp only [List.length_append, w_air_len, w_txt_len, w_fst_len, w_evr_len, w_his_len, w_1]; omega)]
  rw [List.getElem?_append_left (by simp only [List.length_append, w_air_len, w_txt_len, w_fst_len, w_evr_len, w_his_len, w_1]; omega)]
  rw [List.getElem?_append_right (by simp only [List.length_append, w_air_len, w_txt_len, w_fst_len, w_evr_len, w_his_len, w_1]; omega)]
  rw [show 25 + j - _ = j by simp only [List.length_append, w_air_len, w_txt_len, w_fst_len, w_evr_len, w_his_len, w_1]; omega]
  exact h1
theorem w_all_b4 {y : ClassId × ClassId × ClassId} {h : Nat} {q : Nat → Nat} {u0 u1 u2 : Nat → Nat} {u3 : Nat × (Nat → Nat → Nat)} {u4 u5 u6 : Nat → Nat} {j k : Nat} {x : Nat × va_E} (h1 : (w_his y (q 3) u3.1 u3.2 : va_W)[j]? = some x) (hj : j < 74) (hk : k = 37 + j) : (w_all y h q u0 u1 u2 u3 u4 u5 u6)[k]? = some x := by
  subst hk
  unfold w_all
  rw [List.getElem?_append_left (by simp only [List.length_append, w_air_len, w_txt_len, w_fst_len, w_evr_len, w_his_len, w_1]; omega)]
  rw [List.getElem?_append_left (by simp only [List.length_append, w_air_len, w_txt_len, w_fst_len, w_evr_len, w_his_len, w_1]; omega)]
  rw [List.getElem?_append_left (by simp only [List.length_append, w_air_len, w_txt_len, w_fst_len, w_evr_len, w_his_len, w_1]; omega)]
  rw [List.getElem?_append_left (by simp only [List.length_append, w_air_len, w_txt_len, w_fst_len, w_evr_len, w_his_len, w_1]; omega)]
  rw [List.getElem?_append_right (by simp only [List.length_append, w_air_len, w_txt_len, w_fst_len, w_evr_len, w_his_len, w_1]; omega)]
  rw [show 37 + j - _ = j by simp only [List.length_append, w_air_len, w_txt_len, w_fst_len, w_evr_len, w_his_len, w_1]; omega]
  exact h1
theorem w_all_b5 {y : ClassId × ClassId × ClassId} {h : Nat} {q : Nat → Nat} {u0 u1 u2 : Nat → Nat} {u3 : Nat × (Nat → Nat → Nat)} {u4 u5 u6 : Nat → Nat} {j k : Nat} {x : Nat × va_E} (h1 : (w_txt y (q 4) u4 : va_W)[j]? = some x) (hj : j < 3) (hk : k = 111 + j) : (w_all y h q u0 u1 u2 u3 u4 u5 u6)[k]? = some x := by
  subst hk
  unfold w_all
  rw [List.getElem?_append_left (by simp only [List.length_append, w_air_len, w_txt_len, w_fst_len, w_evr_len, w_his_len, w_1]; omega)]
  rw [List.getElem?_append_left (by simp only [List.length_append, w_air_len, w_txt_len, w_fst_len, w_evr_len, w_his_len, w_1]; omega)]
  rw [List.getElem?_append_left (by simp only [List.length_append, w_air_len, w_txt_len, w_fst_len, w_evr_len, w_his_len, w_1]; omega)]
  rw [List.getElem?_append_right (by simp only [List.length_append, w_air_len, w_txt_len, w_fst_len, w_evr_len, w_his_len, w_1]; omega)]
  rw [show 111 + j - _ = j by simp only [List.length_append, w_air_len, w_txt_len, w_fst_len, w_evr_len, w_his_len, w_1]; omega]
  exact h1
theorem w_all_b6 {y : ClassId × ClassId × ClassId} {h : Nat} {q : Nat → Nat} {u0 u1 u2 : Nat → Nat} {u3 : Nat × (Nat → Nat → Nat)} {u4 u5 u6 : Nat → Nat} {j k : Nat} {x : Nat × va_E} (h1 : (w_fst y (q 5) u5 : va_W)[j]? = some x) (hj : j < 9) (hk : k = 114 + j) : (w_all y h q u0 u1 u2 u3 u4 u5 u6)[k]? = some x := by
  subst hk
  unfold w_all
  rw [List.getElem?_append_left (by simp only [List.length_append, w_air_len, w_txt_len, w_fst_len, w_evr_len, w_his_len, w_1]; omega)]
  rw [List.getElem?_append_left (by simp only [List.length_append, w_air_len, w_txt_len, w_fst_len, w_evr_len, w_his_len, w_1]; omega)]
  rw [List.getElem?_append_right (by simp only [List.length_append, w_air_len, w_txt_len, w_fst_len, w_evr_len, w_his_len, w_1]; omega)]
  rw [show 114 + j - _ = j by simp only [List.length_append, w_air_len, w_txt_len, w_fst_len, w_evr_len, w_his_len, w_1]; omega]
  exact h1
theorem w_all_b7 {y : ClassId × ClassId × ClassId} {h : Nat} {q : Nat → Nat} {u0 u1 u2 : Nat → Nat} {u3 : Nat × (Nat → Nat → Nat)} {u4 u5 u6 : Nat → Nat} {j k : Nat} {x : Nat × va_E} (h1 : (w_evr y (q 6) u6 : va_W)[j]? = some x) (hj : j < 8) (hk : k = 123 + j) : (w_all y h q u0 u1 u2 u3 u4 u5 u6)[k]? = some x := by
  subst hk
  unfold w_all
  rw [List.getElem?_append_left (by simp only [List.length_append, w_air_len, w_txt_len, w_fst_len, w_evr_len, w_his_len, w_1]; omega)]
  rw [List.getElem?_append_right (by simp only [List.length_append, w_air_len, w_txt_len, w_fst_len, w_evr_len, w_his_len, w_1]; omega)]
  rw [show 123 + j - _ = j by simp only [List.length_append, w_air_len, w_txt_len, w_fst_len, w_evr_len, w_his_len, w_1]; omega]
  exact h1
theorem w_all_b8 {y : ClassId × ClassId × ClassId} {h : Nat} {q : Nat → Nat} {u0 u1 u2 : Nat → Nat} {u3 : Nat × (Nat → Nat → Nat)} {u4 u5 u6 : Nat → Nat} {j k : Nat} {x : Nat × va_E} (h1 : ([(q 7, .inl (y.1, 1441, .inl fun _ => 0))] : va_W)[j]? = some x) (hj : j < 1) (hk : k = 131 + j) : (w_all y h q u0 u1 u2 u3 u4 u5 u6)[k]? = some x := by
  subst hk
  unfold w_all
  rw [List.getElem?_append_right (by simp only [List.length_append, w_air_len, w_txt_len, w_fst_len, w_evr_len, w_his_len, w_1]; omega)]
  rw [show 131 + j - _ = j by simp only [List.length_append, w_air_len, w_txt_len, w_fst_len, w_evr_len, w_his_len, w_1]; omega]
  exact h1
theorem w_his_b0 {y : ClassId × ClassId × ClassId} {h r : Nat} {u : Nat → Nat → Nat} {j k : Nat} {x : Nat × va_E} (h1 : ([(h, .inr (6, [.ref r, .int 0, .int 0]))] : va_W)[j]? = some x) (hj : j < 1) (hk : k = 0 + j) : (w_his y h r u)[k]? = some x := by
  subst hk
  unfold w_his
  rw [List.getElem?_append_left (by simp only [List.length_append, w_air_len, w_1]; omega)]
  rw [List.getElem?_append_left (by simp only [List.length_append, w_air_len, w_1]; omega)]
  rw [List.getElem?_append_left (by simp only [List.length_append, w_air_len, w_1]; omega)]
  rw [List.getElem?_append_left (by simp only [List.length_append, w_air_len, w_1]; omega)]
  rw [List.getElem?_append_left (by simp only [List.length_append, w_air_len, w_1]; omega)]
  rw [List.getElem?_append_left (by simp only [List.length_append, w_air_len, w_1]; omega)]
  rw [List.getElem?_append_left (by simp only [List.length_append, w_air_len, w_1]; omega)]
  rw [Nat.zero_add]
  exact h1
theorem w_his_b1 {y : ClassId × ClassId × ClassId} {h r : Nat} {u : Nat → Nat → Nat} {j k : Nat} {x : Nat × va_E} (h1 : ([(r, .inl (y.2.2, 6, .inr (.inr (.inr (.inr fun j => some (u j 0))))))] : va_W)[j]? = some x) (hj : j < 1) (hk : k = 1 + j) : (w_his y h r u)[k]? = some x := by
  subst hk
  unfold w_his
  rw [List.getElem?_append_left (by simp only [List.length_append, w_air_len, w_1]; omega)]
  rw [List.getElem?_append_left (by simp only [List.length_append, w_air_len, w_1]; omega)]
  rw [List.getElem?_append_left (by simp only [List.length_append, w_air_len, w_1]; omega)]
  rw [List.getElem?_append_left (by simp only [List.length_append, w_air_len, w_1]; omega)]
  rw [List.getElem?_append_left (by simp only [List.length_append, w_air_len, w_1]; omega)]
  rw [List.getElem?_append_left (by simp only [List.length_append, w_air_len, w_1]; omega)]
  rw [List.getElem?_append_right (by simp only [List.length_append, w_air_len, w_1]; omega)]
  rw [show 1 + j - _ = j by simp only [List.length_append, w_air_len, w_1]; omega]
  exact h1
theorem w_his_b2 {y : ClassId × ClassId × ClassId} {h r : Nat} {u : Nat → Nat → Nat} {j k : Nat} {x : Nat × va_E} (h1 : (w_air y (u 0 0) (u 0) : va_W)[j]? = some x) (hj : j < 12) (hk : k = 2 + j) : (w_his y h r u)[k]? = some x := by
  subst hk
  unfold w_his
  rw [List.getElem?_append_left (by simp only [List.length_append, w_air_len, w_1]; omega)]
  rw [List.getElem?_append_left (by simp only [List.length_append, w_air_len, w_1]; omega)]
  rw [List.getElem?_append_left (by simp only [List.length_append, w_air_len, w_1]; omega)]
  rw [List.getElem?_append_left (by simp only [List.length_append, w_air_len, w_1]; omega)]
  rw [List.getElem?_append_left (by simp only [List.length_append, w_air_len, w_1]; omega)]
  rw [List.getElem?_append_right (by simp only [List.length_append, w_air_len, w_1]; omega)]
  rw [show 2 + j - _ = j by simp only [List.length_append, w_air_len, w_1]; omega]
  exact h1
theorem w_his_b3 {y : ClassId × ClassId × ClassId} {h r : Nat} {u : Nat → Nat → Nat} {j k : Nat} {x : Nat × va_E} (h1 : (w_air y (u 1 0) (u 1) : va_W)[j]? = some x) (hj : j < 12) (hk : k = 14 + j) : (w_his y h r u)[k]? = some x := by
  subst hk
  unfold w_his
  rw [List.getElem?_append_left (by simp only [List.length_append, w_air_len, w_1]; omega)]
  rw [List.getElem?_append_left (by simp only [List.length_append, w_air_len, w_1]; omega)]
  rw [List.getElem?_append_left (by simp only [List.length_append, w_air_len, w_1]; omega)]
  rw [List.getElem?_append_left (by simp only [List.length_append, w_air_len, w_1]; omega)]
  rw [List.getElem?_append_right (by simp only [List.length_append, w_air_len, w_1]; omega)]
  rw [show 14 + j - _ = j by simp only [List.length_append, w_air_len, w_1]; omega]
  exact h1
theorem w_his_b4 {y : ClassId × ClassId × ClassId} {h r : Nat} {u : Nat → Nat → Nat} {j k : Nat} {x : Nat × va_E} (h1 : (w_air y (u 2 0) (u 2) : va_W)[j]? = some x) (hj : j < 12) (hk : k = 26 + j) : (w_his y h r u)[k]? = some x := by
  subst hk
  unfold w_his
  rw [List.getElem?_append_left (by simp only [List.length_append, w_air_len, w_1]; omega)]
  rw [List.getElem?_append_left (by simp only [List.length_append, w_air_len, w_1]; omega)]
  rw [List.getElem?_append_left (by simp only [List.length_append, w_air_len, w_1]; omega)]
  rw [List.getElem?_append_right (by simp only [List.length_append, w_air_len, w_1]; omega)]
  rw [show 26 + j - _ = j by simp only [List.length_append, w_air_len, w_1]; omega]
  exact h1
theorem w_his_b5 {y : ClassId × ClassId × ClassId} {h r : Nat} {u : Nat → Nat → Nat} {j k : Nat} {x : Nat × va_E} (h1 : (w_air y (u 3 0) (u 3) : va_W)[j]? = some x) (hj : j < 12) (hk : k = 38 + j) : (w_his y h r u)[k]? = some x := by
  subst hk
  unfold w_his
  rw [List.getElem?_append_left (by simp only [List.length_append, w_air_len, w_1]; omega)]
  rw [List.getElem?_append_left (by simp only [List.length_append, w_air_len, w_1]; omega)]
  rw [List.getElem?_append_right (by simp only [List.length_append, w_air_len, w_1]; omega)]
  rw [show 38 + j - _ = j by simp only [List.length_append, w_air_len, w_1]; omega]
  exact h1
theorem w_his_b6 {y : ClassId × ClassId × ClassId} {h r : Nat} {u : Nat → Nat → Nat} {j k : Nat} {x : Nat × va_E} (h1 : (w_air y (u 4 0) (u 4) : va_W)[j]? = some x) (hj : j < 12) (hk : k = 50 + j) : (w_his y h r u)[k]? = some x := by
  subst hk
  unfold w_his
  rw [List.getElem?_append_left (by simp only [List.length_append, w_air_len, w_1]; omega)]
  rw [List.getElem?_append_right (by simp only [List.length_append, w_air_len, w_1]; omega)]
  rw [show 50 + j - _ = j by simp only [List.length_append, w_air_len, w_1]; omega]
  exact h1
theorem w_his_b7 {y : ClassId × ClassId × ClassId} {h r : Nat} {u : Nat → Nat → Nat} {j k : Nat} {x : Nat × va_E} (h1 : (w_air y (u 5 0) (u 5) : va_W)[j]? = some x) (hj : j < 12) (hk : k = 62 + j) : (w_his y h r u)[k]? = some x := by
  subst hk
  unfold w_his
  rw [List.getElem?_append_right (by simp only [List.length_append, w_air_len, w_1]; omega)]
  rw [show 62 + j - _ = j by simp only [List.length_append, w_air_len, w_1]; omega]
  exact h1
theorem z0_lt {i : Nat} (h0 : 0 < i) (h1 : i < 24) : g_z0 i = fun _ => 0 := by
  funext j; unfold g_z0; rw [if_neg (by omega), if_pos h1]
theorem z0_row {b j : Nat} (hb : g_air b) (h1 : 1 ≤ j) (h2 : j ≤ 10) : g_z0 (b + j) = fun _ => 0 := by
  obtain ⟨a1, a2, a3⟩ := hb
  funext z; unfold g_z0; rw [if_neg (by omega), if_neg (by omega), if_neg (by omega), if_neg (by omega), if_neg (by omega)]
theorem z0_of {b : Nat} (hb : g_air b) : g_z0 (b + 11) = fun j => if j < 20 then (-1) else 0 := by
  obtain ⟨a1, a2, a3⟩ := hb
  funext z; unfold g_z0; rw [if_neg (by omega), if_neg (by omega), if_neg (by omega), if_neg (by omega), if_pos (by omega)]
theorem z0_air {b : Nat} (hb : g_air b) : g_z0 b = fun j => if j = 2 then 15 else 0 := by
  obtain ⟨a1, a2, a3⟩ := hb
  funext z; unfold g_z0; rw [if_neg (by omega), if_neg (by omega), if_neg (by omega), if_pos (by omega)]
theorem w_air_k {y : ClassId × ClassId × ClassId} {b qa : Nat} {u ad : Nat → Nat} (hb : g_air b) (h0 : ad b = qa) (hu : ∀ j, 1 ≤ j → j < 12 → ad (b + j) = u j) {j : Nat} (hj : j < 12) : (w_air y qa u)[j]? = some (ad (b + j), g_ce y ad g_z0 (b + j)) := by
  have e1 := hu 1 (by omega) (by omega)
  have e2 := hu 2 (by omega) (by omega)
  have e3 := hu 3 (by omega) (by omega)
  have e4 := hu 4 (by omega) (by omega)
  have e5 := hu 5 (by omega) (by omega)
  have e6 := hu 6 (by omega) (by omega)
  have e7 := hu 7 (by omega) (by omega)
  have e8 := hu 8 (by omega) (by omega)
  have e9 := hu 9 (by omega) (by omega)
  have e10 := hu 10 (by omega) (by omega)
  have e11 := hu 11 (by omega) (by omega)
  rcases (show j = 0 ∨ j = 1 ∨ j = 2 ∨ j = 3 ∨ j = 4 ∨ j = 5 ∨ j = 6 ∨ j = 7 ∨ j = 8 ∨ j = 9 ∨ j = 10 ∨ j = 11 by omega) with rfl | rfl | rfl | rfl | rfl | rfl | rfl | rfl | rfl | rfl | rfl | rfl
  · rw [Nat.add_zero, g_ce_obj (g_sh_air hb), z0_air hb, h0]
    show _ = some (qa, Sum.inr (2, [Value.int 0, .int 0, .int 15, .int 0, .int 0, .ref (ad (b + 1)), .ref (ad (b + 2)), .ref (ad (b + 3)), .ref (ad (b + 4)), .ref (ad (b + 5)), .ref (ad (b + 6)), .ref (ad (b + 7)), .ref (ad (b + 8)), .ref (ad (b + 9)), .ref (ad (b + 10)), .ref (ad (b + 11))]))
    rw [e1, e2, e3, e4, e5, e6, e7, e8, e9, e10, e11]
    rfl
  · rw [g_ce_int (g_sa1 hb), z0_row hb (by omega) (by omega), e1]
    rfl
  · rw [g_ce_int (g_sa2 hb), z0_row hb (by omega) (by omega), e2]
    rfl
  · rw [g_ce_int (g_sa3 hb), z0_row hb (by omega) (by omega), e3]
    rfl
  · rw [g_ce_int (g_sa4 hb), z0_row hb (by omega) (by omega), e4]
    rfl
  · rw [g_ce_int (g_sa5 hb), z0_row hb (by omega) (by omega), e5]
    rfl
  · rw [g_ce_int (g_sa6 hb), z0_row hb (by omega) (by omega), e6]
    rfl
  · rw [g_ce_int (g_sa7 hb), z0_row hb (by omega) (by omega), e7]
    rfl
  · rw [g_ce_int (g_sa8 hb), z0_row hb (by omega) (by omega), e8]
    rfl
  · rw [g_ce_int (g_sa9 hb), z0_row hb (by omega) (by omega), e9]
    rfl
  · rw [g_ce_int (g_sa10 hb), z0_row hb (by omega) (by omega), e10]
    rfl
  · rw [g_ce_int (g_sa11 hb), z0_of hb, e11]
    rfl
theorem w_ad_air {h : Nat} {q : Nat → Nat} {u0 u1 u2 : Nat → Nat} {u3 : Nat × (Nat → Nat → Nat)} {u4 u5 u6 : Nat → Nat} {j : Nat} (h1 : 1 ≤ j) (h2 : j < 12) : w_ad h q u0 u1 u2 u3 u4 u5 u6 (24 + j) = u0 j ∧ w_ad h q u0 u1 u2 u3 u4 u5 u6 (36 + j) = u1 j ∧ w_ad h q u0 u1 u2 u3 u4 u5 u6 (48 + j) = u2 j := by
  refine ⟨?_, ?_, ?_⟩
  · unfold w_ad; rw [if_neg (by omega), if_neg (by omega), if_pos (by omega), Nat.add_sub_cancel_left]
  · unfold w_ad; rw [if_neg (by omega), if_neg (by omega), if_neg (by omega), if_neg (by omega), if_pos (by omega), Nat.add_sub_cancel_left]
  · unfold w_ad; rw [if_neg (by omega), if_neg (by omega), if_neg (by omega), if_neg (by omega), if_neg (by omega), if_neg (by omega), if_pos (by omega), Nat.add_sub_cancel_left]
theorem w_ad_ring {h : Nat} {q : Nat → Nat} {u0 u1 u2 : Nat → Nat} {u3 : Nat × (Nat → Nat → Nat)} {u4 u5 u6 : Nat → Nat} {t j : Nat} (h2 : j < 12) : w_ad h q u0 u1 u2 u3 u4 u5 u6 (60 + 12 * t + j) = u3.2 t j := by
  unfold w_ad; rw [if_neg (by omega), if_neg (by omega), if_neg (by omega), if_neg (by omega), if_neg (by omega), if_neg (by omega), if_neg (by omega)]
  rw [show (60 + 12 * t + j - 60) / 12 = t by omega, show (60 + 12 * t + j - 60) % 12 = j by omega]
set_option maxHeartbeats 4000000 in
set_option maxRecDepth 100000 in
theorem w_id0 {D : va_G} {H : Heap} {y : ClassId × ClassId × ClassId} {h : Nat} {q : Nat → Nat} {u0 u1 u2 : Nat → Nat} {u3 : Nat × (Nat → Nat → Nat)} {u4 u5 u6 : Nat → Nat} : ∃ e, (w_all y h q u0 u1 u2 u3 u4 u5 u6)[0]? = some (w_ad h q u0 u1 u2 u3 u4 u5 u6 0, e) ∧ (va_at D vwCl (w_ad h q u0 u1 u2 u3 u4 u5 u6 0, e) H → va_at D vwCl (w_ad h q u0 u1 u2 u3 u4 u5 u6 0, g_ce y (w_ad h q u0 u1 u2 u3 u4 u5 u6) g_z0 0) H) := by
  exact ⟨_, w_all_b0 (j := 0) rfl (by omega) (by omega), fun h => h⟩
set_option maxHeartbeats 4000000 in
set_option maxRecDepth 100000 in
theorem w_id1 {D : va_G} {H : Heap} {y : ClassId × ClassId × ClassId} {h : Nat} {q : Nat → Nat} {u0 u1 u2 : Nat → Nat} {u3 : Nat × (Nat → Nat → Nat)} {u4 u5 u6 : Nat → Nat} : ∃ e, (w_all y h q u0 u1 u2 u3 u4 u5 u6)[131]? = some (w_ad h q u0 u1 u2 u3 u4 u5 u6 1, e) ∧ (va_at D vwCl (w_ad h q u0 u1 u2 u3 u4 u5 u6 1, e) H → va_at D vwCl (w_ad h q u0 u1 u2 u3 u4 u5 u6 1, g_ce y (w_ad h q u0 u1 u2 u3 u4 u5 u6) g_z0 1) H) := by
  refine ⟨_, w_all_b8 (j := 0) rfl (by omega) (by omega), fun h => ?_⟩
  rw [g_ce_int (show g_sh 1 = _ from rfl), z0_lt (by omega) (by omega)]
  exact h
set_option maxHeartbeats 4000000 in
set_option maxRecDepth 100000 in
theorem w_id2 {D : va_G} {H : Heap} {y : ClassId × ClassId × ClassId} {h : Nat} {q : Nat → Nat} {u0 u1 u2 : Nat → Nat} {u3 : Nat × (Nat → Nat → Nat)} {u4 u5 u6 : Nat → Nat} : ∃ e, (w_all y h q u0 u1 u2 u3 u4 u5 u6)[37]? = some (w_ad h q u0 u1 u2 u3 u4 u5 u6 2, e) ∧ (va_at D vwCl (w_ad h q u0 u1 u2 u3 u4 u5 u6 2, e) H → va_at D vwCl (w_ad h q u0 u1 u2 u3 u4 u5 u6 2, g_ce y (w_ad h q u0 u1 u2 u3 u4 u5 u6) g_z0 2) H) := by
  exact ⟨_, w_all_b4 (j := 0) (w_his_b0 (j := 0) rfl (by omega) (by omega)) (by omega) (by omega), fun h => h⟩
set_option maxHeartbeats 4000000 in
set_option maxRecDepth 100000 in
theorem w_id3 {D : va_G} {H : Heap} {y : ClassId × ClassId × ClassId} {h : Nat} {q : Nat → Nat} {u0 u1 u2 : Nat → Nat} {u3 : Nat × (Nat → Nat → Nat)} {u4 u5 u6 : Nat → Nat} : ∃ e, (w_all y h q u0 u1 u2 u3 u4 u5 u6)[38]? = some (w_ad h q u0 u1 u2 u3 u4 u5 u6 3, e) ∧ (va_at D vwCl (w_ad h q u0 u1 u2 u3 u4 u5 u6 3, e) H → va_at D vwCl (w_ad h q u0 u1 u2 u3 u4 u5 u6 3, g_ce y (w_ad h q u0 u1 u2 u3 u4 u5 u6) g_z0 3) H) := by
  exact ⟨_, w_all_b4 (j := 1) (w_his_b1 (j := 0) rfl (by omega) (by omega)) (by omega) (by omega), fun h => s_cellq (g := fun j => some (w_ad _ q u0 u1 u2 u3 u4 u5 u6 (60 + 12 * j))) (fun j hj => congrArg some (w_ad_ring (t := j) (j := 0) (by omega)).symm) h⟩
set_option maxHeartbeats 4000000 in
set_option maxRecDepth 100000 in
theorem w_id4 {D : va_G} {H : Heap} {y : ClassId × ClassId × ClassId} {h : Nat} {q : Nat → Nat} {u0 u1 u2 : Nat → Nat} {u3 : Nat × (Nat → Nat → Nat)} {u4 u5 u6 : Nat → Nat} : ∃ e, (w_all y h q u0 u1 u2 u3 u4 u5 u6)[111]? = some (w_ad h q u0 u1 u2 u3 u4 u5 u6 4, e) ∧ (va_at D vwCl (w_ad h q u0 u1 u2 u3 u4 u5 u6 4, e) H → va_at D vwCl (w_ad h q u0 u1 u2 u3 u4 u5 u6 4, g_ce y (w_ad h q u0 u1 u2 u3 u4 u5 u6) g_z0 4) H) := by
  exact ⟨_, w_all_b5 (j := 0) rfl (by omega) (by omega), fun h => h⟩
set_option maxHeartbeats 4000000 in
set_option maxRecDepth 100000 in
theorem w_id5 {D : va_G} {H : Heap} {y : ClassId × ClassId × ClassId} {h : Nat} {q : Nat → Nat} {u0 u1 u2 : Nat → Nat} {u3 : Nat × (Nat → Nat → Nat)} {u4 u5 u6 : Nat → Nat} : ∃ e, (w_all y h q u0 u1 u2 u3 u4 u5 u6)[112]? = some (w_ad h q u0 u1 u2 u3 u4 u5 u6 5, e) ∧ (va_at D vwCl (w_ad h q u0 u1 u2 u3 u4 u5 u6 5, e) H → va_at D vwCl (w_ad h q u0 u1 u2 u3 u4 u5 u6 5, g_ce y (w_ad h q u0 u1 u2 u3 u4 u5 u6) g_z0 5) H) := by
  refine ⟨_, w_all_b5 (j := 1) rfl (by omega) (by omega), fun h => ?_⟩
  rw [g_ce_chr (show g_sh 5 = _ from rfl), z0_lt (by omega) (by omega)]
  exact h
set_option maxHeartbeats 4000000 in
set_option maxRecDepth 100000 in
theorem w_id6 {D : va_G} {H : Heap} {y : ClassId × ClassId × ClassId} {h : Nat} {q : Nat → Nat} {u0 u1 u2 : Nat → Nat} {u3 : Nat × (Nat → Nat → Nat)} {u4 u5 u6 : Nat → Nat} : ∃ e, (w_all y h q u0 u1 u2 u3 u4 u5 u6)[113]? = some (w_ad h q u0 u1 u2 u3 u4 u5 u6 6, e) ∧ (va_at D vwCl (w_ad h q u0 u1 u2 u3 u4 u5 u6 6, e) H → va_at D vwCl (w_ad h q u0 u1 u2 u3 u4 u5 u6 6, g_ce y (w_ad h q u0 u1 u2 u3 u4 u5 u6) g_z0 6) H) := by
  refine ⟨_, w_all_b5 (j := 2) rfl (by omega) (by omega), fun h => ?_⟩
  rw [g_ce_int (show g_sh 6 = _ from rfl), z0_lt (by omega) (by omega)]
  exact h
set_option maxHeartbeats 4000000 in
set_option maxRecDepth 100000 in
theorem w_id7 {D : va_G} {H : Heap} {y : ClassId × ClassId × ClassId} {h : Nat} {q : Nat → Nat} {u0 u1 u2 : Nat → Nat} {u3 : Nat × (Nat → Nat → Nat)} {u4 u5 u6 : Nat → Nat} : ∃ e, (w_all y h q u0 u1 u2 u3 u4 u5 u6)[114]? = some (w_ad h q u0 u1 u2 u3 u4 u5 u6 7, e) ∧ (va_at D vwCl (w_ad h q u0 u1 u2 u3 u4 u5 u6 7, e) H → va_at D vwCl (w_ad h q u0 u1 u2 u3 u4 u5 u6 7, g_ce y (w_ad h q u0 u1 u2 u3 u4 u5 u6) g_z0 7) H) := by
  exact ⟨_, w_all_b6 (j := 0) rfl (by omega) (by omega), fun h => h⟩
set_option maxHeartbeats 4000000 in
set_option maxRecDepth 100000 in
theorem w_id8 {D : va_G} {H : Heap} {y : ClassId × ClassId × ClassId} {h : Nat} {q : Nat → Nat} {u0 u1 u2 : Nat → Nat} {u3 : Nat × (Nat → Nat → Nat)} {u4 u5 u6 : Nat → Nat} : ∃ e, (w_all y h q u0 u1 u2 u3 u4 u5 u6)[120]? = some (w_ad h q u0 u1 u2 u3 u4 u5 u6 8, e) ∧ (va_at D vwCl (w_ad h q u0 u1 u2 u3 u4 u5 u6 8, e) H → va_at D vwCl (w_ad h q u0 u1 u2 u3 u4 u5 u6 8, g_ce y (w_ad h q u0 u1 u2 u3 u4 u5 u6) g_z0 8) H) := by
  refine ⟨_, w_all_b6 (j := 6) rfl (by omega) (by omega), fun h => ?_⟩
  rw [g_ce_int (show g_sh 8 = _ from rfl), z0_lt (by omega) (by omega)]
  exact h
set_option maxHeartbeats 4000000 in
set_option maxRecDepth 100000 in
theorem w_id9 {D : va_G} {H : Heap} {y : ClassId × ClassId × ClassId} {h : Nat} {q : Nat → Nat} {u0 u1 u2 : Nat → Nat} {u3 : Nat × (Nat → Nat → Nat)} {u4 u5 u6 : Nat → Nat} : ∃ e, (w_all y h q u0 u1 u2 u3 u4 u5 u6)[121]? = some (w_ad h q u0 u1 u2 u3 u4 u5 u6 9, e) ∧ (va_at D vwCl (w_ad h q u0 u1 u2 u3 u4 u5 u6 9, e) H → va_at D vwCl (w_ad h q u0 u1 u2 u3 u4 u5 u6 9, g_ce y (w_ad h q u0 u1 u2 u3 u4 u5 u6) g_z0 9) H) := by
  refine ⟨_, w_all_b6 (j := 7) rfl (by omega) (by omega), fun h => ?_⟩
  rw [g_ce_int (show g_sh 9 = _ from rfl), z0_lt (by omega) (by omega)]
  exact h
set_option maxHeartbeats 4000000 in
set_option maxRecDepth 100000 in
theorem w_id10 {D : va_G} {H : Heap} {y : ClassId × ClassId × ClassId} {h : Nat} {q : Nat → Nat} {u0 u1 u2 : Nat → Nat} {u3 : Nat × (Nat → Nat → Nat)} {u4 u5 u6 : Nat → Nat} : ∃ e, (w_all y h q u0 u1 u2 u3 u4 u5 u6)[122]? = some (w_ad h q u0 u1 u2 u3 u4 u5 u6 10, e) ∧ (va_at D vwCl (w_ad h q u0 u1 u2 u3 u4 u5 u6 10, e) H → va_at D vwCl (w_ad h q u0 u1 u2 u3 u4 u5 u6 10, g_ce y (w_ad h q u0 u1 u2 u3 u4 u5 u6) g_z0 10) H) := by
  refine ⟨_, w_all_b6 (j := 8) rfl (by omega) (by omega), fun h => ?_⟩
  rw [g_ce_int (show g_sh 10 = _ from rfl), z0_lt (by omega) (by omega)]
  exact h
set_option maxHeartbeats 4000000 in
set_option maxRecDepth 100000 in
theorem w_id11 {D : va_G} {H : Heap} {y : ClassId × ClassId × ClassId} {h : Nat} {q : Nat → Nat} {u0 u1 u2 : Nat → Nat} {u3 : Nat × (Nat → Nat → Nat)} {u4 u5 u6 : Nat → Nat} : ∃ e, (w_all y h q u0 u1 u2 u3 u4 u5 u6)[123]? = some (w_ad h q u0 u1 u2 u3 u4 u5 u6 11, e) ∧ (va_at D vwCl (w_ad h q u0 u1 u2 u3 u4 u5 u6 11, e) H → va_at D vwCl (w_ad h q u0 u1 u2 u3 u4 u5 u6 11, g_ce y (w_ad h q u0 u1 u2 u3 u4 u5 u6) g_z0 11) H) := by
  exact ⟨_, w_all_b7 (j := 0) rfl (by omega) (by omega), fun h => h⟩
set_option maxHeartbeats 4000000 in
set_option maxRecDepth 100000 in
theorem w_id12 {D : va_G} {H : Heap} {y : ClassId × ClassId × ClassId} {h : Nat} {q : Nat → Nat} {u0 u1 u2 : Nat → Nat} {u3 : Nat × (Nat → Nat → Nat)} {u4 u5 u6 : Nat → Nat} : ∃ e, (w_all y h q u0 u1 u2 u3 u4 u5 u6)[129]? = some (w_ad h q u0 u1 u2 u3 u4 u5 u6 12, e) ∧ (va_at D vwCl (w_ad h q u0 u1 u2 u3 u4 u5 u6 12, e) H → va_at D vwCl (w_ad h q u0 u1 u2 u3 u4 u5 u6 12, g_ce y (w_ad h q u0 u1 u2 u3 u4 u5 u6) g_z0 12) H) := by
  refine ⟨_, w_all_b7 (j := 6) rfl (by omega) (by omega), fun h => ?_⟩
  rw [g_ce_int (show g_sh 12 = _ from rfl), z0_lt (by omega) (by omega)]
  exact h
set_option maxHeartbeats 4000000 in
set_option maxRecDepth 100000 in
theorem w_id13 {D : va_G} {H : Heap} {y : ClassId × ClassId × ClassId} {h : Nat} {q : Nat → Nat} {u0 u1 u2 : Nat → Nat} {u3 : Nat × (Nat → Nat → Nat)} {u4 u5 u6 : Nat → Nat} : ∃ e, (w_all y h q u0 u1 u2 u3 u4 u5 u6)[130]? = some (w_ad h q u0 u1 u2 u3 u4 u5 u6 13, e) ∧ (va_at D vwCl (w_ad h q u0 u1 u2 u3 u4 u5 u6 13, e) H → va_at D vwCl (w_ad h q u0 u1 u2 u3 u4 u5 u6 13, g_ce y (w_ad h q u0 u1 u2 u3 u4 u5 u6) g_z0 13) H) := by
  refine ⟨_, w_all_b7 (j := 7) rfl (by omega) (by omega), fun h => ?_⟩
  rw [g_ce_int (show g_sh 13 = _ from rfl), z0_lt (by omega) (by omega)]
  exact h
set_option maxHeartbeats 4000000 in
set_option maxRecDepth 100000 in
theorem w_id14 {D : va_G} {H : Heap} {y : ClassId × ClassId × ClassId} {h : Nat} {q : Nat → Nat} {u0 u1 u2 : Nat → Nat} {u3 : Nat × (Nat → Nat → Nat)} {u4 u5 u6 : Nat → Nat} : ∃ e, (w_all y h q u0 u1 u2 u3 u4 u5 u6)[115]? = some (w_ad h q u0 u1 u2 u3 u4 u5 u6 14, e) ∧ (va_at D vwCl (w_ad h q u0 u1 u2 u3 u4 u5 u6 14, e) H → va_at D vwCl (w_ad h q u0 u1 u2 u3 u4 u5 u6 14, g_ce y (w_ad h q u0 u1 u2 u3 u4 u5 u6) g_z0 14) H) := by
  exact ⟨_, w_all_b6 (j := 1) rfl (by omega) (by omega), fun h => h⟩
set_option maxHeartbeats 4000000 in
set_option maxRecDepth 100000 in
theorem w_id15 {D : va_G} {H : Heap} {y : ClassId × ClassId × ClassId} {h : Nat} {q : Nat → Nat} {u0 u1 u2 : Nat → Nat} {u3 : Nat × (Nat → Nat → Nat)} {u4 u5 u6 : Nat → Nat} : ∃ e, (w_all y h q u0 u1 u2 u3 u4 u5 u6)[116]? = some (w_ad h q u0 u1 u2 u3 u4 u5 u6 15, e) ∧ (va_at D vwCl (w_ad h q u0 u1 u2 u3 u4 u5 u6 15, e) H → va_at D vwCl (w_ad h q u0 u1 u2 u3 u4 u5 u6 15, g_ce y (w_ad h q u0 u1 u2 u3 u4 u5 u6) g_z0 15) H) := by
  refine ⟨_, w_all_b6 (j := 2) rfl (by omega) (by omega), fun h => ?_⟩
  rw [g_ce_int (show g_sh 15 = _ from rfl), z0_lt (by omega) (by omega)]
  exact h
set_option maxHeartbeats 4000000 in
set_option maxRecDepth 100000 in
theorem w_id16 {D : va_G} {H : Heap} {y : ClassId × ClassId × ClassId} {h : Nat} {q : Nat → Nat} {u0 u1 u2 : Nat → Nat} {u3 : Nat × (Nat → Nat → Nat)} {u4 u5 u6 : Nat → Nat} : ∃ e, (w_all y h q u0 u1 u2 u3 u4 u5 u6)[117]? = some (w_ad h q u0 u1 u2 u3 u4 u5 u6 16, e) ∧ (va_at D vwCl (w_ad h q u0 u1 u2 u3 u4 u5 u6 16, e) H → va_at D vwCl (w_ad h q u0 u1 u2 u3 u4 u5 u6 16, g_ce y (w_ad h q u0 u1 u2 u3 u4 u5 u6) g_z0 16) H) := by
  refine ⟨_, w_all_b6 (j := 3) rfl (by omega) (by omega), fun h => ?_⟩
  rw [g_ce_int (show g_sh 16 = _ from rfl), z0_lt (by omega) (by omega)]
  exact h
set_option maxHeartbeats 4000000 in
set_option maxRecDepth 100000 in
theorem w_id17 {D : va_G} {H : Heap} {y : ClassId × ClassId × ClassId} {h : Nat} {q : Nat → Nat} {u0 u1 u2 : Nat → Nat} {u3 : Nat × (Nat → Nat → Nat)} {u4 u5 u6 : Nat → Nat} : ∃ e, (w_all y h q u0 u1 u2 u3 u4 u5 u6)[118]? = some (w_ad h q u0 u1 u2 u3 u4 u5 u6 17, e) ∧ (va_at D vwCl (w_ad h q u0 u1 u2 u3 u4 u5 u6 17, e) H → va_at D vwCl (w_ad h q u0 u1 u2 u3 u4 u5 u6 17, g_ce y (w_ad h q u0 u1 u2 u3 u4 u5 u6) g_z0 17) H) := by
  refine ⟨_, w_all_b6 (j := 4) rfl (by omega) (by omega), fun h => ?_⟩
  rw [g_ce_int (show g_sh 17 = _ from rfl), z0_lt (by omega) (by omega)]
  exact h
set_option maxHeartbeats 4000000 in
set_option maxRecDepth 100000 in
theorem w_id18 {D : va_G} {H : Heap} {y : ClassId × ClassId × ClassId} {h : Nat} {q : Nat → Nat} {u0 u1 u2 : Nat → Nat} {u3 : Nat × (Nat → Nat → Nat)} {u4 u5 u6 : Nat → Nat} : ∃ e, (w_all y h q u0 u1 u2 u3 u4 u5 u6)[119]? = some (w_ad h q u0 u1 u2 u3 u4 u5 u6 18, e) ∧ (va_at D vwCl (w_ad h q u0 u1 u2 u3 u4 u5 u6 18, e) H → va_at D vwCl (w_ad h q u0 u1 u2 u3 u4 u5 u6 18, g_ce y (w_ad h q u0 u1 u2 u3 u4 u5 u6) g_z0 18) H) := by
  refine ⟨_, w_all_b6 (j := 5) rfl (by omega) (by omega), fun h => ?_⟩
  rw [g_ce_int (show g_sh 18 = _ from rfl), z0_lt (by omega) (by omega)]
  exact h
set_option maxHeartbeats 4000000 in
set_option maxRecDepth 100000 in
theorem w_id19 {D : va_G} {H : Heap} {y : ClassId × ClassId × ClassId} {h : Nat} {q : Nat → Nat} {u0 u1 u2 : Nat → Nat} {u3 : Nat × (Nat → Nat → Nat)} {u4 u5 u6 : Nat → Nat} : ∃ e, (w_all y h q u0 u1 u2 u3 u4 u5 u6)[124]? = some (w_ad h q u0 u1 u2 u3 u4 u5 u6 19, e) ∧ (va_at D vwCl (w_ad h q u0 u1 u2 u3 u4 u5 u6 19, e) H → va_at D vwCl (w_ad h q u0 u1 u2 u3 u4 u5 u6 19, g_ce y (w_ad h q u0 u1 u2 u3 u4 u5 u6) g_z0 19) H) := by
  exact ⟨_, w_all_b7 (j := 1) rfl (by omega) (by omega), fun h => h⟩
set_option maxHeartbeats 4000000 in
set_option maxRecDepth 100000 in
theorem w_id20 {D : va_G} {H : Heap} {y : ClassId × ClassId × ClassId} {h : Nat} {q : Nat → Nat} {u0 u1 u2 : Nat → Nat} {u3 : Nat × (Nat → Nat → Nat)} {u4 u5 u6 : Nat → Nat} : ∃ e, (w_all y h q u0 u1 u2 u3 u4 u5 u6)[125]? = some (w_ad h q u0 u1 u2 u3 u4 u5 u6 20, e) ∧ (va_at D vwCl (w_ad h q u0 u1 u2 u3 u4 u5 u6 20, e) H → va_at D vwCl (w_ad h q u0 u1 u2 u3 u4 u5 u6 20, g_ce y (w_ad h q u0 u1 u2 u3 u4 u5 u6) g_z0 20) H) := by
  refine ⟨_, w_all_b7 (j := 2) rfl (by omega) (by omega), fun h => ?_⟩
  rw [g_ce_int (show g_sh 20 = _ from rfl), z0_lt (by omega) (by omega)]
  exact h
set_option maxHeartbeats 4000000 in
set_option maxRecDepth 100000 in
theorem w_id21 {D : va_G} {H : Heap} {y : ClassId × ClassId × ClassId} {h : Nat} {q : Nat → Nat} {u0 u1 u2 : Nat → Nat} {u3 : Nat × (Nat → Nat → Nat)} {u4 u5 u6 : Nat → Nat} : ∃ e, (w_all y h q u0 u1 u2 u3 u4 u5 u6)[126]? = some (w_ad h q u0 u1 u2 u3 u4 u5 u6 21, e) ∧ (va_at D vwCl (w_ad h q u0 u1 u2 u3 u4 u5 u6 21, e) H → va_at D vwCl (w_ad h q u0 u1 u2 u3 u4 u5 u6 21, g_ce y (w_ad h q u0 u1 u2 u3 u4 u5 u6) g_z0 21) H) := by
  refine ⟨_, w_all_b7 (j := 3) rfl (by omega) (by omega), fun h => ?_⟩
  rw [g_ce_int (show g_sh 21 = _ from rfl), z0_lt (by omega) (by omega)]
  exact h
set_option maxHeartbeats 4000000 in
set_option maxRecDepth 100000 in
theorem w_id22 {D : va_G} {H : Heap} {y : ClassId × ClassId × ClassId} {h : Nat} {q : Nat → Nat} {u0 u1 u2 : Nat → Nat} {u3 : Nat × (Nat → Nat → Nat)} {u4 u5 u6 : Nat → Nat} : ∃ e, (w_all y h q u0 u1 u2 u3 u4 u5 u6)[127]? = some (w_ad h q u0 u1 u2 u3 u4 u5 u6 22, e) ∧ (va_at D vwCl (w_ad h q u0 u1 u2 u3 u4 u5 u6 22, e) H → va_at D vwCl (w_ad h q u0 u1 u2 u3 u4 u5 u6 22, g_ce y (w_ad h q u0 u1 u2 u3 u4 u5 u6) g_z0 22) H) := by
  refine ⟨_, w_all_b7 (j := 4) rfl (by omega) (by omega), fun h => ?_⟩
  rw [g_ce_int (show g_sh 22 = _ from rfl), z0_lt (by omega) (by omega)]
  exact h
set_option maxHeartbeats 4000000 in
set_option maxRecDepth 100000 in
theorem w_id23 {D : va_G} {H : Heap} {y : ClassId × ClassId × ClassId} {h : Nat} {q : Nat → Nat} {u0 u1 u2 : Nat → Nat} {u3 : Nat × (Nat → Nat → Nat)} {u4 u5 u6 : Nat → Nat} : ∃ e, (w_all y h q u0 u1 u2 u3 u4 u5 u6)[128]? = some (w_ad h q u0 u1 u2 u3 u4 u5 u6 23, e) ∧ (va_at D vwCl (w_ad h q u0 u1 u2 u3 u4 u5 u6 23, e) H → va_at D vwCl (w_ad h q u0 u1 u2 u3 u4 u5 u6 23, g_ce y (w_ad h q u0 u1 u2 u3 u4 u5 u6) g_z0 23) H) := by
  refine ⟨_, w_all_b7 (j := 5) rfl (by omega) (by omega), fun h => ?_⟩
  rw [g_ce_int (show g_sh 23 = _ from rfl), z0_lt (by omega) (by omega)]
  exact h
theorem w_all_k {D : va_G} {H : Heap} {y : ClassId × ClassId × ClassId} {h : Nat} {q : Nat → Nat} {u0 u1 u2 : Nat → Nat} {u3 : Nat × (Nat → Nat → Nat)} {u4 u5 u6 : Nat → Nat} (k : Nat) (h0 : k < 132) : ∃ e, (w_all y h q u0 u1 u2 u3 u4 u5 u6)[g_pm k]? = some (w_ad h q u0 u1 u2 u3 u4 u5 u6 k, e) ∧ (va_at D vwCl (w_ad h q u0 u1 u2 u3 u4 u5 u6 k, e) H → va_at D vwCl (w_ad h q u0 u1 u2 u3 u4 u5 u6 k, g_ce y (w_ad h q u0 u1 u2 u3 u4 u5 u6) g_z0 k) H) := by
  by_cases h24 : k < 24
  · rcases (show k = 0 ∨ k = 1 ∨ k = 2 ∨ k = 3 ∨ k = 4 ∨ k = 5 ∨ k = 6 ∨ k = 7 ∨ k = 8 ∨ k = 9 ∨ k = 10 ∨ k = 11 ∨ k = 12 ∨ k = 13 ∨ k = 14 ∨ k = 15 ∨ k = 16 ∨ k = 17 ∨ k = 18 ∨ k = 19 ∨ k = 20 ∨ k = 21 ∨ k = 22 ∨ k = 23 by omega) with rfl | rfl | rfl | rfl | rfl | rfl | rfl | rfl | rfl | rfl | rfl | rfl | rfl | rfl | rfl | rfl | rfl | rfl | rfl | rfl | rfl | rfl | rfl | rfl
    · exact w_id0
    · exact w_id1
    · exact w_id2
    · exact w_id3
    · exact w_id4
    · exact w_id5
    · exact w_id6
    · exact w_id7
    · exact w_id8
    · exact w_id9
    · exact w_id10
    · exact w_id11
    · exact w_id12
    · exact w_id13
    · exact w_id14
    · exact w_id15
    · exact w_id16
    · exact w_id17
    · exact w_id18
    · exact w_id19
    · exact w_id20
    · exact w_id21
    · exact w_id22
    · exact w_id23
  by_cases h36 : k < 36
  · obtain ⟨j, rfl⟩ : ∃ j, k = 24 + j := ⟨k - 24, by omega⟩
    exact ⟨_, w_all_b1 (w_air_k (ad := w_ad h q u0 u1 u2 u3 u4 u5 u6) g_air24 rfl (fun j a b => (w_ad_air a b).1) (by omega)) (by omega) (by unfold g_pm; rw [if_neg (by omega), if_pos (by omega)]; omega), fun h => h⟩
  by_cases h48 : k < 48
  · obtain ⟨j, rfl⟩ : ∃ j, k = 36 + j := ⟨k - 36, by omega⟩
    exact ⟨_, w_all_b2 (w_air_k (ad := w_ad h q u0 u1 u2 u3 u4 u5 u6) g_air36 rfl (fun j a b => (w_ad_air a b).2.1) (by omega)) (by omega) (by unfold g_pm; rw [if_neg (by omega), if_pos (by omega)]; omega), fun h => h⟩
  by_cases h60 : k < 60
  · obtain ⟨j, rfl⟩ : ∃ j, k = 48 + j := ⟨k - 48, by omega⟩
    exact ⟨_, w_all_b3 (w_air_k (ad := w_ad h q u0 u1 u2 u3 u4 u5 u6) g_air48 rfl (fun j a b => (w_ad_air a b).2.2) (by omega)) (by omega) (by unfold g_pm; rw [if_neg (by omega), if_pos (by omega)]; omega), fun h => h⟩
  by_cases h72 : k < 72
  · obtain ⟨j, rfl⟩ : ∃ j, k = 60 + j := ⟨k - 60, by omega⟩
    exact ⟨_, w_all_b4 (w_his_b2 (w_air_k (ad := w_ad h q u0 u1 u2 u3 u4 u5 u6) (b := 60) ⟨by omega, by omega, by omega⟩ (w_ad_ring (t := 0) (j := 0) (by omega)) (fun j a b => w_ad_ring (t := 0) b) (show j < 12 by omega)) (by omega) rfl) (by omega) (by unfold g_pm; rw [if_neg (by omega), if_neg (by omega)]; omega), fun h => h⟩
  by_cases h84 : k < 84
  · obtain ⟨j, rfl⟩ : ∃ j, k = 72 + j := ⟨k - 72, by omega⟩
    exact ⟨_, w_all_b4 (w_his_b3 (w_air_k (ad := w_ad h q u0 u1 u2 u3 u4 u5 u6) (b := 72) ⟨by omega, by omega, by omega⟩ (w_ad_ring (t := 1) (j := 0) (by omega)) (fun j a b => w_ad_ring (t := 1) b) (show j < 12 by omega)) (by omega) rfl) (by omega) (by unfold g_pm; rw [if_neg (by omega), if_neg (by omega)]; omega), fun h => h⟩
  by_cases h96 : k < 96
  · obtain ⟨j, rfl⟩ : ∃ j, k = 84 + j := ⟨k - 84, by omega⟩
    exact ⟨_, w_all_b4 (w_his_b4 (w_air_k (ad := w_ad h q u0 u1 u2 u3 u4 u5 u6) (b := 84) ⟨by omega, by omega, by omega⟩ (w_ad_ring (t := 2) (j := 0) (by omega)) (fun j a b => w_ad_ring (t := 2) b) (show j < 12 by omega)) (by omega) rfl) (by omega) (by unfold g_pm; rw [if_neg (by omega), if_neg (by omega)]; omega), fun h => h⟩
  by_cases h108 : k < 108
  · obtain ⟨j, rfl⟩ : ∃ j, k = 96 + j := ⟨k - 96, by omega⟩
    exact ⟨_, w_all_b4 (w_his_b5 (w_air_k (ad := w_ad h q u0 u1 u2 u3 u4 u5 u6) (b := 96) ⟨by omega, by omega, by omega⟩ (w_ad_ring (t := 3) (j := 0) (by omega)) (fun j a b => w_ad_ring (t := 3) b) (show j < 12 by omega)) (by omega) rfl) (by omega) (by unfold g_pm; rw [if_neg (by omega), if_neg (by omega)]; omega), fun h => h⟩
  by_cases h120 : k < 120
  · obtain ⟨j, rfl⟩ : ∃ j, k = 108 + j := ⟨k - 108, by omega⟩
    exact ⟨_, w_all_b4 (w_his_b6 (w_air_k (ad := w_ad h q u0 u1 u2 u3 u4 u5 u6) (b := 108) ⟨by omega, by omega, by omega⟩ (w_ad_ring (t := 4) (j := 0) (by omega)) (fun j a b => w_ad_ring (t := 4) b) (show j < 12 by omega)) (by omega) rfl) (by omega) (by unfold g_pm; rw [if_neg (by omega), if_neg (by omega)]; omega), fun h => h⟩
  obtain ⟨j, rfl⟩ : ∃ j, k = 120 + j := ⟨k - 120, by omega⟩
  exact ⟨_, w_all_b4 (w_his_b7 (w_air_k (ad := w_ad h q u0 u1 u2 u3 u4 u5 u6) (b := 120) ⟨by omega, by omega, by omega⟩ (w_ad_ring (t := 5) (j := 0) (by omega)) (fun j a b => w_ad_ring (t := 5) b) (show j < 12 by omega)) (by omega) rfl) (by omega) (by unfold g_pm; rw [if_neg (by omega), if_neg (by omega)]; omega), fun h => h⟩
set_option maxHeartbeats 4000000 in
set_option maxRecDepth 100000 in
theorem c_X6_init (l : Launch) (D : va_G) (y : ClassId × ClassId × ClassId) (h : Nat) (sz : Nat) : Met l yX6_init (Cond.code yX6_init cX6_init 1 none :: gl) ({ frames := 3, cells := 131, slots := 3851, locals := 64 }) (s_Pc D y [(h, .inr (8, [.null, .null, .null, .null, .null, .null, .null, .null, .int 0, .int 0, .int 0]))] sz [.ref h]) (s_Qv D (fun a : {ad : Nat → Nat // ad 0 = h} => g_cw y a.1 g_z0 132) [(h, .inr (8, [.null, .null, .null, .null, .null, .null, .null, .null, .int 0, .int 0, .int 0]))] sz) 131 3851 (va_A [(h, .inr (8, [.null, .null, .null, .null, .null, .null, .null, .null, .int 0, .int 0, .int 0]))] sz) := by
  refine s_start (by decide) (Nat.le_of_ble_eq_true rfl) (fun p e s m below meth c ls hC hr hlk hnm hO hsz hW hl => ?_)
  have hx := hC.1
  have hcd := hC.2.1
  have hl : lv_has ls 1 [(0, .ref h)] := hl
  refine lv_aload_n hx hcd dX6_init_0 rfl (lv_at hl 0 rfl) ?_
  refine s_obj hC hl.1 ol_X6 oi_i oi_c ⟨Nat.le_of_ble_eq_true rfl, Nat.le_of_ble_eq_true rfl⟩ dX6_init_1 ?_
  refine lv_aload_n hx hcd dX6_init_4 rfl (lv_at hl 0 rfl) ?_
  refine s_new (fs := [.int 0, .int 0, .int 0, .int 0, .int 0, .null, .null, .null, .null, .null, .null, .null, .null, .null, .null, .null]) (ci := 2) hC hW tyX0 inGX0 tyX0_ok cl_X6_9 it_X0 ii_X0 rfl (fun j hj => by rcases (show j = 0 ∨ j = 1 ∨ j = 2 ∨ j = 3 ∨ j = 4 ∨ j = 5 ∨ j = 6 ∨ j = 7 ∨ j = 8 ∨ j = 9 ∨ j = 10 ∨ j = 11 ∨ j = 12 ∨ j = 13 ∨ j = 14 ∨ j = 15 by omega) with rfl | rfl | rfl | rfl | rfl | rfl | rfl | rfl | rfl | rfl | rfl | rfl | rfl | rfl | rfl | rfl <;> rfl) ⟨Nat.le_of_ble_eq_true rfl, Nat.le_of_ble_eq_true rfl⟩ dX6_init_5 (fun q0 H hW => ?_)
  refine lv_dup hx hcd dX6_init_8 rfl ?_
  refine s_callI (ws := _) (rest := [.ref q0, .ref h]) hC hO hW (c_X0_init l D y q0 _) okI_X6_11 ⟨rfl, rfl, Nat.le_of_ble_eq_true rfl, Nat.le_of_ble_eq_true rfl⟩ hl.1 (Nat.le_of_ble_eq_true rfl) dX6_init_9 ⟨Nat.le_of_ble_eq_true rfl, Nat.le_of_ble_eq_true rfl⟩ (fun u0 H locs hW => ?_)
  refine s_putF (q0 := 0) (T := TX6) (N := 11) (ci := 8) (k := 0) hC hnm hW tyX6 inGX6 tyX6_ok nmX6 rfl rfl (by decide) fl_X6_12 rfl rfl rfl rfl (Nat.le_of_ble_eq_true rfl) rfl dX6_init_12 (fun H locs hW => ?_)
  replace hW : s_W _ _ D ([(h, .inr (8, [.ref q0, .null, .null, .null, .null, .null, .null, .null, .int 0, .int 0, .int 0]))] ++ w_air y q0 u0) H locs := hW
  refine lv_aload_n hx hcd dX6_init_15 rfl (lv_at hl 0 rfl) ?_
  refine s_new (fs := [.int 0, .int 0, .int 0, .int 0, .int 0, .null, .null, .null, .null, .null, .null, .null, .null, .null, .null, .null]) (ci := 2) hC hW tyX0 inGX0 tyX0_ok cl_X6_9 it_X0 ii_X0 rfl (fun j hj => by rcases (show j = 0 ∨ j = 1 ∨ j = 2 ∨ j = 3 ∨ j = 4 ∨ j = 5 ∨ j = 6 ∨ j = 7 ∨ j = 8 ∨ j = 9 ∨ j = 10 ∨ j = 11 ∨ j = 12 ∨ j = 13 ∨ j = 14 ∨ j = 15 by omega) with rfl | rfl | rfl | rfl | rfl | rfl | rfl | rfl | rfl | rfl | rfl | rfl | rfl | rfl | rfl | rfl <;> rfl) ⟨Nat.le_of_ble_eq_true rfl, Nat.le_of_ble_eq_true rfl⟩ dX6_init_16 (fun q1 H hW => ?_)
  refine lv_dup hx hcd dX6_init_19 rfl ?_
  refine s_callI (ws := _) (rest := [.ref q1, .ref h]) hC hO hW (c_X0_init l D y q1 _) okI_X6_11 ⟨rfl, rfl, Nat.le_of_ble_eq_true rfl, Nat.le_of_ble_eq_true rfl⟩ hl.1 (Nat.le_of_ble_eq_true rfl) dX6_init_20 ⟨Nat.le_of_ble_eq_true rfl, Nat.le_of_ble_eq_true rfl⟩ (fun u1 H locs hW => ?_)
  refine s_putF (q0 := 0) (T := TX6) (N := 11) (ci := 8) (k := 1) hC hnm hW tyX6 inGX6 tyX6_ok nmX6 rfl rfl (by decide) fl_X6_16 rfl rfl rfl rfl (Nat.le_of_ble_eq_true rfl) rfl dX6_init_23 (fun H locs hW => ?_)
  replace hW : s_W _ _ D ([(h, .inr (8, [.ref q0, .ref q1, .null, .null, .null, .null, .null, .null, .int 0, .int 0, .int 0]))] ++ w_air y q0 u0 ++ w_air y q1 u1) H locs := hW
  refine lv_aload_n hx hcd dX6_init_26 rfl (lv_at hl 0 rfl) ?_
  refine s_new (fs := [.int 0, .int 0, .int 0, .int 0, .int 0, .null, .null, .null, .null, .null, .null, .null, .null, .null, .null, .null]) (ci := 2) hC hW tyX0 inGX0 tyX0_ok cl_X6_9 it_X0 ii_X0 rfl (fun j hj => by rcases (show j = 0 ∨ j = 1 ∨ j = 2 ∨ j = 3 ∨ j = 4 ∨ j = 5 ∨ j = 6 ∨ j = 7 ∨ j = 8 ∨ j = 9 ∨ j = 10 ∨ j = 11 ∨ j = 12 ∨ j = 13 ∨ j = 14 ∨ j = 15 by omega) with rfl | rfl | rfl | rfl | rfl | rfl | rfl | rfl | rfl | rfl | rfl | rfl | rfl | rfl | rfl | rfl <;> rfl) ⟨Nat.le_of_ble_eq_true rfl, Nat.le_of_ble_eq_true rfl⟩ dX6_init_27 (fun q2 H hW => ?_)
  refine lv_dup hx hcd dX6_init_30 rfl ?_
  refine s_callI (ws := _) (rest := [.ref q2, .ref h]) hC hO hW (c_X0_init l D y q2 _) okI_X6_11 ⟨rfl, rfl, Nat.le_of_ble_eq_true rfl, Nat.le_of_ble_eq_true rfl⟩ hl.1 (Nat.le_of_ble_eq_true rfl) dX6_init_31 ⟨Nat.le_of_ble_eq_true rfl, Nat.le_of_ble_eq_true rfl⟩ (fun u2 H locs hW => ?_)
  refine s_putF (q0 := 0) (T := TX6) (N := 11) (ci := 8) (k := 2) hC hnm hW tyX6 inGX6 tyX6_ok nmX6 rfl rfl (by decide) fl_X6_19 rfl rfl rfl rfl (Nat.le_of_ble_eq_true rfl) rfl dX6_init_34 (fun H locs hW => ?_)
  replace hW : s_W _ _ D ([(h, .inr (8, [.ref q0, .ref q1, .ref q2, .null, .null, .null, .null, .null, .int 0, .int 0, .int 0]))] ++ w_air y q0 u0 ++ w_air y q1 u1 ++ w_air y q2 u2) H locs := hW
  refine lv_aload_n hx hcd dX6_init_37 rfl (lv_at hl 0 rfl) ?_
  refine s_new (fs := [.null, .int 0, .int 0]) (ci := 6) hC hW tyX4 inGX4 tyX4_ok cl_X6_22 it_X4 ii_X4 rfl (fun j hj => by rcases (show j = 0 ∨ j = 1 ∨ j = 2 by omega) with rfl | rfl | rfl <;> rfl) ⟨Nat.le_of_ble_eq_true rfl, Nat.le_of_ble_eq_true rfl⟩ dX6_init_38 (fun q3 H hW => ?_)
  refine lv_dup hx hcd dX6_init_41 rfl ?_
  refine s_callI (ws := _) (rest := [.ref q3, .ref h]) hC hO hW (c_X4_init l D y q3 _) okI_X6_24 ⟨rfl, rfl, Nat.le_of_ble_eq_true rfl, Nat.le_of_ble_eq_true rfl⟩ hl.1 (Nat.le_of_ble_eq_true rfl) dX6_init_42 ⟨Nat.le_of_ble_eq_true rfl, Nat.le_of_ble_eq_true rfl⟩ (fun u3 H locs hW => ?_)
  refine s_putF (q0 := 0) (T := TX6) (N := 11) (ci := 8) (k := 3) hC hnm hW tyX6 inGX6 tyX6_ok nmX6 rfl rfl (by decide) fl_X6_25 rfl rfl rfl rfl (Nat.le_of_ble_eq_true rfl) rfl dX6_init_45 (fun H locs hW => ?_)
  replace hW : s_W _ _ D ([(h, .inr (8, [.ref q0, .ref q1, .ref q2, .ref q3, .null, .null, .null, .null, .int 0, .int 0, .int 0]))] ++ w_air y q0 u0 ++ w_air y q1 u1 ++ w_air y q2 u2 ++ w_his y q3 u3.1 u3.2) H locs := hW
  refine lv_aload_n hx hcd dX6_init_48 rfl (lv_at hl 0 rfl) ?_
  refine s_new (fs := [.null, .null, .int 0, .int 0, .int 0, .int 0]) (ci := 7) hC hW tyX5 inGX5 tyX5_ok cl_X6_29 it_X5 ii_X5 rfl (fun j hj => by rcases (show j = 0 ∨ j = 1 ∨ j = 2 ∨ j = 3 ∨ j = 4 ∨ j = 5 by omega) with rfl | rfl | rfl | rfl | rfl | rfl <;> rfl) ⟨Nat.le_of_ble_eq_true rfl, Nat.le_of_ble_eq_true rfl⟩ dX6_init_49 (fun q4 H hW => ?_)
  refine lv_dup hx hcd dX6_init_52 rfl ?_
  refine s_callI (ws := _) (rest := [.ref q4, .ref h]) hC hO hW (c_X5_init l D y q4 _) okI_X6_31 ⟨rfl, rfl, Nat.le_of_ble_eq_true rfl, Nat.le_of_ble_eq_true rfl⟩ hl.1 (Nat.le_of_ble_eq_true rfl) dX6_init_53 ⟨Nat.le_of_ble_eq_true rfl, Nat.le_of_ble_eq_true rfl⟩ (fun u4 H locs hW => ?_)
  refine s_putF (q0 := 0) (T := TX6) (N := 11) (ci := 8) (k := 4) hC hnm hW tyX6 inGX6 tyX6_ok nmX6 rfl rfl (by decide) fl_X6_32 rfl rfl rfl rfl (Nat.le_of_ble_eq_true rfl) rfl dX6_init_56 (fun H locs hW => ?_)
  replace hW : s_W _ _ D ([(h, .inr (8, [.ref q0, .ref q1, .ref q2, .ref q3, .ref q4, .null, .null, .null, .int 0, .int 0, .int 0]))] ++ w_air y q0 u0 ++ w_air y q1 u1 ++ w_air y q2 u2 ++ w_his y q3 u3.1 u3.2 ++ w_txt y q4 u4) H locs := hW
  refine lv_aload_n hx hcd dX6_init_59 rfl (lv_at hl 0 rfl) ?_
  refine s_new (fs := [.null, .null, .null, .null, .int 0]) (ci := 5) hC hW tyX3 inGX3 tyX3_ok cl_X6_36 it_X3 ii_X3 rfl (fun j hj => by rcases (show j = 0 ∨ j = 1 ∨ j = 2 ∨ j = 3 ∨ j = 4 by omega) with rfl | rfl | rfl | rfl | rfl <;> rfl) ⟨Nat.le_of_ble_eq_true rfl, Nat.le_of_ble_eq_true rfl⟩ dX6_init_60 (fun q5 H hW => ?_)
  refine lv_dup hx hcd dX6_init_63 rfl ?_
  refine s_callI (ws := _) (rest := [.ref q5, .ref h]) hC hO hW (c_X3_init l D y q5 _) okI_X6_38 ⟨rfl, rfl, Nat.le_of_ble_eq_true rfl, Nat.le_of_ble_eq_true rfl⟩ hl.1 (Nat.le_of_ble_eq_true rfl) dX6_init_64 ⟨Nat.le_of_ble_eq_true rfl, Nat.le_of_ble_eq_true rfl⟩ (fun u5 H locs hW => ?_)
  refine s_putF (q0 := 0) (T := TX6) (N := 11) (ci := 8) (k := 5) hC hnm hW tyX6 inGX6 tyX6_ok nmX6 rfl rfl (by decide) fl_X6_39 rfl rfl rfl rfl (Nat.le_of_ble_eq_true rfl) rfl dX6_init_67 (fun H locs hW => ?_)
  replace hW : s_W _ _ D ([(h, .inr (8, [.ref q0, .ref q1, .ref q2, .ref q3, .ref q4, .ref q5, .null, .null, .int 0, .int 0, .int 0]))] ++ w_air y q0 u0 ++ w_air y q1 u1 ++ w_air y q2 u2 ++ w_his y q3 u3.1 u3.2 ++ w_txt y q4 u4 ++ w_fst y q5 u5) H locs := hW
  refine lv_aload_n hx hcd dX6_init_70 rfl (lv_at hl 0 rfl) ?_
  refine s_new (fs := [.null, .null, .null, .int 0]) (ci := 4) hC hW tyX2 inGX2 tyX2_ok cl_X6_43 it_X2 ii_X2 rfl (fun j hj => by rcases (show j = 0 ∨ j = 1 ∨ j = 2 ∨ j = 3 by omega) with rfl | rfl | rfl | rfl <;> rfl) ⟨Nat.le_of_ble_eq_true rfl, Nat.le_of_ble_eq_true rfl⟩ dX6_init_71 (fun q6 H hW => ?_)
  refine lv_dup hx hcd dX6_init_74 rfl ?_
  refine s_callI (ws := _) (rest := [.ref q6, .ref h]) hC hO hW (c_X2_init l D y q6 _) okI_X6_45 ⟨rfl, rfl, Nat.le_of_ble_eq_true rfl, Nat.le_of_ble_eq_true rfl⟩ hl.1 (Nat.le_of_ble_eq_true rfl) dX6_init_75 ⟨Nat.le_of_ble_eq_true rfl, Nat.le_of_ble_eq_true rfl⟩ (fun u6 H locs hW => ?_)
  refine s_putF (q0 := 0) (T := TX6) (N := 11) (ci := 8) (k := 6) hC hnm hW tyX6 inGX6 tyX6_ok nmX6 rfl rfl (by decide) fl_X6_46 rfl rfl rfl rfl (Nat.le_of_ble_eq_true rfl) rfl dX6_init_78 (fun H locs hW => ?_)
  replace hW : s_W _ _ D ([(h, .inr (8, [.ref q0, .ref q1, .ref q2, .ref q3, .ref q4, .ref q5, .ref q6, .null, .int 0, .int 0, .int 0]))] ++ w_air y q0 u0 ++ w_air y q1 u1 ++ w_air y q2 u2 ++ w_his y q3 u3.1 u3.2 ++ w_txt y q4 u4 ++ w_fst y q5 u5 ++ w_evr y q6 u6) H locs := hW
  refine lv_aload_n hx hcd dX6_init_81 rfl (lv_at hl 0 rfl) ?_
  refine lv_sipush (v := 1441) hx hcd dX6_init_82 (by decide) ?_
  refine s_newi (N := 1441) hC hW (by decide) (by decide) (Nat.le_of_ble_eq_true rfl) ac_int ⟨Nat.le_of_ble_eq_true rfl, Nat.le_of_ble_eq_true rfl⟩ dX6_init_85 (fun q7 H hW => ?_)
  refine s_putF (q0 := 0) (T := TX6) (N := 11) (ci := 8) (k := 7) hC hnm hW tyX6 inGX6 tyX6_ok nmX6 rfl rfl (by decide) fl_X6_50 rfl rfl rfl rfl (Nat.le_of_ble_eq_true rfl) rfl dX6_init_87 (fun H locs hW => ?_)
  replace hW : s_W _ _ D ([(h, .inr (8, [.ref q0, .ref q1, .ref q2, .ref q3, .ref q4, .ref q5, .ref q6, .ref q7, .int 0, .int 0, .int 0]))] ++ w_air y q0 u0 ++ w_air y q1 u1 ++ w_air y q2 u2 ++ w_his y q3 u3.1 u3.2 ++ w_txt y q4 u4 ++ w_fst y q5 u5 ++ w_evr y q6 u6 ++ [(q7, .inl (y.1, 1441, .inl fun _ => 0))]) H locs := hW
  refine lv_aload_n hx hcd dX6_init_90 rfl (lv_at hl 0 rfl) ?_
  refine lv_iconst (v := 0) hx hcd dX6_init_91 (by decide) ?_
  refine s_put (q0 := 0) (T := TX6) (N := 11) (ci := 8) (k := 8) hC hW tyX6 inGX6 tyX6_ok nmX6 rfl rfl (by decide) fl_X6_54 rfl rfl rfl (Nat.le_of_ble_eq_true rfl) rfl dX6_init_92 (fun H locs hW => ?_)
  replace hW : s_W _ _ D ([(h, .inr (8, [.ref q0, .ref q1, .ref q2, .ref q3, .ref q4, .ref q5, .ref q6, .ref q7, .int 0, .int 0, .int 0]))] ++ w_air y q0 u0 ++ w_air y q1 u1 ++ w_air y q2 u2 ++ w_his y q3 u3.1 u3.2 ++ w_txt y q4 u4 ++ w_fst y q5 u5 ++ w_evr y q6 u6 ++ [(q7, .inl (y.1, 1441, .inl fun _ => 0))]) H locs := hW
  refine lv_aload_n hx hcd dX6_init_95 rfl (lv_at hl 0 rfl) ?_
  refine lv_iconst (v := 0) hx hcd dX6_init_96 (by decide) ?_
  refine s_put (q0 := 0) (T := TX6) (N := 11) (ci := 8) (k := 9) hC hW tyX6 inGX6 tyX6_ok nmX6 rfl rfl (by decide) fl_X6_58 rfl rfl rfl (Nat.le_of_ble_eq_true rfl) rfl dX6_init_97 (fun H locs hW => ?_)
  replace hW : s_W _ _ D ([(h, .inr (8, [.ref q0, .ref q1, .ref q2, .ref q3, .ref q4, .ref q5, .ref q6, .ref q7, .int 0, .int 0, .int 0]))] ++ w_air y q0 u0 ++ w_air y q1 u1 ++ w_air y q2 u2 ++ w_his y q3 u3.1 u3.2 ++ w_txt y q4 u4 ++ w_fst y q5 u5 ++ w_evr y q6 u6 ++ [(q7, .inl (y.1, 1441, .inl fun _ => 0))]) H locs := hW
  refine lv_aload_n hx hcd dX6_init_100 rfl (lv_at hl 0 rfl) ?_
  refine lv_iconst (v := (-1)) hx hcd dX6_init_101 (by decide) ?_
  refine s_put (q0 := 0) (T := TX6) (N := 11) (ci := 8) (k := 10) hC hW tyX6 inGX6 tyX6_ok nmX6 rfl rfl (by decide) fl_X6_62 rfl rfl rfl (Nat.le_of_ble_eq_true rfl) rfl dX6_init_102 (fun H locs hW => ?_)
  replace hW : s_W _ _ D ([(h, .inr (8, [.ref q0, .ref q1, .ref q2, .ref q3, .ref q4, .ref q5, .ref q6, .ref q7, .int 0, .int 0, .int (-1)]))] ++ w_air y q0 u0 ++ w_air y q1 u1 ++ w_air y q2 u2 ++ w_his y q3 u3.1 u3.2 ++ w_txt y q4 u4 ++ w_fst y q5 u5 ++ w_evr y q6 u6 ++ [(q7, .inl (y.1, 1441, .inl fun _ => 0))]) H locs := hW
  have hW : s_W _ _ D (w_all y h (fun j => [q0, q1, q2, q3, q4, q5, q6, q7].getD j 0) u0 u1 u2 u3 u4 u5 u6) H locs := hW
  have hW := s_perm (y := y) (ad := w_ad h (fun j => [q0, q1, q2, q3, q4, q5, q6, q7].getD j 0) u0 u1 u2 u3 u4 u5 u6) (σ := g_z0) g_pm (fun k hk => w_all_k k hk) g_pm_inj hW
  exact s_vret ⟨w_ad h (fun j => [q0, q1, q2, q3, q4, q5, q6, q7].getD j 0) u0 u1 u2 u3 u4 u5 u6, rfl⟩ hC hr hlk hsz hW dX6_init_105
