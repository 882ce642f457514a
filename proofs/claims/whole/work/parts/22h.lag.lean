/-! ===== repairs: the least one again ===== -/
def qmn (c : Nat) (o : Bool) (b : Nat) : Nat := if c < b ∧ o = true then c else b
theorem qmn_le {c b : Nat} {o : Bool} (h : b ≤ 4) : qmn c o b ≤ 4 := by
  unfold qmn
  split <;> omega
theorem qmn_1 (c : Nat) (x o : Bool) (b : Nat) : qmn c o (qmn c x b) = qmn c (x || o) b := by
  cases x <;> cases o <;> simp only [qmn, Bool.or_true, Bool.or_false, and_true, and_false, if_false, Bool.false_eq_true]
  by_cases h : c < b
  · rw [if_pos h, if_neg (Nat.lt_irrefl c)]
  · rw [if_neg h, if_neg h]
theorem qmn_2 (c d : Nat) (x y : Bool) (b : Nat) : qmn c x (qmn d y b) = qmn d y (qmn c x b) := by
  cases x <;> cases y <;> simp only [qmn, and_true, and_false, if_false, Bool.false_eq_true]
  by_cases h1 : c < b <;> by_cases h2 : d < b <;> by_cases h3 : c < d <;> by_cases h4 : d < c <;> simp only [h1, h2, h3, h4, if_true, if_false] <;> omega
theorem qfs_is {α : Type} (f : Nat → Option α) (n i : Nat) : (qfs f (n + 1) i).isSome = ((f i).isSome || (qfs f n (i + 1)).isSome) := by
  cases c : f i with
  | some x => rw [qfs_s c]; rfl
  | none => rw [qfs_n c]; rfl
theorem qz_L1 {σ : gS} {i a : Nat} (h0 : σ i 0 = nI a) : qz_L σ i [a] := by
  intro j hj
  have : j = 0 := by simp at hj; exact hj
  subst this; exact h0
theorem qz_L2 {σ : gS} {i a b : Nat} (h0 : σ i 0 = nI a) (h1 : σ i 1 = nI b) : qz_L σ i [a, b] := by
  intro j hj
  have hj : j < 2 := hj
  rcases (show j = 0 ∨ j = 1 by omega) with e | e
  · subst e; exact h0
  · subst e; exact h1
theorem qz_L3 {σ : gS} {i a b c : Nat} (h0 : σ i 0 = nI a) (h1 : σ i 1 = nI b) (h2 : σ i 2 = nI c) : qz_L σ i [a, b, c] := by
  intro j hj
  have hj : j < 3 := hj
  rcases (show j = 0 ∨ j = 1 ∨ j = 2 by omega) with e | e | e
  · subst e; exact h0
  · subst e; exact h1
  · subst e; exact h2
theorem qcnt_lt {p : Nat → Bool} {k : Nat} (hk : k < 20) (h : p k = true) : qcnt k p < qcnt 20 p := by
  have h2 := qcnt_y h
  have : ∀ d, qcnt (k + 1) p ≤ qcnt (k + 1 + d) p := by
    intro d
    induction d with
    | zero => exact Nat.le_refl _
    | succ d ih =>
      rw [← Nat.add_assoc]
      show _ ≤ qcnt (k + 1 + d) p + _
      omega
  have := this (20 - (k + 1))
  rw [show k + 1 + (20 - (k + 1)) = 20 by omega] at this
  omega
/-- what stays on the way -/
def qx_F (σ τ : gS) (b : Nat) : Prop := (∀ a, a ≠ 11 → a ≠ 12 → a ≠ 13 → τ a = σ a) ∧ τ 11 3 = nI b ∧ b ≤ 4
theorem qx_Ft {σ τ : gS} {M : Nat → Int32} (h : qr_R (qr_b σ 24) M) (hT : qx_T σ 19 M) {b : Nat} (hF : qx_F σ τ b) {l : List Nat} (hl3 : l.length ≤ 3) (hio : ∀ k, k ∈ l → k < 20 ∧ qs_io M k = true) (h12 : qz_L τ 12 l) : ∃ τ', X2_trySet τ 24 (nI l.length) = some τ' ∧ qx_F σ τ' (qmn l.length (qlf M l).isSome b) ∧ τ' 12 = τ 12 := by
  obtain ⟨f1, f2, f3⟩ := hF
  obtain ⟨τ', k1, k2, k3⟩ := qx_try (σ := τ) (M := M) (by rw [qr_bc (σ := σ) (fun a p q => f1 a (by omega) (by omega) (by omega))]; exact h) (qz_tt hT (fun a p q => f1 a (by omega) (by omega) (by omega))) hl3 hio h12 f2 f3
  exact ⟨τ', k1, ⟨fun a p q r => by rw [k2 a p r, f1 a p q r], k3, qmn_le f3⟩, k2 12 (by decide) (by decide)⟩
theorem qlg_0 (M : Nat → Int32) (a : Nat) (l : List Nat) : (qlg M 0 a l).isSome = (qlf M l).isSome := by
  show ((qlf M l).map (fun t => (l, t))).isSome = _
  cases qlf M l <;> rfl
theorem qx_up {σ τ : gS} {b : Nat} (hF : qx_F σ τ b) (j : Nat) (v : Int32) : qx_F σ (g_up τ 12 j v) b := ⟨fun a p q r => by rw [qu_a _ _ q, hF.1 a p q r], by rw [qu_a _ _ (by decide)]; exact hF.2.1, hF.2.2⟩
theorem qx_l2 {σ : gS} {M : Nat → Int32} (h : qr_R (qr_b σ 24) M) (hT : qx_T σ 19 M) (x2 x3 : Int32) {k1 k2 : Nat} (h1 : k1 < 20 ∧ qs_io M k1 = true) (h2 : k2 < 20 ∧ qs_io M k2 = true) : ∀ n k (τ : gS) (b : Nat), k + n = 20 → qx_F σ τ b → τ 12 0 = nI k1 → τ 12 1 = nI k2 →
    ∃ τ', gr (X2_least_s 24) (2, x2, x3, nI (qcnt k (qs_io M)), τ) = gr (X2_least_s 24) (1, x2, x3 + 1, 0, τ') ∧ qx_F σ τ' (qmn 3 (qfs (fun k => if qs_io M k = true then qlg M 0 (k + 1) ([k1, k2] ++ [k]) else none) n k).isSome b) ∧ τ' 12 0 = nI k1 := by
  intro n
  induction n with
  | zero =>
    intro k τ b hk hF a0 a1
    refine ⟨τ, ?_, ?_, a0⟩
    · rw [show k = 20 by omega, gr_eq]
      show (X2_least_k2 τ 24 x2 x3 (nI (qcnt 20 (qs_io M)))).bind _ = _
      unfold X2_least_k2
      rw [hF.1 19 (by decide) (by decide) (by decide), hT.2.2.1, if_pos (qk_end (by have := qcnt_le 20 (qs_io M); omega)), qs]
    · have e : qmn 3 (qfs (fun k => if qs_io M k = true then qlg M 0 (k + 1) ([k1, k2] ++ [k]) else none) 0 k).isSome b = b := if_neg (fun q => by cases q.2)
      rw [e]; exact hF
  | succ n ih =>
    intro k τ b hk hF a0 a1
    have k20 : k < 20 := by omega
    rw [qfs_is, ← qmn_1]
    cases cio : qs_io M k with
    | false =>
      have e : qmn 3 ((if (false = true) then qlg M 0 (k + 1) ([k1, k2] ++ [k]) else none : Option (List Nat × List Nat))).isSome b = b := if_neg (fun q => by cases q.2)
      rw [e]
      have := ih (k + 1) τ b (by omega) hF a0 a1
      rw [qcnt_n cio] at this
      exact this
    | true =>
      obtain ⟨m1, -, -, -⟩ := hT.2.2.2 k k20 cio
      have hlt := qcnt_lt k20 cio
      have hle := qcnt_le 20 (qs_io M)
      rw [if_pos rfl, qlg_0]
      obtain ⟨τ1, t1, t2, t3⟩ := qx_Ft (l := [k1, k2, k]) h hT (qx_up hF 2 (nI k)) (Nat.le_of_ble_eq_true rfl) (by
        intro q hq
        simp at hq
        rcases hq with rfl | rfl | rfl
        · exact h1
        · exact h2
        · exact ⟨k20, cio⟩) (qz_L3 (by rw [qu_j _ _ (by decide)]; exact a0) (by rw [qu_j _ _ (by decide)]; exact a1) (qu_at _ _ _ _))
      have t1 : X2_trySet (g_up τ 12 2 (nI k)) 24 3 = some τ1 := t1
      have t2 : qx_F σ τ1 (qmn 3 (qlf M ([k1, k2] ++ [k])).isSome b) := t2
      have := ih (k + 1) τ1 _ (by omega) t2 (by rw [t3, qu_j _ _ (by decide)]; exact a0) (by rw [t3, qu_j _ _ (by decide)]; exact a1)
      rw [qcnt_y cio] at this
      rw [gr_eq]
      show ∃ τ', (X2_least_k2 τ 24 x2 x3 (nI (qcnt k (qs_io M)))).bind _ = _ ∧ _
      unfold X2_least_k2
      rw [hF.1 19 (by decide) (by decide) (by decide), hT.2.2.1, if_neg (qk_ge hlt (by omega)), qg_i (show qcnt k (qs_io M) < 20 by omega) (by decide), qk_c (by omega), qk_z2, hF.1 (19 + 4) (by decide) (by decide) (by decide), m1, ql, t1, qs, qs, qk_s]
      exact this
theorem qx_l1 {σ : gS} {M : Nat → Int32} (h : qr_R (qr_b σ 24) M) (hT : qx_T σ 19 M) (x2 : Int32) {k1 : Nat} (h1 : k1 < 20 ∧ qs_io M k1 = true) : ∀ n k (τ : gS) (b : Nat), k + n = 20 → qx_F σ τ b → τ 12 0 = nI k1 →
    ∃ τ', gr (X2_least_s 24) (1, x2, nI (qcnt k (qs_io M)), 0, τ) = gr (X2_least_s 24) (0, x2 + 1, 0, 0, τ') ∧ qx_F σ τ' (qmn 2 (qfs (fun k => if qs_io M k = true then qlg M 0 (k + 1) ([k1] ++ [k]) else none) n k).isSome (qmn 3 (qfs (fun k => if qs_io M k = true then qlg M 1 (k + 1) ([k1] ++ [k]) else none) n k).isSome b)) := by
  intro n
  induction n with
  | zero =>
    intro k τ b hk hF a0
    refine ⟨τ, ?_, ?_⟩
    · rw [show k = 20 by omega, gr_eq]
      show (X2_least_k1 τ 24 x2 (nI (qcnt 20 (qs_io M)))).bind _ = _
      unfold X2_least_k1
      rw [hF.1 19 (by decide) (by decide) (by decide), hT.2.2.1, if_pos (qk_end (by have := qcnt_le 20 (qs_io M); omega)), qs]
    · have e : ∀ (c b : Nat) (f : Nat → Option (List Nat × List Nat)), qmn c (qfs f 0 k).isSome b = b := fun c b f => if_neg (fun q => by cases q.2)
      rw [e, e]; exact hF
  | succ n ih =>
    intro k τ b hk hF a0
    have k20 : k < 20 := by omega
    rw [qfs_is, qfs_is, ← qmn_1, ← qmn_1]
    cases cio : qs_io M k with
    | false =>
      have e : ∀ (c b : Nat) (o : Option (List Nat × List Nat)), qmn c ((if (false = true) then o else none : Option (List Nat × List Nat))).isSome b = b := fun c b o => if_neg (fun q => by cases q.2)
      rw [e, e]
      have := ih (k + 1) τ b (by omega) hF a0
      rw [qcnt_n cio] at this
      exact this
    | true =>
      obtain ⟨m1, -, -, -⟩ := hT.2.2.2 k k20 cio
      have hlt := qcnt_lt k20 cio
      have hle := qcnt_le 20 (qs_io M)
      rw [if_pos rfl, if_pos rfl, qlg_0]
      obtain ⟨τ1, t1, t2, t3⟩ := qx_Ft (l := [k1, k]) h hT (qx_up hF 1 (nI k)) (Nat.le_of_ble_eq_true rfl) (by
        intro q hq
        simp at hq
        rcases hq with rfl | rfl
        · exact h1
        · exact ⟨k20, cio⟩) (qz_L2 (by rw [qu_j _ _ (by decide)]; exact a0) (qu_at _ _ _ _))
      have t1 : X2_trySet (g_up τ 12 1 (nI k)) 24 2 = some τ1 := t1
      have t2 : qx_F σ τ1 (qmn 2 (qlf M ([k1] ++ [k])).isSome b) := t2
      obtain ⟨τ2, s1, s2, s3⟩ := qx_l2 h hT x2 (nI (qcnt k (qs_io M))) h1 ⟨k20, cio⟩ (20 - (k + 1)) (k + 1) τ1 _ (by omega) t2 (by rw [t3, qu_j _ _ (by decide)]; exact a0) (by rw [t3, qu_at])
      rw [qcnt_y cio] at s1
      have e1 : (qfs (fun q => if qs_io M q = true then qlg M 0 (q + 1) ([k1, k] ++ [q]) else none) (20 - (k + 1)) (k + 1)) = qlg M 1 (k + 1) ([k1] ++ [k]) := rfl
      rw [e1] at s2
      obtain ⟨τ3, u1, u2⟩ := ih (k + 1) τ2 _ (by omega) s2 s3
      rw [qcnt_y cio] at u1
      refine ⟨τ3, ?_, ?_⟩
      · rw [gr_eq]
        show (X2_least_k1 τ 24 x2 (nI (qcnt k (qs_io M)))).bind _ = _
        unfold X2_least_k1
        rw [hF.1 19 (by decide) (by decide) (by decide), hT.2.2.1, if_neg (qk_ge hlt (by omega)), qg_i (show qcnt k (qs_io M) < 20 by omega) (by decide), qk_c (by omega), qk_z1, hF.1 (19 + 4) (by decide) (by decide) (by decide), m1, ql, t1, qs, qs, qk_s]
        show gr (X2_least_s 24) (2, x2, nI (qcnt k (qs_io M)), nI (qcnt k (qs_io M) + 1), τ1) = _
        rw [s1, qk_s]
        exact u1
      · rw [qmn_2 3 2 (qlg M 1 (k + 1) ([k1] ++ [k])).isSome (qlf M ([k1] ++ [k])).isSome] at u2
        rw [qmn_2 3 2 _ (qlf M ([k1] ++ [k])).isSome] at u2
        exact u2
theorem qx_l0 {σ : gS} {M : Nat → Int32} (h : qr_R (qr_b σ 24) M) (hT : qx_T σ 19 M) : ∀ n k (τ : gS) (b : Nat), k + n = 20 → qx_F σ τ b →
    ∃ τ' b', gr (X2_least_s 24) (0, nI (qcnt k (qs_io M)), 0, 0, τ) = some (nI b', τ') ∧ qx_F σ τ' b' ∧ b' = qmn 1 (qfs (fun k => if qs_io M k = true then qlg M 0 (k + 1) ([] ++ [k]) else none) n k).isSome (qmn 2 (qfs (fun k => if qs_io M k = true then qlg M 1 (k + 1) ([] ++ [k]) else none) n k).isSome (qmn 3 (qfs (fun k => if qs_io M k = true then qlg M 2 (k + 1) ([] ++ [k]) else none) n k).isSome b)) := by
  intro n
  induction n with
  | zero =>
    intro k τ b hk hF
    refine ⟨τ, b, ?_, hF, ?_⟩
    · rw [show k = 20 by omega, gr_eq]
      show (X2_least_k0 τ 24 (nI (qcnt 20 (qs_io M)))).bind _ = _
      unfold X2_least_k0
      rw [hF.1 19 (by decide) (by decide) (by decide), hT.2.2.1, if_pos (qk_end (by have := qcnt_le 20 (qs_io M); omega)), qs, hF.2.1]
    · have e : ∀ (c b : Nat) (f : Nat → Option (List Nat × List Nat)), qmn c (qfs f 0 k).isSome b = b := fun c b f => if_neg (fun q => by cases q.2)
      rw [e, e, e]
  | succ n ih =>
    intro k τ b hk hF
    have k20 : k < 20 := by omega
    rw [qfs_is, qfs_is, qfs_is, ← qmn_1, ← qmn_1, ← qmn_1]
    cases cio : qs_io M k with
    | false =>
      have e : ∀ (c b : Nat) (o : Option (List Nat × List Nat)), qmn c ((if (false = true) then o else none : Option (List Nat × List Nat))).isSome b = b := fun c b o => if_neg (fun q => by cases q.2)
      rw [e, e, e]
      have := ih (k + 1) τ b (by omega) hF
      rw [qcnt_n cio] at this
      exact this
    | true =>
      obtain ⟨m1, -, -, -⟩ := hT.2.2.2 k k20 cio
      have hlt := qcnt_lt k20 cio
      have hle := qcnt_le 20 (qs_io M)
      rw [if_pos rfl, if_pos rfl, if_pos rfl, qlg_0]
      obtain ⟨τ1, t1, t2, t3⟩ := qx_Ft (l := [k]) h hT (qx_up hF 0 (nI k)) (Nat.le_of_ble_eq_true rfl) (by
        intro q hq
        simp at hq
        subst hq
        exact ⟨k20, cio⟩) (qz_L1 (qu_at _ _ _ _))
      have t1 : X2_trySet (g_up τ 12 0 (nI k)) 24 1 = some τ1 := t1
      have t2 : qx_F σ τ1 (qmn 1 (qlf M ([] ++ [k])).isSome b) := t2
      obtain ⟨τ2, s1, s2⟩ := qx_l1 h hT (nI (qcnt k (qs_io M))) ⟨k20, cio⟩ (20 - (k + 1)) (k + 1) τ1 _ (by omega) t2 (by rw [t3, qu_at])
      rw [qcnt_y cio] at s1
      have e1 : (qfs (fun q => if qs_io M q = true then qlg M 0 (q + 1) ([k] ++ [q]) else none) (20 - (k + 1)) (k + 1)) = qlg M 1 (k + 1) ([] ++ [k]) := rfl
      have e2 : (qfs (fun q => if qs_io M q = true then qlg M 1 (q + 1) ([k] ++ [q]) else none) (20 - (k + 1)) (k + 1)) = qlg M 2 (k + 1) ([] ++ [k]) := rfl
      rw [e1, e2] at s2
      obtain ⟨τ3, b3, u1, u2, u3⟩ := ih (k + 1) τ2 _ (by omega) s2
      rw [qcnt_y cio] at u1
      refine ⟨τ3, b3, ?_, u2, ?_⟩
      · rw [gr_eq]
        show (X2_least_k0 τ 24 (nI (qcnt k (qs_io M)))).bind _ = _
        unfold X2_least_k0
        rw [hF.1 19 (by decide) (by decide) (by decide), hT.2.2.1, if_neg (qk_ge hlt (by omega)), qg_i (show qcnt k (qs_io M) < 20 by omega) (by decide), qk_c (by omega), qk_z0, hF.1 (19 + 4) (by decide) (by decide) (by decide), m1, ql, t1, qs, qs, qk_s]
        show gr (X2_least_s 24) (1, nI (qcnt k (qs_io M)), nI (qcnt k (qs_io M) + 1), 0, τ1) = _
        rw [s1, qk_s]
        exact u1
      · rw [u3, qmn_2 3 1 (qlg M 2 (k + 1) ([] ++ [k])).isSome, qmn_2 2 1 (qlg M 1 (k + 1) ([] ++ [k])).isSome, qmn_2 3 1 _ (qlf M ([] ++ [k])).isSome, qmn_2 3 2 _ (qlg M 1 (k + 1) ([] ++ [k])).isSome, qmn_2 2 1 _ (qlf M ([] ++ [k])).isSome]
theorem qx_least {σ : gS} {M : Nat → Int32} (h : qr_R (qr_b σ 24) M) : ∃ σ' b, X2_least σ 24 = some (nI b, σ') ∧ (∀ a, (a < 11 ∨ (13 < a ∧ a < 19) ∨ 24 ≤ a) → σ' a = σ a) ∧ (qrp M = none → b = 4) ∧ ∀ L T, qrp M = some (L, T) → b = L.length := by
  obtain ⟨σ1, t1, t2, t3⟩ := qx_look (c := 19) g_cla19 h
  have hR : qr_R (qr_b σ1 24) M := by rw [qr_bc (σ := σ) (fun a p q => t2 a (by omega))]; exact h
  unfold X2_least
  rw [t1, qs, ql]
  have hF : qx_F σ1 (g_up σ1 11 3 4) 4 := ⟨fun a p q r => qu_a _ _ p, by rw [qu_at]; rfl, Nat.le_refl 4⟩
  obtain ⟨τ0, s1, s2, s3⟩ := qx_Ft (l := []) hR t3 hF (by decide) (fun k hk => by cases hk) (fun j hj => by simp at hj)
  have s1 : X2_trySet (g_up σ1 11 3 4) 24 0 = some τ0 := s1
  rw [s1, qs]
  obtain ⟨τ1, b, u1, u2, u3⟩ := qx_l0 hR t3 20 0 τ0 _ (by omega) s2
  have u1 : gr (X2_least_s 24) (0, 0, 0, 0, τ0) = some (nI b, τ1) := u1
  have e1 : (qfs (fun q => if qs_io M q = true then qlg M 0 (q + 1) ([] ++ [q]) else none) 20 0) = qlg M 1 0 [] := rfl
  have e2 : (qfs (fun q => if qs_io M q = true then qlg M 1 (q + 1) ([] ++ [q]) else none) 20 0) = qlg M 2 0 [] := rfl
  have e3 : (qfs (fun q => if qs_io M q = true then qlg M 2 (q + 1) ([] ++ [q]) else none) 20 0) = qlg M 3 0 [] := rfl
  rw [e1, e2, e3] at u3
  have e0 : (qlf M []).isSome = (qlg M 0 0 []).isSome := (qlg_0 M 0 []).symm
  have u3 : b = qmn 1 (qlg M 1 0 []).isSome (qmn 2 (qlg M 2 0 []).isSome (qmn 3 (qlg M 3 0 []).isSome (qmn 0 (qlf M []).isSome 4))) := u3
  rw [e0] at u3
  refine ⟨τ1, b, u1, fun a p => by rw [u2.1 a (by omega) (by omega) (by omega), t2 a (by omega)], ?_, ?_⟩
  · intro hn
    unfold qrp at hn
    have g : ∀ c, c < 4 → qlg M c 0 [] = none := by
      intro c hc
      cases e : qlg M c 0 [] with
      | none => rfl
      | some x =>
        obtain ⟨y, hy⟩ := qfs_ex (f := fun c => qlg M c 0 []) (n := 4) (i := 0) (k := c) (x := x) (Nat.zero_le _) (by omega) e
        rw [hn] at hy; cases hy
    rw [u3, g 0 (by decide), g 1 (by decide), g 2 (by decide), g 3 (by decide)]
    rfl
  · intro L T hs
    have hs2 := hs
    unfold qrp at hs
    have len : ∀ c, qlg M c 0 [] = some (L, T) → L.length = c := fun c e => by
      have := (qlg_k c 0 [] L T (qz_asc0 _) e).1
      simp at this; exact this
    cases g0 : qlg M 0 0 [] with
    | some x =>
      rw [qfs_s (n := 3) g0] at hs
      cases hs
      rw [len 0 g0, u3, g0]
      cases (qlg M 1 0 []).isSome <;> cases (qlg M 2 0 []).isSome <;> cases (qlg M 3 0 []).isSome <;> rfl
    | none =>
      rw [qfs_n (n := 3) g0] at hs
      cases g1 : qlg M 1 0 [] with
      | some x =>
        rw [qfs_s (n := 2) (i := 0 + 1) g1] at hs
        cases hs
        rw [len 1 g1, u3, g0, g1]
        cases (qlg M 2 0 []).isSome <;> cases (qlg M 3 0 []).isSome <;> rfl
      | none =>
        rw [qfs_n (n := 2) (i := 0 + 1) g1] at hs
        cases g2 : qlg M 2 0 [] with
        | some x =>
          rw [qfs_s (n := 1) (i := 0 + 1 + 1) g2] at hs
          cases hs
          rw [len 2 g2, u3, g0, g1, g2]
          cases (qlg M 3 0 []).isSome <;> rfl
        | none =>
          rw [qfs_n (n := 1) (i := 0 + 1 + 1) g2] at hs
          cases g3 : qlg M 3 0 [] with
          | some x =>
            rw [qfs_s (n := 0) (i := 0 + 1 + 1 + 1) g3] at hs
            cases hs
            rw [len 3 g3, u3, g0, g1, g2, g3]
            rfl
          | none =>
            rw [qfs_n (n := 0) (i := 0 + 1 + 1 + 1) g3] at hs
            cases hs
theorem qo_leastAgain : o_leastAgain qi := by
  intro σ hI f
  have hV := qi_V hI
  obtain ⟨σ1, b, a1, a2, a3, a4⟩ := qx_least (qi_R hI)
  have e133 : σ1 133 = σ 133 := a2 133 (by omega)
  obtain ⟨v, σ2, b1, b2, b3, b4, b5⟩ := qd_findRepair (σ := σ1) (by rw [e133]; exact hV)
  rw [e133] at b3 b4 b5
  have hI2 : qi σ2 := qi_c hI (fun a p => by rw [b2 a (by omega) (by omega), a2 a (by omega)]) (fun j _ => by rw [b2 0 (by decide) (by decide), a2 0 (by omega)]) (by rw [b2 4 (by decide) (by decide), a2 4 (by omega)]) (fun j _ => by rw [b2 132 (by decide) (by decide), a2 132 (by omega)])
  cases c : qrp (σ 133) with
  | none =>
    rw [a3 c] at a1
    refine ⟨1, 0, f, σ1, qth σ2 1, qL_leastAgain_1 f (σ1 := σ1) ?_, ?_, qth_8 _ _, fun q => absurd q (by decide), qth_i hI2 1⟩
    · unfold X6_leastAgain
      rw [a1, qs]; rfl
    · unfold X7_leastAgain X7_leastMoves
      rw [b1, qs, b4 c]
      show Option.bind (if (0 : Int32) ≤ -1 then _ else _) _ = _
      rw [if_neg (by decide), qth_e, qth_1]; rfl
  | some x =>
    obtain ⟨L, T⟩ := x
    rw [a4 L T c] at a1
    obtain ⟨hl, -, -, -, -⟩ := qrp_k c
    refine ⟨0, nI L.length, _, σ1, qth σ2 0, qL_leastAgain_r f (σ1 := σ1) (r := nI L.length) ?_, ?_, qth_8 _ _, fun _ => qup0 _ _, qth_i hI2 0⟩
    · unfold X6_leastAgain
      rw [a1, qs]
      show (if nI L.length ≤ 3 then _ else _) = _
      rw [if_pos (show nI L.length ≤ 3 from (show nI L.length ≤ nI 3 from nI_le (by omega) (by decide)))]
    · unfold X7_leastAgain X7_leastMoves
      rw [b1, qs, b5 L T c]
      show Option.bind (if (0 : Int32) ≤ nI L.length then _ else _) _ = _
      rw [if_pos (show (0 : Int32) ≤ nI L.length from (show nI 0 ≤ nI L.length from nI_le (Nat.zero_le _) (by omega))), qth_e, qth_y]; rfl
