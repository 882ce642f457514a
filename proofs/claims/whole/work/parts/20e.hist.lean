/-! ===== saving, undo, the empty airport, the input ===== -/
theorem qy_1 (σ : gS) {b b2 : Nat} (h : b + 12 ≤ b2 ∨ b2 + 12 ≤ b) : qy σ b b2 b 1 = σ b2 1 := qy_e σ h 0 1 (by decide) (by decide)
theorem qo_save : o_save qi := by
  intro σ hI
  have hR := qi_R hI
  have hI0 := hI
  obtain ⟨⟨a1, a1c⟩, a2, a3, a4, a5⟩ := hI
  refine ⟨σ 133 1, g_up (qy σ 48 24) 0 8 1, g_up (g_row (qth (g_up (qy σ 48 24) 0 8 1) 0) 136 (va_cpy ((qth (g_up (qy σ 48 24) 0 8 1) 0) 133) ((qth (g_up (qy σ 48 24) 0 8 1) 0) 136) (0 : Int32).toNatClampNeg (0 : Int32).toNatClampNeg (162 : Int32).toNatClampNeg)) 132 4 1, ?_, ?_, ?_⟩
  · unfold X6_save
    rw [qy_eq, qs, ql, qu_a _ _ (by decide), qy_1 σ (by decide), qr_1 hR, ← qv_t hR.1]
  · unfold X7_save
    rw [qth_e, ql, ql, qk_z1, qu_a _ _ (by decide), qw_a _ _ (by decide), qth_133, qu_a _ _ (by decide), qy_o σ (by decide)]
  · have o : ∀ a, a ≠ 0 → (a < 48 ∨ 60 ≤ a) → a ≠ 132 → a ≠ 136 → g_up (g_row (qth (g_up (qy σ 48 24) 0 8 1) 0) 136 (va_cpy ((qth (g_up (qy σ 48 24) 0 8 1) 0) 133) ((qth (g_up (qy σ 48 24) 0 8 1) 0) 136) (0 : Int32).toNatClampNeg (0 : Int32).toNatClampNeg (162 : Int32).toNatClampNeg)) 132 4 1 a = σ a := by
      intro a p1 p2 p3 p4
      rw [qu_a _ _ p3, qw_a _ _ p4, qth_a _ _ p3, qu_a _ _ p1, qy_o σ (by omega)]
    have o0 : ∀ j, j ≠ 8 → g_up (g_row (qth (g_up (qy σ 48 24) 0 8 1) 0) 136 (va_cpy ((qth (g_up (qy σ 48 24) 0 8 1) 0) 133) ((qth (g_up (qy σ 48 24) 0 8 1) 0) 136) (0 : Int32).toNatClampNeg (0 : Int32).toNatClampNeg (162 : Int32).toNatClampNeg)) 132 4 1 0 j = σ 0 j := by
      intro j p
      rw [qu_a _ _ (by decide), qw_a _ _ (by decide), qth_a _ _ (by decide), qu_j _ _ p, qy_o σ (by decide)]
    have o2 : ∀ j, j ≠ 4 → j ≠ 8 → g_up (g_row (qth (g_up (qy σ 48 24) 0 8 1) 0) 136 (va_cpy ((qth (g_up (qy σ 48 24) 0 8 1) 0) 133) ((qth (g_up (qy σ 48 24) 0 8 1) 0) 136) (0 : Int32).toNatClampNeg (0 : Int32).toNatClampNeg (162 : Int32).toNatClampNeg)) 132 4 1 132 j = σ 132 j := by
      intro j p q
      rw [qu_j _ _ p, qw_a _ _ (by decide), qth_j _ _ q, qu_a _ _ (by decide), qy_o σ (by decide)]
    refine ⟨qi_1c ⟨a1, a1c⟩ (fun a p q => o a (by omega) (by omega) (by omega) (by omega)) (o 133 (by decide) (by decide) (by decide) (by decide)), qi_2c a2 (fun a p q => o a (by omega) (by omega) (by omega) (by omega)) (o 2 (by decide) (by decide) (by decide) (by decide)) (o2 6 (by decide) (by decide)) (o 137 (by decide) (by decide) (by decide) (by decide)), Or.inr ⟨?_, ?_, ?_⟩, qi_4c a4 (o0 9 (by decide)) (o2 7 (by decide) (by decide)) (o0 10 (by decide)) (o2 15 (by decide) (by decide)), qi_5c a5 (by rw [o 4 (by decide) (by decide) (by decide) (by decide)]) (o2 12 (by decide) (by decide)) (o 5 (by decide) (by decide) (by decide) (by decide)) (o 140 (by decide) (by decide) (by decide) (by decide))⟩
    · rw [qu_a _ _ (by decide), qw_a _ _ (by decide), qth_a _ _ (by decide), qu_at]
    · rw [qu_at]
    · rw [qu_a _ _ (by decide), qw_at, qcpy_cut, qth_133, qu_a _ _ (by decide), qy_o σ (by decide), a1c]
      rw [qr_bc (σ := qy σ 48 24) (fun a p q => by rw [qu_a _ _ (by omega), qw_a _ _ (by omega), qth_a _ _ (by omega), qu_a _ _ (by omega)])]
      exact qy_R (by decide) a1
theorem qo_restore : o_restore qi := by
  intro σ hI f
  have hR := qi_R hI
  have hI0 := hI
  obtain ⟨⟨a1, a1c⟩, a2, a3, a4, a5⟩ := hI
  rcases a3 with ⟨s1, s2⟩ | ⟨s1, s2, s3⟩
  · refine ⟨1, 0, f, σ, qth σ 1, qL_restore_1 f ?_, ?_, qth_8 _ _, fun q => absurd q (by decide), qth_i hI0 1⟩
    · unfold X6_restore
      rw [s1, if_pos rfl]
    · unfold X7_restore
      rw [s2, if_pos rfl, qth_e, qth_1]
  · have e2 : (g_up (qy σ 24 48) 2 2 0) 136 = σ 136 := by rw [qu_a _ _ (by decide), qy_o σ (by decide)]
    have e3 : (g_up (qy σ 24 48) 2 2 0) 133 = σ 133 := by rw [qu_a _ _ (by decide), qy_o σ (by decide)]
    refine ⟨0, qcut (σ 136) 1, _, g_up (qy σ 24 48) 2 2 0, g_up (g_row (qth (g_up (qy σ 24 48) 2 2 0) 0) 133 (qcut (σ 136))) 132 6 0, qL_restore_r f (r := σ 48 1) ?_, ?_, ?_, fun _ => ?_, ?_⟩
    · unfold X6_restore X4_forgetAll
      rw [s1, if_neg (by decide), qy_eq, qs, ql, qs, qu_a _ _ (by decide), qy_1 σ (by decide)]
    · unfold X7_restore
      rw [qu_a _ _ (by decide), qy_o σ (by decide), s2, if_neg (by decide), qth_e, qth_y, qth_133, qth_a _ _ (by decide), e2, e3, qcpy_z a1c, ql, ql, qu_a _ _ (by decide), qk_z1, qw_at]
    · rw [qu_j _ _ (by decide), qw_a _ _ (by decide), qth_8]
    · rw [qup0, qr_1 s3, ← qv_t s3.1]
    · have o : ∀ a, a ≠ 2 → (a < 24 ∨ 36 ≤ a) → a ≠ 132 → a ≠ 133 → g_up (g_row (qth (g_up (qy σ 24 48) 2 2 0) 0) 133 (qcut (σ 136))) 132 6 0 a = σ a := by
        intro a p1 p2 p3 p4
        rw [qu_a _ _ p3, qw_a _ _ p4, qth_a _ _ p3, qu_a _ _ p1, qy_o σ (by omega)]
      have o2 : ∀ j, j ≠ 6 → j ≠ 8 → g_up (g_row (qth (g_up (qy σ 24 48) 2 2 0) 0) 133 (qcut (σ 136))) 132 6 0 132 j = σ 132 j := by
        intro j p q
        rw [qu_j _ _ p, qw_a _ _ (by decide), qth_j _ _ q, qu_a _ _ (by decide), qy_o σ (by decide)]
      have e133 : g_up (g_row (qth (g_up (qy σ 24 48) 2 2 0) 0) 133 (qcut (σ 136))) 132 6 0 133 = qcut (σ 136) := by rw [qu_a _ _ (by decide), qw_at]
      obtain ⟨ms, c, ⟨b1, fr, b2, b3, b4, b5⟩, b6⟩ := a2
      refine ⟨⟨?_, ?_⟩, ⟨ms, 0, ⟨by decide, fr, b2, ?_, ?_, fun i hi => by omega⟩, ⟨?_, fun i hi => by omega⟩⟩, Or.inr ⟨?_, ?_, ?_⟩, qi_4c a4 ?_ (o2 7 (by decide) (by decide)) ?_ (o2 15 (by decide) (by decide)), qi_5c a5 ?_ (o2 12 (by decide) (by decide)) (o 5 (by decide) (by decide) (by decide) (by decide)) (o 140 (by decide) (by decide) (by decide) (by decide))⟩
      · rw [e133, qr_bc (σ := qy σ 24 48) (fun a p q => by rw [qu_a _ _ (by omega), qw_a _ _ (by omega), qth_a _ _ (by omega), qu_a _ _ (by omega)])]
        exact qy_R (by decide) s3
      · rw [e133, qcut_cut]
      · rw [qu_a _ _ (by decide), qw_a _ _ (by decide), qth_a _ _ (by decide), qu_j _ _ (by decide), qy_o σ (by decide)]; exact b3
      · rw [qu_a _ _ (by decide), qw_a _ _ (by decide), qth_a _ _ (by decide), qu_at]; rfl
      · rw [qu_at]; rfl
      · rw [o 0 (by decide) (by decide) (by decide) (by decide)]; exact s1
      · rw [o2 4 (by decide) (by decide)]; exact s2
      · rw [o 136 (by decide) (by decide) (by decide) (by decide), qr_bc (σ := σ) (fun a p q => o a (by omega) (by omega) (by omega) (by omega))]; exact s3
      · rw [o 0 (by decide) (by decide) (by decide) (by decide)]
      · rw [o 0 (by decide) (by decide) (by decide) (by decide)]
      · rw [o 4 (by decide) (by decide) (by decide) (by decide)]
theorem qo_undo : o_undo qi := by
  intro σ hI f
  have hR := qi_R hI
  have hI0 := hI
  obtain ⟨⟨a1, a1c⟩, ⟨ms, c, ⟨b1, fr, b2, b3, b4, b5⟩, ⟨b6, b7⟩⟩, a3, a4, a5⟩ := hI
  by_cases hc : c = 0
  · subst hc
    refine ⟨1, 0, f, σ, qth σ 1, qL_undo_1 f ?_, ?_, qth_8 _ _, fun q => absurd q (by decide), qth_i hI0 1⟩
    · unfold X6_undo
      rw [b4, if_pos nI_0]
    · unfold X7_undo
      rw [b6, if_pos nI_0, qth_e, qth_1]
  · obtain ⟨d, rfl⟩ : ∃ d, c = d + 1 := ⟨c - 1, by omega⟩
    have hm : (fr + d) % 6 < 6 := Nat.mod_lt _ (by decide)
    have e162 : (162 : Int32).toNatClampNeg = 162 := rfl
    have em : va_cpy (σ 137) (σ 133) (162 * d) 0 162 = ms d := by
      rw [← b7 d (by omega)]
      funext j
      unfold va_cpy qcut
      by_cases h : j < 162
      · rw [if_pos ⟨Nat.zero_le _, by omega⟩, if_pos h]
        rfl
      · rw [if_neg (fun q => h (by omega)), if_neg h, ← a1c]
        exact if_neg h
    refine ⟨0, nI d, _, qy (g_up σ 2 2 (nI d)) 24 (60 + 12 * ((fr + d) % 6)), g_row (g_up (qth (qy (g_up σ 2 2 (nI d)) 24 (60 + 12 * ((fr + d) % 6))) 0) 132 6 (nI d)) 133 (ms d), qL_undo_r f (r := nI d) ?_, ?_, ?_, fun _ => qup0 _ _, ?_⟩
    · unfold X6_undo X4_takeBack
      rw [b4, if_neg (nI_ne0 (by omega) (by omega)), if_neg (nI_nle (by omega) (by omega)), ql, nI_pred, qu_at, qu_j _ _ (by decide), b3, nI_add, qk_r6 (by omega), qg_i hm (by decide), qk_c (by omega), qy_eq, qs, qs, qy_o _ (by decide), qu_at]
    · unfold X7_undo
      have e6 : qy (g_up σ 2 2 (nI d)) 24 (60 + 12 * ((fr + d) % 6)) 132 6 = nI (d + 1) := by
        rw [qy_o _ (by decide), qu_a _ _ (by decide)]; exact b6
      rw [e6, if_neg (nI_ne0 (by omega) (by omega)), qth_e, qth_y, ql, qth_j _ _ (by decide), e6, nI_pred, qu_at]
      rw [qg (decide_eq_true (by
        rw [show (162 : Int32) * nI d = nI (162 * d) from pk_mul 162 d, nI_toInt (by omega), nI_clamp (by omega), e162]
        exact ⟨by omega, by decide, by decide, by omega, by decide⟩))]
      rw [ql, show (162 : Int32) * nI d = nI (162 * d) from pk_mul 162 d, nI_clamp (by omega), e162, qk_z0, qw_a _ _ (by decide), qu_at]
      have f1 : ∀ a, a = 133 ∨ a = 137 → (g_up (qth (qy (g_up σ 2 2 (nI d)) 24 (60 + 12 * ((fr + d) % 6))) 0) 132 6 (nI d)) a = σ a := by
        intro a ha
        rw [qu_a _ _ (by omega), qth_a _ _ (by omega), qy_o _ (by omega), qu_a _ _ (by omega)]
      rw [f1 133 (by decide), f1 137 (by decide), em]
    · rw [qw_a _ _ (by decide), qu_j _ _ (by decide), qth_8]
    · have o : ∀ a, a ≠ 2 → (a < 24 ∨ 36 ≤ a) → a ≠ 132 → a ≠ 133 → g_row (g_up (qth (qy (g_up σ 2 2 (nI d)) 24 (60 + 12 * ((fr + d) % 6))) 0) 132 6 (nI d)) 133 (ms d) a = σ a := by
        intro a p1 p2 p3 p4
        rw [qw_a _ _ p4, qu_a _ _ p3, qth_a _ _ p3, qy_o _ (by omega), qu_a _ _ p1]
      have o2 : ∀ j, j ≠ 6 → j ≠ 8 → g_row (g_up (qth (qy (g_up σ 2 2 (nI d)) 24 (60 + 12 * ((fr + d) % 6))) 0) 132 6 (nI d)) 133 (ms d) 132 j = σ 132 j := by
        intro j p q
        rw [qw_a _ _ (by decide), qu_j _ _ p, qth_j _ _ q, qy_o _ (by decide), qu_a _ _ (by decide)]
      have oR : ∀ i, i < d → qr_R (qr_b (g_row (g_up (qth (qy (g_up σ 2 2 (nI d)) 24 (60 + 12 * ((fr + d) % 6))) 0) 132 6 (nI d)) 133 (ms d)) (60 + 12 * ((fr + i) % 6))) (ms i) := by
        intro i hi
        have : (fr + i) % 6 < 6 := Nat.mod_lt _ (by decide)
        rw [qr_bc (σ := σ) (fun a p q => o a (by omega) (by omega) (by omega) (by omega))]
        exact b5 i (by omega)
      refine ⟨⟨?_, ?_⟩, ⟨ms, d, ⟨by omega, fr, b2, ?_, ?_, oR⟩, ⟨?_, fun i hi => ?_⟩⟩, qi_3c a3 ?_ (o2 4 (by decide) (by decide)) (fun a p q => o a (by omega) (by omega) (by omega) (by omega)) (o 136 (by decide) (by decide) (by decide) (by decide)), qi_4c a4 ?_ (o2 7 (by decide) (by decide)) ?_ (o2 15 (by decide) (by decide)), qi_5c a5 ?_ (o2 12 (by decide) (by decide)) (o 5 (by decide) (by decide) (by decide) (by decide)) (o 140 (by decide) (by decide) (by decide) (by decide))⟩
      · rw [qw_at, qr_bc (σ := qy (g_up σ 2 2 (nI d)) 24 (60 + 12 * ((fr + d) % 6))) (fun a p q => by rw [qw_a _ _ (by omega), qu_a _ _ (by omega), qth_a _ _ (by omega)])]
        refine qy_R (by omega) ?_
        rw [qr_bc (σ := σ) (fun a p q => qu_a _ _ (by omega))]
        exact b5 d (by omega)
      · rw [qw_at, ← b7 d (by omega), qcut_cut]
      · rw [qw_a _ _ (by decide), qu_a _ _ (by decide), qth_a _ _ (by decide), qy_o _ (by decide), qu_j _ _ (by decide)]; exact b3
      · rw [qw_a _ _ (by decide), qu_a _ _ (by decide), qth_a _ _ (by decide), qy_o _ (by decide), qu_at]
      · rw [qw_a _ _ (by decide), qu_at]
      · rw [o 137 (by decide) (by decide) (by decide) (by decide)]; exact b7 i (by omega)
      · rw [o 0 (by decide) (by decide) (by decide) (by decide)]
      · rw [o 0 (by decide) (by decide) (by decide) (by decide)]
      · rw [o 0 (by decide) (by decide) (by decide) (by decide)]
      · rw [o 4 (by decide) (by decide) (by decide) (by decide)]
/-! the empty airport -/
def qs_M0 : Nat → Int32 := fun j => if 28 ≤ j ∧ j < 92 then -1 else if j = 2 then 15 else 0
theorem qs_M0n : qs_n qs_M0 = 0 := rfl
theorem qs_M0t : qs_t qs_M0 = 0 := rfl
theorem qs_M0V : qs_V qs_M0 := by
  refine ⟨⟨rfl, by decide⟩, ⟨rfl, by decide⟩, by decide, fun i hi => by rw [qs_M0n] at hi; omega, fun i j hi hj => ?_, fun i hi => by rw [qs_M0t] at hi; omega⟩
  have e : ∀ i j, i < 8 → j < 8 → qs_li qs_M0 i j = -1 := by
    intro i j hi hj
    unfold qs_li qs_M0
    rw [if_pos ⟨by omega, by omega⟩]
  rw [e i j hi hj, e j i hj hi]
  exact ⟨rfl, fun _ => rfl⟩
theorem qs_M0c : qcut qs_M0 = qs_M0 := by
  funext j
  unfold qcut qs_M0
  by_cases h : j < 162
  · rw [if_pos h]
  · rw [if_neg h, if_neg (fun q => by omega), if_neg (by omega)]
theorem qs_M0io (k : Nat) : qs_io qs_M0 k = false := by
  unfold qs_io
  rw [qs_is_hi (by rw [qs_M0t]; omega), Bool.false_and]
/-- rows that hold the empty airport -/
theorem qr_M0 {A : Nat → Nat → Int32} (h0 : A 0 0 = 0) (h1 : A 0 1 = 0) (h2 : A 0 2 = 15) (h3 : A 0 3 = 0) (h4 : A 0 4 = 0) (h5 : ∀ k, k < 20 → A 11 k = -1) : qr_R A qs_M0 := by
  refine ⟨qs_M0V, ⟨h0, h1, h2, h3⟩, ⟨0, by decide, h4, fun i hi => by rw [qs_M0n] at hi; omega⟩, fun i hi => by rw [qs_M0n] at hi; omega, fun i j hi => by rw [qs_M0n] at hi; omega, fun i hi => by rw [qs_M0t] at hi; omega, fun k _ hk => absurd hk (by rw [qs_is_hi (by rw [qs_M0t]; omega)]; decide), fun k hk => ?_⟩
  rw [h5 k hk, qs_M0io]
  rfl
/-- the second program's beginning -/
theorem qd_begin (σ : gS) : ∃ σ1, X7_begin σ = some σ1 ∧ (∀ a, a ≠ 132 → a ≠ 133 → σ1 a = σ a) ∧ (∀ j, j ≠ 6 → σ1 132 j = σ 132 j) ∧ σ1 132 6 = 0 ∧ ∀ j, σ1 133 j = if j < 162 then qs_M0 j else σ 133 j := by
  let g : Nat → gS := fun i => g_row σ 133 (fun j => if j < i then (if 28 ≤ j ∧ j < 92 then -1 else 0) else σ 133 j)
  have hg : ∀ i v, v = (if 28 ≤ i ∧ i < 92 then (-1 : Int32) else 0) → g_up (g i) 133 i v = g (i + 1) := by
    intro i v hv
    funext a j
    show g_up (g_row σ 133 _) 133 i v a j = g_row σ 133 _ a j
    unfold g_up g_row
    by_cases ha : a = 133
    · subst ha
      rw [if_pos rfl, if_pos rfl]
      by_cases hj : j = i
      · subst hj
        rw [if_pos ⟨rfl, rfl⟩, hv]
        exact (if_pos (by omega)).symm
      · rw [if_neg (fun q => hj q.2)]
        by_cases hl : j < i
        · rw [if_pos hl]; exact (if_pos (show j < i + 1 by omega)).symm
        · rw [if_neg hl, if_neg (by omega)]
    · rw [if_neg (fun q => ha q.1), if_neg ha, if_neg ha]
  have e0 : g 0 = σ := by
    funext a j
    show g_row σ 133 _ a j = _
    unfold g_row
    by_cases ha : a = 133
    · subst ha; rw [if_pos rfl]; exact if_neg (by omega)
    · rw [if_neg ha]
  have hl := qf_for (step := X7_begin_s) (N := 162) (b := g_up (g_up (g 162) 133 2 15) 132 6 0) (fun i => (nI i, g i)) (fun i hi => ?_) ?_ 0 (by omega)
  · refine ⟨g_up (g_up (g 162) 133 2 15) 132 6 0, ?_, fun a p q => ?_, fun j p => ?_, qu_at _ _ _ _, fun j => ?_⟩
    · unfold X7_begin
      have : ((0 : Int32), σ) = (nI 0, g 0) := by rw [e0]; rfl
      rw [this]; exact hl
    · rw [qu_a _ _ p, qu_a _ _ q]
      show g_row σ 133 _ a = _
      rw [qw_a _ _ q]
    · rw [qu_j _ _ p, qu_a _ _ (by decide)]
      show g_row σ 133 _ 132 j = _
      rw [qw_a _ _ (by decide)]
    · rw [qu_a _ _ (by decide)]
      unfold qs_M0
      by_cases h2 : j = 2
      · subst h2
        rw [qu_at]; rfl
      · rw [qu_j _ _ h2]
        show g_row σ 133 _ 133 j = _
        rw [qw_at]
        by_cases h : j < 162
        · rw [if_pos h, if_pos h, if_neg h2]
        · rw [if_neg h, if_neg h]
  · show X7_begin_k0 (g i) (nI i) = _
    unfold X7_begin_k0
    rw [if_neg (show ¬ (162 : Int32) ≤ nI i from nI_ge (b := 162) hi (by decide)), qd_in, qs, qb_if, qg_i hi (by decide), qg_i hi (by decide), qk_c (by omega), ql, ql, qk_s]
    have e28 : (28 : Int32).toInt = 28 := rfl
    have e91 : (91 : Int32).toInt = 91 := rfl
    have ei : (nI i).toInt = i := nI_toInt (by omega)
    by_cases c : 28 ≤ i ∧ i < 92
    · have : (decide ((28 : Int32) ≤ nI i) && decide (nI i ≤ 91)) = true := by
        rw [decide_eq_true ((qf_le _ _).mpr (by rw [e28, ei]; omega)), decide_eq_true ((qf_le _ _).mpr (by rw [e91, ei]; omega))]; rfl
      rw [if_pos this, hg i _ (by rw [if_pos c])]
    · have : ¬ (decide ((28 : Int32) ≤ nI i) && decide (nI i ≤ 91)) = true := by
        intro q
        simp only [Bool.and_eq_true, decide_eq_true_eq, qf_le, e28, e91, ei] at q
        omega
      rw [if_neg this, hg i _ (by rw [if_neg c])]
  · show X7_begin_k0 (g 162) (nI 162) = _
    unfold X7_begin_k0
    rw [if_pos (show (162 : Int32) ≤ nI 162 from nI_le (a := 162) (b := 162) (by omega) (by decide)), ql, ql]
    rfl
theorem qo_clear : o_clear qi := by
  intro σ hI
  have hR := qi_R hI
  obtain ⟨⟨a1, a1c⟩, ⟨ms, c, ⟨b1, fr, b2, b3, b4, b5⟩, ⟨b6, b7⟩⟩, a3, a4, a5⟩ := hI
  obtain ⟨σ2, d1, d2, d3, d4, d5⟩ := qd_begin (qth (g_up (g_fill (g_up (g_up (g_up (g_up (g_up σ 24 0 0) 24 1 0) 24 2 15) 24 3 0) 24 4 0) 35 20 (-1)) 2 2 0) 0)
  refine ⟨σ 133 1, g_up (g_fill (g_up (g_up (g_up (g_up (g_up σ 24 0 0) 24 1 0) 24 2 15) 24 3 0) 24 4 0) 35 20 (-1)) 2 2 0, σ2, ?_, ?_, ?_⟩
  · unfold X6_clear X0_makeEmpty X4_forgetAll
    rw [ql, ql, ql, ql, ql, ql, qs, ql, qs, qr_1 hR, ← qv_t hR.1]
  · unfold X7_clear
    rw [qth_e, d1, qs, qk_z1, qth_133, qu_a _ _ (by decide)]
    unfold g_fill
    rw [qw_a _ _ (by decide), qu_a _ _ (by decide), qu_a _ _ (by decide), qu_a _ _ (by decide), qu_a _ _ (by decide), qu_a _ _ (by decide)]
  · have o : ∀ a, a ≠ 2 → a ≠ 24 → a ≠ 35 → a ≠ 132 → a ≠ 133 → σ2 a = σ a := by
      intro a p1 p2 p3 p4 p5
      rw [d2 a p4 p5, qth_a _ _ p4, qu_a _ _ p1]
      unfold g_fill
      rw [qw_a _ _ p3, qu_a _ _ p2, qu_a _ _ p2, qu_a _ _ p2, qu_a _ _ p2, qu_a _ _ p2]
    have o2 : ∀ j, j ≠ 6 → j ≠ 8 → σ2 132 j = σ 132 j := by
      intro j p q
      rw [d3 j p, qth_j _ _ q, qu_a _ _ (by decide)]
      unfold g_fill
      rw [qw_a _ _ (by decide), qu_a _ _ (by decide), qu_a _ _ (by decide), qu_a _ _ (by decide), qu_a _ _ (by decide), qu_a _ _ (by decide)]
    have e24 : ∀ j, σ2 24 j = g_up (g_up (g_up (g_up (g_up σ 24 0 0) 24 1 0) 24 2 15) 24 3 0) 24 4 0 24 j := by
      intro j
      rw [d2 24 (by decide) (by decide), qth_a _ _ (by decide), qu_a _ _ (by decide)]
      unfold g_fill
      rw [qw_a _ _ (by decide)]
    have e133 : σ2 133 = qs_M0 := by
      funext j
      rw [d5 j]
      by_cases h : j < 162
      · rw [if_pos h]
      · rw [if_neg h, qth_133, qu_a _ _ (by decide)]
        unfold g_fill
        rw [qw_a _ _ (by decide), qu_a _ _ (by decide), qu_a _ _ (by decide), qu_a _ _ (by decide), qu_a _ _ (by decide), qu_a _ _ (by decide), ← a1c, ← qs_M0c]
        unfold qcut
        rw [if_neg h, if_neg h]
    refine ⟨⟨?_, by rw [e133, qs_M0c]⟩, ⟨ms, 0, ⟨by decide, fr, b2, ?_, ?_, fun i hi => by omega⟩, ⟨d4, fun i hi => by omega⟩⟩, qi_3c a3 ?_ (o2 4 (by decide) (by decide)) (fun a p q => o a (by omega) (by omega) (by omega) (by omega) (by omega)) (o 136 (by decide) (by decide) (by decide) (by decide) (by decide)), qi_4c a4 ?_ (o2 7 (by decide) (by decide)) ?_ (o2 15 (by decide) (by decide)), qi_5c a5 ?_ (o2 12 (by decide) (by decide)) (o 5 (by decide) (by decide) (by decide) (by decide) (by decide)) (o 140 (by decide) (by decide) (by decide) (by decide) (by decide))⟩
    · rw [e133]
      refine qr_M0 ?_ ?_ ?_ ?_ ?_ (fun k hk => ?_)
      · show σ2 24 0 = 0
        rw [e24, qu_j _ _ (by decide), qu_j _ _ (by decide), qu_j _ _ (by decide), qu_j _ _ (by decide), qu_at]
      · show σ2 24 1 = 0
        rw [e24, qu_j _ _ (by decide), qu_j _ _ (by decide), qu_j _ _ (by decide), qu_at]
      · show σ2 24 2 = 15
        rw [e24, qu_j _ _ (by decide), qu_j _ _ (by decide), qu_at]
      · show σ2 24 3 = 0
        rw [e24, qu_j _ _ (by decide), qu_at]
      · show σ2 24 4 = 0
        rw [e24, qu_at]
      · show σ2 35 k = -1
        rw [d2 35 (by decide) (by decide), qth_a _ _ (by decide), qu_a _ _ (by decide)]
        unfold g_fill
        rw [qw_at]
        exact if_pos hk
    · rw [d2 2 (by decide) (by decide), qth_a _ _ (by decide), qu_j _ _ (by decide)]
      unfold g_fill
      rw [qw_a _ _ (by decide), qu_a _ _ (by decide), qu_a _ _ (by decide), qu_a _ _ (by decide), qu_a _ _ (by decide), qu_a _ _ (by decide)]
      exact b3
    · rw [d2 2 (by decide) (by decide), qth_a _ _ (by decide), qu_at]; rfl
    · rw [o 0 (by decide) (by decide) (by decide) (by decide) (by decide)]
    · rw [o 0 (by decide) (by decide) (by decide) (by decide) (by decide)]
    · rw [o 0 (by decide) (by decide) (by decide) (by decide) (by decide)]
    · rw [o 4 (by decide) (by decide) (by decide) (by decide) (by decide)]
/-! the input -/
theorem q_nar {ch : Nat} (h : ch < 65536) : vp_nar .char (nI ch) = nI ch := by
  have hz : cz (nI ch) = true := by
    unfold cz
    rw [nI_toInt (by omega)]
    exact decide_eq_true ⟨by omega, by omega⟩
  unfold vp_nar
  rw [cz_n hz]
theorem qo_append : o_append qi := by
  intro σ hI f x1
  have hI0 := hI
  obtain ⟨a1, a2, a3, a4, ⟨L, l1, l2, l3, l4⟩⟩ := hI
  generalize jc x1 = x
  have e32 : (32 : Int32).toInt = 32 := rfl
  have e126 : (126 : Int32).toInt = 126 := rfl
  by_cases c : ¬ x < 32 ∧ x ≤ 126
  · have m2 : (decide (32 ≤ x) && decide (x ≤ 126)) = true := by
      simp only [Bool.and_eq_true, decide_eq_true_eq]
      exact ⟨(qf_nle _ _).mpr c.1, c.2⟩
    have hx : 0 ≤ x.toInt ∧ x.toInt < 127 := by
      have c1 := c.1
      have c2 := c.2
      rw [qf_lt, e32] at c1
      rw [qf_le, e126] at c2
      omega
    obtain ⟨ch, hch, rfl⟩ : ∃ ch : Nat, ch < 127 ∧ x = nI ch := ⟨x.toNatClampNeg, by rw [qf_cl]; omega, qf_of hx.1⟩
    by_cases c6 : L < 60
    · have f1 : σ 4 3 < 60 := by rw [l2]; exact nI_lt (b := 60) c6 (by decide)
      have f2 : ¬ (60 : Int32) ≤ σ 4 3 := by rw [l2]; exact nI_ge (b := 60) c6 (by decide)
      refine ⟨0, nI (L + 1), _, g_up (g_up σ 5 L (nI ch)) 4 3 (nI (L + 1)), g_up (g_up (qth (g_up (g_up σ 5 L (nI ch)) 4 3 (nI (L + 1))) 0) 140 L (nI ch)) 132 12 (nI (L + 1)), qL_append_r f (r := nI (L + 1)) ?_, ?_, ?_, fun _ => qup0 _ _, ?_⟩
      · have e43 : (g_up σ 5 L (nI ch)) 4 3 = nI L := by rw [qu_a _ _ (by decide)]; exact l2
        unfold X6_append X5_add
        rw [if_neg c.1, if_pos c.2, if_pos f1, if_neg f2, l2, qg_i c6 (by decide), qk_c (by omega), q_nar (by omega), ql, ql, qs, e43, qk_s, qu_at]
      · unfold X7_append
        have e12 : (g_up (g_up σ 5 L (nI ch)) 4 3 (nI (L + 1))) 132 12 = nI L := by rw [qu_a _ _ (by decide), qu_a _ _ (by decide)]; exact l3
        have e12b : (g_up (qth (g_up (g_up σ 5 L (nI ch)) 4 3 (nI (L + 1))) 0) 140 L (nI ch)) 132 12 = nI L := by rw [qu_a _ _ (by decide), qth_j _ _ (by decide)]; exact e12
        rw [qd_in, qs, m2, if_neg (show ¬ qb true = 0 by decide), e12, if_neg (fun q => by have := (qk_eq (a := L) (b := 60) (by omega) (by decide)).mp q; omega), qth_e, qth_y, qth_j _ _ (by decide), e12, qg_i c6 (by decide), qk_c (by omega), q_nar (by omega), ql, ql, e12b, qk_s, qu_at]
      · rw [qu_j _ _ (by decide), qu_a _ _ (by decide), qth_8]
      · have o : ∀ a, a ≠ 4 → a ≠ 5 → a ≠ 132 → a ≠ 140 → g_up (g_up (qth (g_up (g_up σ 5 L (nI ch)) 4 3 (nI (L + 1))) 0) 140 L (nI ch)) 132 12 (nI (L + 1)) a = σ a := by
          intro a p1 p2 p3 p4
          rw [qu_a _ _ p3, qu_a _ _ p4, qth_a _ _ p3, qu_a _ _ p1, qu_a _ _ p2]
        have o2 : ∀ j, j ≠ 12 → j ≠ 8 → g_up (g_up (qth (g_up (g_up σ 5 L (nI ch)) 4 3 (nI (L + 1))) 0) 140 L (nI ch)) 132 12 (nI (L + 1)) 132 j = σ 132 j := by
          intro j p q
          rw [qu_j _ _ p, qu_a _ _ (by decide), qth_j _ _ q, qu_a _ _ (by decide), qu_a _ _ (by decide)]
        have e5 : g_up (g_up (qth (g_up (g_up σ 5 L (nI ch)) 4 3 (nI (L + 1))) 0) 140 L (nI ch)) 132 12 (nI (L + 1)) 5 = g_up σ 5 L (nI ch) 5 := by
          rw [qu_a _ _ (by decide), qu_a _ _ (by decide), qth_a _ _ (by decide), qu_a _ _ (by decide)]
        have e140 : g_up (g_up (qth (g_up (g_up σ 5 L (nI ch)) 4 3 (nI (L + 1))) 0) 140 L (nI ch)) 132 12 (nI (L + 1)) 140 = g_up (qth (g_up (g_up σ 5 L (nI ch)) 4 3 (nI (L + 1))) 0) 140 L (nI ch) 140 := qu_a _ _ (by decide)
        refine ⟨qi_1c a1 (fun a p q => o a (by omega) (by omega) (by omega) (by omega)) (o 133 (by decide) (by decide) (by decide) (by decide)), qi_2c a2 (fun a p q => o a (by omega) (by omega) (by omega) (by omega)) (o 2 (by decide) (by decide) (by decide) (by decide)) (o2 6 (by decide) (by decide)) (o 137 (by decide) (by decide) (by decide) (by decide)), qi_3c a3 ?_ (o2 4 (by decide) (by decide)) (fun a p q => o a (by omega) (by omega) (by omega) (by omega)) (o 136 (by decide) (by decide) (by decide) (by decide)), qi_4c a4 ?_ (o2 7 (by decide) (by decide)) ?_ (o2 15 (by decide) (by decide)), ⟨L + 1, by omega, ?_, qu_at _ _ _ _, fun i hi => ?_⟩⟩
        · rw [o 0 (by decide) (by decide) (by decide) (by decide)]
        · rw [o 0 (by decide) (by decide) (by decide) (by decide)]
        · rw [o 0 (by decide) (by decide) (by decide) (by decide)]
        · rw [qu_a _ _ (by decide), qu_a _ _ (by decide), qth_a _ _ (by decide), qu_at]
        · rw [e5, e140]
          by_cases hi2 : i = L
          · subst hi2
            rw [qu_at, qu_at]
            exact ⟨rfl, ch, hch, rfl⟩
          · rw [qu_j _ _ hi2, qu_j _ _ hi2, qth_a _ _ (by decide), qu_a _ _ (by decide), qu_a _ _ (by decide)]
            exact l4 i (by omega)
    · have e60 : L = 60 := by omega
      subst e60
      have f1 : ¬ σ 4 3 < 60 := by rw [l2]; exact nI_nlt (a := 60) (b := 60) (by omega) (by decide)
      refine ⟨2, 0, f, σ, qth σ 2, qL_append_2 f ?_, ?_, qth_8 _ _, fun q => absurd q (by decide), qth_i hI0 2⟩
      · unfold X6_append
        rw [if_neg c.1, if_pos c.2, if_neg f1]
      · unfold X7_append
        rw [qd_in, qs, m2, if_neg (show ¬ qb true = 0 by decide), l3, if_pos (show nI 60 = 60 from rfl), qth_e, qth_2]
  · have m2 : (decide (32 ≤ x) && decide (x ≤ 126)) = false := by
      rw [Bool.eq_false_iff]
      intro q
      simp only [Bool.and_eq_true, decide_eq_true_eq] at q
      exact c ⟨(qf_nle _ _).mp q.1, q.2⟩
    refine ⟨1, 0, f, σ, qth σ 1, qL_append_1 f ?_, ?_, qth_8 _ _, fun q => absurd q (by decide), qth_i hI0 1⟩
    · unfold X6_append
      by_cases c3 : x < 32
      · rw [if_pos c3]
      · rw [if_neg c3, if_neg (fun q => c ⟨c3, q⟩)]
    · unfold X7_append
      rw [qd_in, qs, m2, if_pos qb_f, qth_e, qth_1]
