/-! ===== a text's entry done: the trial's rows against the second program's row ===== -/
def qDD (σ τ σ' τ' : gS) (o : Bool) : Prop := (∀ a, a ≠ 0 → (a < 36 ∨ 48 ≤ a) → σ' a = σ a) ∧ (∀ j, j ≠ 9 → σ' 0 j = σ 0 j) ∧ (∀ a, a ≠ 132 → a ≠ 133 → τ' a = τ a) ∧ (∀ j, j ≠ 7 → τ' 132 j = τ 132 j) ∧ σ' 0 9 = τ' 132 7 ∧ qcut (τ' 133) = τ' 133 ∧ (o = true → qr_R (qr_b σ' 36) (τ' 133))
section ENT
variable {σ τ : gS}
theorem qDD_no (hc : qcut (τ 133) = τ 133) (h9 : σ 0 9 = τ 132 7) : qDD σ τ σ τ false := ⟨fun _ _ _ => rfl, fun _ _ => rfl, fun _ _ _ => rfl, fun _ _ => rfl, h9, hc, fun q => by cases q⟩
theorem qDD_ok (h9 : σ 0 9 = τ 132 7) {σ' : gS} {M' : Nat → Int32} (ho : ∀ a, (a < 36 ∨ 48 ≤ a) → σ' a = σ a) (hR : qr_R (qr_b σ' 36) M') (hc : qcut M' = M') : qDD σ τ σ' (g_row τ 133 M') true := by
  refine ⟨fun a _ p => ho a p, fun j _ => by rw [ho 0 (by decide)], fun a _ p => qw_a _ _ p, fun j _ => by rw [qw_a _ _ (by decide)], by rw [ho 0 (by decide), qw_a _ _ (by decide)]; exact h9, by rw [qw_at]; exact hc, fun _ => by rw [qw_at]; exact hR⟩
theorem q_dPlace (hR : qr_R (qr_b σ 36) (τ 133)) (hc : qcut (τ 133) = τ 133) (h9 : σ 0 9 = τ 132 7) (x1 x2 x3 : Int32) : ∃ o σ' τ' r, X6_placeInTrial σ x1 x2 x3 = some (qb o, σ') ∧ X7_doPlace τ x1 x2 x3 = some (r, τ') ∧ (r ≤ 0 ↔ o = true) ∧ qDD σ τ σ' τ' o := by
  have hV := hR.1
  have h8 := qv_n8 hV
  cases c : (qs_st (τ 133) x1 x2 && ib x3 (qs_n (τ 133))) with
  | false =>
    refine ⟨false, σ, τ, 1, ?_, ?_, ⟨fun q => absurd q (by decide), fun q => by cases q⟩, qDD_no hc h9⟩
    · unfold X6_placeInTrial
      rw [qc_hasStay hR, qs, qb_if, qc_hasStand hR, qs, qb_if]
      cases c1 : qs_st (τ 133) x1 x2 with
      | false => rw [if_neg (by decide)]; rfl
      | true =>
        rw [c1, Bool.true_and] at c
        rw [if_pos rfl, c, if_neg (by decide)]; rfl
    · unfold X7_doPlace
      rw [qd_isPlace hV, qs, c, if_pos qb_f]
  | true =>
    have hcc := c
    simp only [Bool.and_eq_true] at hcc
    obtain ⟨c1, c2⟩ := hcc
    obtain ⟨t, e, rfl, rfl, he, ht, hk⟩ := qs_st_of hV c1
    obtain ⟨s, hs, rfl⟩ := qi_of c2
    have hk20 := qv_k hV hk
    have hwl := qs_why5 (τ 133) (2 * t + e) s
    by_cases cw : qs_why (τ 133) (2 * t + e) s = 0
    · refine ⟨true, g_up σ (36 + 11) (2 * t + e) (nI s), g_row τ 133 (qs_pt (τ 133) (2 * t + e) (nI s)), 0, ?_, ?_, ⟨fun _ => rfl, fun _ => by decide⟩, qDD_ok h9 (fun a p => qu_a _ _ (by omega)) (qr_put hR hk (by rw [nI_toInt (by omega)]; omega) (by rw [nI_toInt (by omega)]; omega)) (by rw [qpt_qu1]; exact qu1_cut hc (by omega) _)⟩
      · unfold X6_placeInTrial
        rw [qc_hasStay hR, qs, c1, if_neg (by decide), qc_hasStand hR, qs, c2, if_neg (by decide), qk_st, qc_refusal hR hk hs, qs, cw, if_pos nI_0, qg_i hk20 (by decide), qk_c (by omega), ql]; rfl
      · unfold X7_doPlace
        rw [qd_isPlace hV, qs, c, if_neg (show ¬ qb true = 0 by decide), qk_st, qd_why hV hk hs, qs, cw, if_pos (show nI 0 ≤ 0 from by decide), qd_put hk20, qs, qp_qp]
    · refine ⟨false, g_up σ 0 9 (nI (qs_why (τ 133) (2 * t + e) s)), g_up τ 132 7 (nI (qs_why (τ 133) (2 * t + e) s)), 2, ?_, ?_, ⟨fun q => absurd q (by decide), fun q => by cases q⟩, ?_⟩
      · unfold X6_placeInTrial
        rw [qc_hasStay hR, qs, c1, if_neg (by decide), qc_hasStand hR, qs, c2, if_neg (by decide), qk_st, qc_refusal hR hk hs, qs, if_neg (fun q => cw ((qi_w0 _ hwl).mp q)), ql]; rfl
      · unfold X7_doPlace
        rw [qd_isPlace hV, qs, c, if_neg (show ¬ qb true = 0 by decide), qk_st, qd_why hV hk hs, qs, if_neg (nI_nle (by omega) (by omega)), ql]
      · exact ⟨fun a p _ => qu_a _ _ p, fun j p => qu_j _ _ p, fun a p _ => qu_a _ _ p, fun j p => qu_j _ _ p, by rw [qu_at, qu_at], by rw [qu_a _ _ (by decide)]; exact hc, fun q => by cases q⟩
theorem q_dLift (hR : qr_R (qr_b σ 36) (τ 133)) (hc : qcut (τ 133) = τ 133) (h9 : σ 0 9 = τ 132 7) (x1 x2 : Int32) : ∃ o σ' τ' r, X6_liftInTrial σ x1 x2 = some (qb o, σ') ∧ X7_doLift τ x1 x2 = some (r, τ') ∧ (r ≤ 0 ↔ o = true) ∧ qDD σ τ σ' τ' o := by
  have hV := hR.1
  cases c : qs_st (τ 133) x1 x2 with
  | false =>
    refine ⟨false, σ, τ, 1, ?_, ?_, ⟨fun q => absurd q (by decide), fun q => by cases q⟩, qDD_no hc h9⟩
    · unfold X6_liftInTrial
      rw [qc_hasStay hR, qs, c, if_pos qb_f]; rfl
    · unfold X7_doLift
      rw [qd_isStay_ hV, qs, c, if_pos qb_f]
  | true =>
    obtain ⟨t, e, rfl, rfl, he, ht, hk⟩ := qs_st_of hV c
    have hk20 := qv_k hV hk
    by_cases c2 : 0 ≤ qs_on (τ 133) (2 * t + e)
    · refine ⟨true, g_up σ (36 + 11) (2 * t + e) (-1), g_row τ 133 (qs_pt (τ 133) (2 * t + e) (-1)), 0, ?_, ?_, ⟨fun _ => rfl, fun _ => by decide⟩, qDD_ok h9 (fun a p => qu_a _ _ (by omega)) (qr_put hR hk (by decide) (by rw [show (-1 : Int32).toInt = -1 by decide]; omega)) (by rw [qpt_qu1]; exact qu1_cut hc (by omega) _)⟩
      · unfold X6_liftInTrial
        rw [qc_hasStay hR, qs, c, if_neg (by decide), qk_st, qg_i hk20 (by decide), qk_c (by omega), qr_ons hR hk, if_pos c2, ql]; rfl
      · unfold X7_doLift
        rw [qd_isStay_ hV, qs, c, if_neg (show ¬ qb true = 0 by decide), qk_st, qd_on hk20, qs, if_pos c2, qd_put hk20, qs, qp_qp]
    · refine ⟨false, σ, τ, 2, ?_, ?_, ⟨fun q => absurd q (by decide), fun q => by cases q⟩, qDD_no hc h9⟩
      · unfold X6_liftInTrial
        rw [qc_hasStay hR, qs, c, if_neg (by decide), qk_st, qg_i hk20 (by decide), qk_c (by omega), qr_ons hR hk, if_neg c2]; rfl
      · unfold X7_doLift
        rw [qd_isStay_ hV, qs, c, if_neg (show ¬ qb true = 0 by decide), qk_st, qd_on hk20, qs, if_neg c2]
theorem q_dTow (hR : qr_R (qr_b σ 36) (τ 133)) (hc : qcut (τ 133) = τ 133) (h9 : σ 0 9 = τ 132 7) (x1 x2 : Int32) : ∃ o σ' τ' r, X6_towInTrial σ x1 x2 = some (qb o, σ') ∧ X7_doTow τ x1 x2 = some (r, τ') ∧ (r ≤ 0 ↔ o = true) ∧ qDD σ τ σ' τ' o := by
  have hV := hR.1
  have h10 := qv_t10 hV
  have bad : ∀ w, w ≠ 0 → qs_wt0 (τ 133) x1 x2 = w → w < 4 → X7_doTow τ x1 x2 = some (nI w, τ) := by
    intro w w0 hw w4
    rw [qd_doTow hV, hw, if_neg w0]
  have nle : ∀ w, w ≠ 0 → w < 4 → (nI w ≤ 0 ↔ false = true) := fun w w0 w4 => ⟨fun q => absurd q (nI_nle (by omega) (by omega)), fun q => by cases q⟩
  cases c : ib x1 (qs_t (τ 133)) with
  | false =>
    refine ⟨false, σ, τ, nI 1, ?_, bad 1 (by decide) (by unfold qs_wt0; rw [c]; rfl) (by decide), nle 1 (by decide) (by decide), qDD_no hc h9⟩
    unfold X6_towInTrial
    rw [qc_hasTurn hR, qs, c, if_pos qb_f]; rfl
  | true =>
    obtain ⟨t, ht, rfl⟩ := qi_of c
    have ec : (nI t).toNatClampNeg = t := qk_c (by omega)
    cases c2 : qs_tm (τ 133) t x2 with
    | false =>
      refine ⟨false, σ, τ, nI 2, ?_, bad 2 (by decide) (by unfold qs_wt0; rw [c, ec, c2]; rfl) (by decide), nle 2 (by decide) (by decide), qDD_no hc h9⟩
      unfold X6_towInTrial
      rw [qc_hasTurn hR, qs, c, if_neg (show ¬ qb true = 0 by decide), qc_isTowMinute hR ht, qs, c2, if_pos qb_f]; rfl
    | true =>
      by_cases c3 : 0 ≤ τ 133 (96 + 7 * t)
      · refine ⟨false, σ, τ, nI 3, ?_, bad 3 (by decide) (by unfold qs_wt0; rw [c, ec, c2, if_pos rfl, if_pos rfl, if_pos c3]) (by decide), nle 3 (by decide) (by decide), qDD_no hc h9⟩
        unfold X6_towInTrial
        rw [qc_hasTurn hR, qs, c, if_neg (show ¬ qb true = 0 by decide), qc_isTowMinute hR ht, qs, c2, if_neg (show ¬ qb true = 0 by decide), qc_hasTow hR ht, qs, decide_eq_true c3, if_neg (show ¬ qb true = 0 by decide)]; rfl
      · obtain ⟨m1, m2⟩ := qc_divide hR ht c2 c3
        have w0 : qs_wt0 (τ 133) (nI t) x2 = 0 := by unfold qs_wt0; rw [c, ec, c2, if_pos rfl, if_pos rfl, if_neg c3]
        refine ⟨true, qst (g_up σ (36 + 8) t x2) 36 t, g_row τ 133 (qs_tow (τ 133) t x2), 0, ?_, ?_, ⟨fun _ => rfl, fun _ => by decide⟩, qDD_ok h9 (fun a p => by rw [qst_a _ (by omega) (by omega), qu_a _ _ (by omega)]) m2 (qs_tow_cut hc (by omega) _)⟩
        · unfold X6_towInTrial
          rw [qc_hasTurn hR, qs, c, if_neg (show ¬ qb true = 0 by decide), qc_isTowMinute hR ht, qs, c2, if_neg (show ¬ qb true = 0 by decide), qc_hasTow hR ht, qs, decide_eq_false c3, if_pos qb_f, m1, qs]; rfl
        · rw [qd_doTow hV, w0, if_pos rfl, ec]; rfl
theorem q_dDelay (hR : qr_R (qr_b σ 36) (τ 133)) (hc : qcut (τ 133) = τ 133) (h9 : σ 0 9 = τ 132 7) (x1 x2 : Int32) : ∃ o σ' τ' r, X6_delayInTrial σ x1 x2 = some (qb o, σ') ∧ X7_doDelay τ x1 x2 = some (r, τ') ∧ (r ≤ 0 ↔ o = true) ∧ qDD σ τ σ' τ' o := by
  have hV := hR.1
  have h10 := qv_t10 hV
  have bad : ∀ w, w ≠ 0 → qs_wd (τ 133) x1 x2 = w → w < 4 → X7_doDelay τ x1 x2 = some (nI w, τ) := by
    intro w w0 hw w4
    rw [qd_doDelay hV, hw, if_neg w0]
  have nle : ∀ w, w ≠ 0 → w < 4 → (nI w ≤ 0 ↔ false = true) := fun w w0 w4 => ⟨fun q => absurd q (nI_nle (by omega) (by omega)), fun q => by cases q⟩
  cases c : ib x1 (qs_t (τ 133)) with
  | false =>
    refine ⟨false, σ, τ, nI 1, ?_, bad 1 (by decide) (by unfold qs_wd; rw [c]; rfl) (by decide), nle 1 (by decide) (by decide), qDD_no hc h9⟩
    unfold X6_delayInTrial
    rw [qc_hasTurn hR, qs, c, if_pos qb_f]; rfl
  | true =>
    obtain ⟨t, ht, rfl⟩ := qi_of c
    have t10 : t < 10 := by omega
    have ec : (nI t).toNatClampNeg = t := qk_c (by omega)
    cases c2 : (decide (1 ≤ x2) && decide (x2 ≤ 300)) with
    | false =>
      refine ⟨false, σ, τ, nI 2, ?_, bad 2 (by decide) (by unfold qs_wd; rw [c, c2]; rfl) (by decide), nle 2 (by decide) (by decide), qDD_no hc h9⟩
      unfold X6_delayInTrial
      rw [qc_hasTurn hR, qs, c, if_neg (show ¬ qb true = 0 by decide)]
      by_cases c4 : x2 < 1
      · rw [if_pos c4]; rfl
      · rw [if_neg c4, if_pos ((qf_nlt _ _).mpr (fun q => by rw [decide_eq_true ((qf_nle _ _).mpr c4), decide_eq_true q] at c2; cases c2))]; rfl
    | true =>
      obtain ⟨i1, i2⟩ := qs_300 c2
      have n1 : ¬ x2 < 1 := by rw [qf_lt, show (1 : Int32).toInt = 1 from rfl]; omega
      have n2 : ¬ (300 : Int32) < x2 := by rw [qf_lt, show (300 : Int32).toInt = 300 from rfl]; omega
      by_cases c3 : qs_ndp (τ 133) t x2 ≤ 1440
      · have i3 : (qs_ndp (τ 133) t x2).toInt ≤ 1440 := (qf_le _ _).mp c3
        obtain ⟨m1, m2⟩ := qc_postpone hR ht i1 i2 i3
        have w0 : qs_wd (τ 133) (nI t) x2 = 0 := by unfold qs_wd; rw [c, c2, ec, if_pos rfl, if_pos rfl, if_pos c3]
        refine ⟨true, qst (qs_pp σ 36 t x2 (qs_ndp (τ 133) t x2) (qs_ntw (τ 133) t x2)) 36 t, g_row τ 133 (qs_dly (τ 133) t x2), 0, ?_, ?_, ⟨fun _ => rfl, fun _ => by decide⟩, qDD_ok h9 (fun a p => by rw [qst_a _ (by omega) (by omega), qs_pp_a _ _ _ _ (by omega) (by omega) (by omega)]) m2 (qs_dly_cut hc t10 _)⟩
        · unfold X6_delayInTrial
          rw [qc_hasTurn hR, qs, c, if_neg (show ¬ qb true = 0 by decide), if_neg n1, if_neg n2, qc_departureAfter hR ht, qs, if_pos c3, m1, qs]; rfl
        · rw [qd_doDelay hV, w0, if_pos rfl, ec]; rfl
      · refine ⟨false, σ, τ, nI 3, ?_, bad 3 (by decide) (by unfold qs_wd; rw [c, c2, ec, if_pos rfl, if_pos rfl, if_neg c3]) (by decide), nle 3 (by decide) (by decide), qDD_no hc h9⟩
        unfold X6_delayInTrial
        rw [qc_hasTurn hR, qs, c, if_neg (show ¬ qb true = 0 by decide), if_neg n1, if_neg n2, qc_departureAfter hR ht, qs, if_neg c3]; rfl
theorem q_doEntry (hR : qr_R (qr_b σ 36) (τ 133)) (hc : qcut (τ 133) = τ 133) (h9 : σ 0 9 = τ 132 7) {i : Nat} (hi : i < 60) {c : Int32} (hk : c = 112 ∨ c = 108 ∨ c = 100 ∨ c = 116 ∨ c = 97) (k5 : σ 4 5 = c) (m0 : τ 141 i = c) (e0 : c ≠ 97 → σ 6 0 = τ 142 (3 * i)) (e1 : c ≠ 97 → σ 6 1 = τ 142 (3 * i + 1)) (e2 : c = 112 → σ 6 2 = τ 142 (3 * i + 2)) :
    ∃ o σ' τ', X6_doEntry σ = some (qb o, σ') ∧ X7_fails τ (nI i) = some (qb (!o), τ') ∧ qDD σ τ σ' τ' o := by
  have hV := hR.1
  have i3 : (3 : Int32) * nI i = nI (3 * i) := pk_mul 3 i
  have fin : ∀ (o : Bool) (r : Int32) (τ' : gS), (r ≤ 0 ↔ o = true) → (if r ≤ 0 then (some ((0 : Int32), τ')) else some (1, τ')) = some (qb (!o), τ') := by
    intro o r τ' h
    cases o with
    | true => rw [if_pos (h.mpr rfl)]; rfl
    | false => rw [if_neg (fun q => by cases h.mp q)]; rfl
  unfold X6_doEntry X7_fails
  rw [k5, i3, qk_s, show nI (3 * i) + (2 : Int32) = nI (3 * i + 2) from nI_add (3 * i) 2, qg_i (show 3 * i < 180 by omega) (by decide), qg_i (show 3 * i + 1 < 180 by omega) (by decide), qg_i hi (by decide), qg_i (show 3 * i + 2 < 180 by omega) (by decide), qk_c (show i < 2 ^ 31 by omega), qk_c (show 3 * i < 2 ^ 31 by omega), qk_c (show 3 * i + 1 < 2 ^ 31 by omega), qk_c (show 3 * i + 2 < 2 ^ 31 by omega), m0, qk_z0, qk_z1, qk_z2]
  rcases hk with rfl | rfl | rfl | rfl | rfl
  · obtain ⟨o, σ', τ', r, p1, p2, p3, p4⟩ := q_dPlace hR hc h9 (σ 6 0) (σ 6 1) (σ 6 2)
    rw [e0 (by decide), e1 (by decide), e2 rfl] at p2
    refine ⟨o, σ', τ', ?_, ?_, p4⟩
    · rw [if_pos rfl, p1, qs, qg (qb_bz _)]
    · rw [if_neg (by decide), if_neg (by decide), if_pos rfl, p2, qs]
      exact fin o r τ' p3
  · obtain ⟨o, σ', τ', r, p1, p2, p3, p4⟩ := q_dLift hR hc h9 (σ 6 0) (σ 6 1)
    rw [e0 (by decide), e1 (by decide)] at p2
    refine ⟨o, σ', τ', ?_, ?_, p4⟩
    · rw [if_neg (by decide), if_pos rfl, p1, qs, qg (qb_bz _)]
    · rw [if_neg (by decide), if_pos rfl, p2, qs]
      exact fin o r τ' p3
  · obtain ⟨o, σ', τ', r, p1, p2, p3, p4⟩ := q_dDelay hR hc h9 (σ 6 0) (σ 6 1)
    rw [e0 (by decide), e1 (by decide)] at p2
    refine ⟨o, σ', τ', ?_, ?_, p4⟩
    · rw [if_neg (by decide), if_neg (by decide), if_pos rfl, p1, qs, qg (qb_bz _)]
    · rw [if_pos rfl, p2, qs]
      exact fin o r τ' p3
  · obtain ⟨o, σ', τ', r, p1, p2, p3, p4⟩ := q_dTow hR hc h9 (σ 6 0) (σ 6 1)
    rw [e0 (by decide), e1 (by decide)] at p2
    refine ⟨o, σ', τ', ?_, ?_, p4⟩
    · rw [if_neg (by decide), if_neg (by decide), if_neg (by decide), if_pos rfl, p1, qs, qg (qb_bz _)]
    · rw [if_neg (by decide), if_neg (by decide), if_neg (by decide), if_pos rfl, p2, qs]
      exact fin o r τ' p3
  · obtain ⟨σ', a1, a2, a3⟩ := qc_placeEverything hR
    have hle := qs_as_le 20 (qs_lf (τ 133)) (τ 133) 0
    refine ⟨true, σ', g_row τ 133 (qs_as 20 (qs_lf (τ 133)) (τ 133) 0).2, ?_, ?_, qDD_ok h9 (fun a p => a3 a (by omega)) a2 (qs_as_cut _ _ _ _ hc)⟩
    · rw [if_neg (by decide), if_neg (by decide), if_neg (by decide), if_neg (by decide), a1, qs]; rfl
    · rw [if_neg (by decide), if_neg (by decide), if_neg (by decide), if_neg (by decide), qd_assign hV, qs]
      show (if (0 : Int32) ≤ nI (qs_as 20 (qs_lf (τ 133)) (τ 133) 0).1 then _ else _) = _
      rw [if_pos (nI_pos' (by omega))]; rfl
end ENT
