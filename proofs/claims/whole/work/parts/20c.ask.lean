/-! ===== the calls that only ask ===== -/
theorem q_nin {x : Int32} {n : Nat} (hn : n < 2 ^ 31) (h : ∀ j, j ≤ n → x ≠ nI j) : (decide (0 ≤ x) && decide (x ≤ nI n)) = false := by
  rw [Bool.eq_false_iff]
  intro q
  simp only [Bool.and_eq_true, decide_eq_true_eq, qf_le, nI_toInt hn] at q
  have e0 : (0 : Int32).toInt = 0 := rfl
  rw [e0] at q
  exact h x.toNatClampNeg (by rw [qf_cl]; omega) (qf_of q.1)
theorem qth_V {σ : gS} (h : qs_V (σ 133)) (v : Int32) : qs_V ((qth σ v) 133) := by rw [qth_133]; exact h
theorem qo_reason : o_reason qi := by
  intro σ hI f
  have h4 : σ 0 9 = σ 132 7 := hI.2.2.2.1.1
  by_cases c : σ 132 7 = 0
  · refine ⟨1, qth σ 1 132 7, f, σ, qth σ 1, qL_reason_1 f ?_, ?_, qth_8 _ _, fun q => absurd q (by decide), qth_i hI 1⟩
    · unfold X6_reason
      rw [h4, if_pos c]
    · unfold X7_reason
      rw [if_pos c, qth_e]
  · refine ⟨0, σ 132 7, _, σ, qth σ 0, qL_reason_r f (r := σ 0 9) ?_, ?_, qth_8 _ _, fun _ => ?_, qth_i hI 0⟩
    · unfold X6_reason
      rw [if_neg (by rw [h4]; exact c)]
    · unfold X7_reason
      rw [if_neg c, qth_e, qth_j _ _ (by decide)]
    · rw [qup0, h4]
theorem qo_errorPosition : o_errorPosition qi := by
  intro σ hI f
  have h4 : σ 0 10 = σ 132 15 := hI.2.2.2.1.2
  by_cases c : 0 ≤ σ 132 15
  · refine ⟨0, σ 132 15, _, σ, qth σ 0, qL_errorPosition_r f (r := σ 0 10) ?_, ?_, qth_8 _ _, fun _ => ?_, qth_i hI 0⟩
    · unfold X6_errorPosition
      rw [if_pos (by rw [h4]; exact c)]
    · unfold X7_errorPosition
      rw [if_pos c, qth_e, qth_y, qth_j _ _ (by decide)]
    · rw [qup0, h4]
  · refine ⟨1, 0, f, σ, qth σ 1, qL_errorPosition_1 f ?_, ?_, qth_8 _ _, fun q => absurd q (by decide), qth_i hI 1⟩
    · unfold X6_errorPosition
      rw [h4, if_neg c]
    · unfold X7_errorPosition
      rw [if_neg c, qth_e, qth_1]
theorem qo_stand : o_stand qi := by
  intro σ hI f x1 x2
  have hV := qi_V hI
  have hR := qi_R hI
  have h8 := qv_n8 hV
  cases c : ib x1 (qs_n (σ 133)) with
  | false =>
    refine ⟨1, 0, f, σ, qth σ 1, qL_stand_1 f ?_, ?_, qth_8 _ _, fun q => absurd q (by decide), qth_i hI 1⟩
    · unfold X6_stand
      rw [qc_hasStand hR, qs, c, if_pos qb_f]
    · unfold X7_stand
      rw [qd_isStand hV, qs, c, if_pos qb_f, qth_e, qth_1]
  | true =>
    obtain ⟨s, hs, rfl⟩ := qi_of c
    have hV0 := qth_V hV 0
    have hs0 : s < 8 := by omega
    by_cases e7 : ∀ j, j ≤ 6 → x2 ≠ nI j
    · refine ⟨2, 0, f, σ, qth σ 2, qL_stand_2 f ?_, ?_, qth_8 _ _, fun q => absurd q (by decide), qth_i hI 2⟩
      · unfold X6_stand
        rw [qc_hasStand hR, qs, c, if_neg (by decide), if_neg (show ¬ x2 = 0 from e7 0 (by decide)), if_neg (show ¬ x2 = 1 from e7 1 (by decide)), if_neg (show ¬ x2 = 2 from e7 2 (by decide)), if_neg (show ¬ x2 = 3 from e7 3 (by decide)), if_neg (show ¬ x2 = 4 from e7 4 (by decide)), if_neg (show ¬ x2 = 5 from e7 5 (by decide)), if_neg (show ¬ x2 = 6 from e7 6 (by decide))]
      · unfold X7_stand
        rw [qd_isStand hV, qs, c, if_neg (by decide), qd_in, qs, show (6 : Int32) = nI 6 from rfl, q_nin (by decide) e7, if_pos qb_f, qth_e, qth_2]
    · have main : ∃ r, X6_stand σ (nI s) x2 = some (.inr r, σ) ∧ X7_stand σ (nI s) x2 = some (r, qth σ 0) := by
        have e8 : ∃ j : Nat, j ≤ 6 ∧ x2 = nI j := by
          refine Classical.byContradiction (fun q => e7 (fun j hj e => q ⟨j, hj, e⟩))
        obtain ⟨j, hj, rfl⟩ := e8
        unfold X6_stand X7_stand
        have hj6 : (decide (0 ≤ nI j) && decide (nI j ≤ 6)) = true := by
          rw [decide_eq_true (nI_pos' (by omega)), decide_eq_true (show nI j ≤ 6 from nI_le (b := 6) hj (by decide))]; rfl
        rw [qc_hasStand hR, qs, qd_isStand hV, qs, c, if_neg (show ¬ qb true = 0 by decide), if_neg (show ¬ qb true = 0 by decide), qd_in, qs, hj6, if_neg (show ¬ qb true = 0 by decide), qth_e, qth_y]
        rcases (show j = 0 ∨ j = 1 ∨ j = 2 ∨ j = 3 ∨ j = 4 ∨ j = 5 ∨ j = 6 by omega) with rfl | rfl | rfl | rfl | rfl | rfl | rfl
        · rw [if_pos (by decide), if_pos (by decide), qg_i hs0 (by decide), qk_4, qg_i (by omega) (by decide), qk_c (by omega), qk_c (by omega), qth_133]
          exact ⟨_, by rw [qr_kd hR hs], rfl⟩
        · rw [if_neg (by decide), if_pos (by decide), if_neg (by decide), if_pos (by decide), qg_i hs0 (by decide), qk_12, qg_i (by omega) (by decide), qk_c (by omega), qk_c (by omega), qth_133]
          exact ⟨_, by rw [qr_ss hR hs], rfl⟩
        · rw [if_neg (by decide), if_neg (by decide), if_pos (by decide), if_neg (by decide), if_neg (by decide), if_pos (by decide), qc_isOpened hR hs, qs, qb_if, qk_20p, qg_i (by omega) (by decide), qk_c (by omega), qth_133]
          rcases qv_op hV hs with q | q
          · refine ⟨0, ?_, by rw [q]⟩
            rw [q]; rfl
          · refine ⟨1, ?_, by rw [q]⟩
            rw [q]; rfl
        · rw [if_neg (by decide), if_neg (by decide), if_neg (by decide), if_pos (by decide), if_neg (by decide), if_neg (by decide), if_neg (by decide), if_pos (by decide), qc_partnersOf hR hs, qs, qd_pairsl hV0 hs0, qth_133]
          exact ⟨_, rfl, rfl⟩
        · rw [if_neg (by decide), if_neg (by decide), if_neg (by decide), if_neg (by decide), if_pos (by decide), if_neg (by decide), if_neg (by decide), if_neg (by decide), if_neg (by decide), qc_staysOn hR hs0, qs, q_bc, qs, qd_ofStays hV0 hs0, qs, qth_133, if_pos (by decide)]
          exact ⟨_, rfl, rfl⟩
        · rw [if_neg (by decide), if_neg (by decide), if_neg (by decide), if_neg (by decide), if_neg (by decide), if_pos (by decide), if_neg (by decide), if_neg (by decide), if_neg (by decide), if_neg (by decide), qc_staysOn hR hs0, qs, qc_len hR (fun k _ hk => qs_io_is (qs_os_io hk)), qs, qd_ofStays hV0 hs0, qs, qth_133, if_neg (by decide), if_pos (by decide)]
          exact ⟨_, rfl, rfl⟩
        · rw [if_neg (by decide), if_neg (by decide), if_neg (by decide), if_neg (by decide), if_neg (by decide), if_neg (by decide), if_pos (by decide), if_neg (by decide), if_neg (by decide), if_neg (by decide), if_neg (by decide), qc_troubledOn hR hs0, qs, qd_ofStays hV0 hs0, qs, qth_133, if_neg (by decide), if_neg (by decide)]
          exact ⟨_, rfl, rfl⟩
      obtain ⟨r, m1, m2⟩ := main
      exact ⟨0, r, _, σ, qth σ 0, qL_stand_r f m1, m2, qth_8 _ _, fun _ => qup0 _ _, qth_i hI 0⟩
theorem q_day (x : Int32) : (decide (0 ≤ x) && decide (x ≤ 1440)) = true ↔ ¬ x < 0 ∧ x ≤ 1440 := by
  simp only [Bool.and_eq_true, decide_eq_true_eq]
  rw [qf_lt0, Classical.not_not]
theorem qo_at : o_at qi := by
  intro σ hI f x1 x2
  have hV := qi_V hI
  have hR := qi_R hI
  have h8 := qv_n8 hV
  cases c : ib x1 (qs_n (σ 133)) with
  | false =>
    refine ⟨1, 0, f, σ, qth σ 1, qL_at_1 f ?_, ?_, qth_8 _ _, fun q => absurd q (by decide), qth_i hI 1⟩
    · unfold X6_at
      rw [qc_hasStand hR, qs, c, if_pos qb_f]
    · unfold X7_at_
      rw [qd_isStand hV, qs, c, if_pos qb_f, qth_e, qth_1]
  | true =>
    obtain ⟨s, hs, rfl⟩ := qi_of c
    have hV0 := qth_V hV 0
    have hs0 : s < 8 := by omega
    by_cases c2 : ¬ x2 < 0 ∧ x2 ≤ 1440
    · have m2 := (q_day x2).mpr c2
      cases c3 : qfi (fun k => qs_os (σ 133) s k && qs_th (σ 133) x2 k) 20 0 with
      | none =>
        refine ⟨3, 0, f, σ, qth σ 3, qL_at_3 f ?_, ?_, qth_8 _ _, fun q => absurd q (by decide), qth_i hI 3⟩
        · unfold X6_at
          rw [qc_hasStand hR, qs, c, if_neg (by decide), if_neg c2.1, if_pos c2.2, qc_stayAt hR hs0, qs, c3]
          rfl
        · unfold X7_at_
          rw [qd_isStand hV, qs, c, if_neg (by decide), qd_in, qs, m2, if_neg (by decide), qd_stayAt hV hs0, qs, c3]
          show (if (0 : Int32) ≤ -1 then _ else _) = _
          rw [if_neg (by decide), qth_e, qth_3]
      | some j =>
        have hj := (qfi_some c3).2.1
        refine ⟨0, nI j, _, σ, qth σ 0, qL_at_r f (r := nI j) ?_, ?_, qth_8 _ _, fun _ => qup0 _ _, qth_i hI 0⟩
        · unfold X6_at
          rw [qc_hasStand hR, qs, c, if_neg (by decide), if_neg c2.1, if_pos c2.2, qc_stayAt hR hs0, qs, c3]
          show (if (0 : Int32) ≤ nI j then _ else _) = _
          rw [if_pos (nI_pos' (by omega))]
        · unfold X7_at_
          rw [qd_isStand hV, qs, c, if_neg (by decide), qd_in, qs, m2, if_neg (by decide), qd_stayAt hV hs0, qs, c3]
          show (if (0 : Int32) ≤ nI j then _ else _) = _
          rw [if_pos (nI_pos' (by omega)), qth_e, qth_y, qd_stayAt hV0 hs0, qs, qth_133, c3]
    · have m2 : (decide (0 ≤ x2) && decide (x2 ≤ 1440)) = false := by rw [Bool.eq_false_iff]; exact fun q => c2 ((q_day x2).mp q)
      refine ⟨2, 0, f, σ, qth σ 2, qL_at_2 f ?_, ?_, qth_8 _ _, fun q => absurd q (by decide), qth_i hI 2⟩
      · unfold X6_at
        rw [qc_hasStand hR, qs, c, if_neg (by decide)]
        by_cases c3 : x2 < 0
        · rw [if_pos c3]
        · rw [if_neg c3, if_neg (fun q => c2 ⟨c3, q⟩)]
      · unfold X7_at_
        rw [qd_isStand hV, qs, c, if_neg (by decide), qd_in, qs, m2, if_pos qb_f, qth_e, qth_2]
theorem qo_gap : o_gap qi := by
  intro σ hI f x1 x2
  have hV := qi_V hI
  have hR := qi_R hI
  have h8 := qv_n8 hV
  cases c : ib x1 (qs_n (σ 133)) with
  | false =>
    refine ⟨1, 0, f, σ, qth σ 1, qL_gap_1 f ?_, ?_, qth_8 _ _, fun q => absurd q (by decide), qth_i hI 1⟩
    · unfold X6_gap
      rw [qc_hasStand hR, qs, c, if_pos qb_f]
    · unfold X7_gap
      rw [qd_isStand hV, qs, c, if_pos qb_f, qth_e, qth_8, if_pos (by decide)]
  | true =>
    obtain ⟨s, hs, rfl⟩ := qi_of c
    have hV0 := qth_V hV 0
    have hs0 : s < 8 := by omega
    by_cases c2 : ¬ x2 < 0 ∧ x2 ≤ 1440
    · have m2 := (q_day x2).mpr c2
      refine ⟨0, qs_gap (σ 133) s x2, _, σ, qth σ 0, qL_gap_r f (r := qs_gap (σ 133) s x2) ?_, ?_, qth_8 _ _, fun _ => qup0 _ _, qth_i hI 0⟩
      · unfold X6_gap
        rw [qc_hasStand hR, qs, c, if_neg (by decide), if_neg c2.1, if_pos c2.2, qc_freeFrom hR hs0, qs]
      · unfold X7_gap
        rw [qd_isStand hV, qs, c, if_neg (by decide), qd_in, qs, m2, if_neg (by decide), qth_e, qth_8, if_neg (by decide), qd_stayAt hV0 hs0, qs, qth_133]
        unfold qs_gap
        cases c3 : qfi (fun k => qs_os (σ 133) s k && qs_th (σ 133) x2 k) 20 0 with
        | none =>
          show (if (-1 : Int32) < 0 then _ else _) = _
          rw [if_pos (by decide), qd_gapl hV0 hs0, qth_133]
        | some j =>
          have hj := (qfi_some c3).2.1
          show (if nI j < (0 : Int32) then _ else _) = _
          rw [if_neg (nI_pos (by omega))]
    · have m2 : (decide (0 ≤ x2) && decide (x2 ≤ 1440)) = false := by rw [Bool.eq_false_iff]; exact fun q => c2 ((q_day x2).mp q)
      refine ⟨2, 0, f, σ, qth σ 2, qL_gap_2 f ?_, ?_, qth_8 _ _, fun q => absurd q (by decide), qth_i hI 2⟩
      · unfold X6_gap
        rw [qc_hasStand hR, qs, c, if_neg (by decide)]
        by_cases c3 : x2 < 0
        · rw [if_pos c3]
        · rw [if_neg c3, if_neg (fun q => c2 ⟨c3, q⟩)]
      · unfold X7_gap
        rw [qd_isStand hV, qs, c, if_neg (by decide), qd_in, qs, m2, if_pos qb_f, qth_e, qth_8, if_pos (by decide)]
theorem qo_turn : o_turn qi := by
  intro σ hI f x1 x2
  have hV := qi_V hI
  have hR := qi_R hI
  have h10 := qv_t10 hV
  cases c : ib x1 (qs_t (σ 133)) with
  | false =>
    refine ⟨1, 0, f, σ, qth σ 1, qL_turn_1 f ?_, ?_, qth_8 _ _, fun q => absurd q (by decide), qth_i hI 1⟩
    · unfold X6_turn
      rw [qc_hasTurn hR, qs, c, if_pos qb_f]
    · unfold X7_turn
      rw [qd_isTurn hV, qs, c, if_pos qb_f, qth_e, qth_1]
  | true =>
    obtain ⟨t, ht, rfl⟩ := qi_of c
    have hV0 := qth_V hV 0
    by_cases e7 : ∀ j, j ≤ 5 → x2 ≠ nI j
    · refine ⟨2, 0, f, σ, qth σ 2, qL_turn_2 f ?_, ?_, qth_8 _ _, fun q => absurd q (by decide), qth_i hI 2⟩
      · unfold X6_turn
        rw [qc_hasTurn hR, qs, c, if_neg (by decide), if_neg (show ¬ x2 = 0 from e7 0 (by decide)), if_neg (show ¬ x2 = 1 from e7 1 (by decide)), if_neg (show ¬ x2 = 2 from e7 2 (by decide)), if_neg (show ¬ x2 = 3 from e7 3 (by decide)), if_neg (show ¬ x2 = 4 from e7 4 (by decide)), if_neg (show ¬ x2 = 5 from e7 5 (by decide))]
      · unfold X7_turn
        rw [qd_isTurn hV, qs, c, if_neg (by decide), qd_in, qs, show (5 : Int32) = nI 5 from rfl, q_nin (by decide) e7, if_pos qb_f, qth_e, qth_2]
    · have main : ∃ r, X6_turn σ (nI t) x2 = some (.inr r, σ) ∧ X7_turn σ (nI t) x2 = some (r, qth σ 0) := by
        have e8 : ∃ j : Nat, j ≤ 5 ∧ x2 = nI j := by
          refine Classical.byContradiction (fun q => e7 (fun j hj e => q ⟨j, hj, e⟩))
        obtain ⟨j, hj, rfl⟩ := e8
        unfold X6_turn X7_turn
        have hj6 : (decide (0 ≤ nI j) && decide (nI j ≤ 5)) = true := by
          rw [decide_eq_true (nI_pos' (by omega)), decide_eq_true (show nI j ≤ 5 from nI_le (b := 5) hj (by decide))]; rfl
        rw [qc_hasTurn hR, qs, qd_isTurn hV, qs, c, if_neg (show ¬ qb true = 0 by decide), if_neg (show ¬ qb true = 0 by decide), qd_in, qs, hj6, if_neg (show ¬ qb true = 0 by decide), qth_e, qth_y]
        rcases (show j = 0 ∨ j = 1 ∨ j = 2 ∨ j = 3 ∨ j = 4 ∨ j = 5 by omega) with rfl | rfl | rfl | rfl | rfl | rfl
        · rw [if_pos (by decide), if_neg (by decide), qg_i (by omega) (by decide), qk_c (by omega), qd_at, qs, nI_add, qg_i (by omega) (by decide), qk_c (by omega), qth_133]
          exact ⟨_, by rw [qr_sz hR ht], by rw [show 92 + 7 * t + 0 = 92 + 7 * t by omega]⟩
        · rw [if_neg (by decide), if_pos (by decide), if_neg (by decide), qg_i (by omega) (by decide), qk_c (by omega), qd_at, qs, nI_add, qg_i (by omega) (by decide), qk_c (by omega), qth_133]
          exact ⟨_, by rw [qr_ar hR ht], by rw [show 92 + 7 * t + 1 = 93 + 7 * t by omega]⟩
        · rw [if_neg (by decide), if_neg (by decide), if_pos (by decide), if_neg (by decide), qg_i (by omega) (by decide), qk_c (by omega), qd_at, qs, nI_add, qg_i (by omega) (by decide), qk_c (by omega), qth_133]
          exact ⟨_, by rw [qr_dp hR ht], by rw [show 92 + 7 * t + 2 = 94 + 7 * t by omega]⟩
        · rw [if_neg (by decide), if_neg (by decide), if_neg (by decide), if_pos (by decide), if_neg (by decide), qg_i (by omega) (by decide), qk_c (by omega), qd_at, qs, nI_add, qg_i (by omega) (by decide), qk_c (by omega), qth_133]
          exact ⟨_, by rw [qr_wt hR ht], by rw [show 92 + 7 * t + 3 = 95 + 7 * t by omega]⟩
        · rw [if_neg (by decide), if_neg (by decide), if_neg (by decide), if_neg (by decide), if_pos (by decide), if_neg (by decide), qg_i (by omega) (by decide), qk_c (by omega), qd_at, qs, nI_add, qg_i (by omega) (by decide), qk_c (by omega), qth_133]
          exact ⟨_, by rw [qr_tw hR ht], by rw [show 92 + 7 * t + 4 = 96 + 7 * t by omega]⟩
        · rw [if_neg (by decide), if_neg (by decide), if_neg (by decide), if_neg (by decide), if_neg (by decide), if_pos (by decide), if_pos (by decide), qc_costOfTurn hR ht, qs, qd_costOfTurn hV0 (by rw [qth_133]; exact ht), qs, qth_133]
          exact ⟨_, rfl, rfl⟩
      obtain ⟨r, m1, m2⟩ := main
      exact ⟨0, r, _, σ, qth σ 0, qL_turn_r f m1, m2, qth_8 _ _, fun _ => qup0 _ _, qth_i hI 0⟩
theorem qo_ofStay : o_ofStay qi := by
  intro σ hI f x1 x2 x3
  have hV := qi_V hI
  have hR := qi_R hI
  have h10 := qv_t10 hV
  cases c : qs_st (σ 133) x1 x2 with
  | false =>
    refine ⟨1, 0, f, σ, qth σ 1, qL_ofStay_1 f ?_, ?_, qth_8 _ _, fun q => absurd q (by decide), qth_i hI 1⟩
    · unfold X6_ofStay
      rw [qc_hasStay hR, qs, c, if_pos qb_f]
    · unfold X7_ofStay
      rw [qd_isStay_ hV, qs, c, if_pos qb_f, qth_e, qth_1]
  | true =>
    obtain ⟨t, e, rfl, rfl, he, ht, hk⟩ := qs_st_of hV c
    have hk20 : 2 * t + e < 20 := by omega
    have hV0 := qth_V hV 0
    by_cases e7 : ∀ j, j ≤ 5 → x3 ≠ nI j
    · refine ⟨2, 0, f, σ, qth σ 2, qL_ofStay_2 f ?_, ?_, qth_8 _ _, fun q => absurd q (by decide), qth_i hI 2⟩
      · unfold X6_ofStay
        rw [qc_hasStay hR, qs, c, if_neg (by decide), if_neg (show ¬ x3 = 0 from e7 0 (by decide)), if_neg (show ¬ x3 = 1 from e7 1 (by decide)), if_neg (show ¬ x3 = 2 from e7 2 (by decide)), if_neg (show ¬ x3 = 3 from e7 3 (by decide)), if_neg (show ¬ x3 = 4 from e7 4 (by decide)), if_neg (show ¬ x3 = 5 from e7 5 (by decide))]
      · unfold X7_ofStay
        rw [qd_isStay_ hV, qs, c, if_neg (by decide), qd_in, qs, show (5 : Int32) = nI 5 from rfl, q_nin (by decide) e7, if_pos qb_f, qth_e, qth_2]
    · have main : ∃ r, X6_ofStay σ (nI t) (nI e) x3 = some (.inr r, σ) ∧ X7_ofStay σ (nI t) (nI e) x3 = some (r, qth σ 0) := by
        have e8 : ∃ j : Nat, j ≤ 5 ∧ x3 = nI j := by
          refine Classical.byContradiction (fun q => e7 (fun j hj e => q ⟨j, hj, e⟩))
        obtain ⟨j, hj, rfl⟩ := e8
        unfold X6_ofStay X7_ofStay
        have hj6 : (decide (0 ≤ nI j) && decide (nI j ≤ 5)) = true := by
          rw [decide_eq_true (nI_pos' (by omega)), decide_eq_true (show nI j ≤ 5 from nI_le (b := 5) hj (by decide))]; rfl
        rw [qc_hasStay hR, qs, qd_isStay_ hV, qs, c, if_neg (show ¬ qb true = 0 by decide), if_neg (show ¬ qb true = 0 by decide), qd_in, qs, hj6, if_neg (show ¬ qb true = 0 by decide), qth_e, qth_y, qk_st]
        rcases (show j = 0 ∨ j = 1 ∨ j = 2 ∨ j = 3 ∨ j = 4 ∨ j = 5 by omega) with rfl | rfl | rfl | rfl | rfl | rfl
        · rw [if_pos (by decide), if_pos (by decide), qg_i hk20 (by decide), qk_c (by omega), qd_from hk20, qs, qth_133]
          exact ⟨_, by rw [qr_fr hR hk], rfl⟩
        · rw [if_neg (by decide), if_pos (by decide), if_neg (by decide), if_pos (by decide), qg_i hk20 (by decide), qk_c (by omega), qd_to hk20, qs, qth_133]
          exact ⟨_, by rw [qr_to hR hk], rfl⟩
        · rw [if_neg (by decide), if_neg (by decide), if_pos (by decide), if_neg (by decide), if_neg (by decide), if_pos (by decide), qg_i hk20 (by decide), qk_c (by omega), qd_on hk20, qs, qth_133]
          exact ⟨_, by rw [qr_ons hR hk], rfl⟩
        · rw [if_neg (by decide), if_neg (by decide), if_neg (by decide), if_pos (by decide), if_neg (by decide), if_neg (by decide), if_neg (by decide), if_pos (by decide), qc_costOfStay hR hk, qs, qd_costOf hV0 (by rw [qth_133]; exact qv_is hk), qs, qth_133]
          exact ⟨_, rfl, rfl⟩
        · rw [if_neg (by decide), if_neg (by decide), if_neg (by decide), if_neg (by decide), if_pos (by decide), if_neg (by decide), if_neg (by decide), if_neg (by decide), if_neg (by decide), if_pos (by decide), qc_conflictsOf hR hk20, qs, qd_conflictsOf hV0 hk20, qs, qth_133]
          exact ⟨_, rfl, rfl⟩
        · rw [if_neg (by decide), if_neg (by decide), if_neg (by decide), if_neg (by decide), if_neg (by decide), if_pos (by decide), if_neg (by decide), if_neg (by decide), if_neg (by decide), if_neg (by decide), if_neg (by decide), qc_isHindered hR hk20, qs, qb_if, qd_isHindered hV0 hk20, qs, qb_if, qth_133]
          cases qs_hi (σ 133) (2 * t + e)
          · exact ⟨0, rfl, rfl⟩
          · exact ⟨1, rfl, rfl⟩
      obtain ⟨r, m1, m2⟩ := main
      exact ⟨0, r, _, σ, qth σ 0, qL_ofStay_r f m1, m2, qth_8 _ _, fun _ => qup0 _ _, qth_i hI 0⟩
theorem qd_isPlace {σ : gS} (h : qs_V (σ 133)) (x1 x2 x3 : Int32) : X7_isPlace σ x1 x2 x3 = some (qb (qs_st (σ 133) x1 x2 && ib x3 (qs_n (σ 133)))) := by
  unfold X7_isPlace
  rw [qd_isStay_ h, qs, qb_if, qd_isStand h, qs, qb_if]
  cases qs_st (σ 133) x1 x2 <;> cases ib x3 (qs_n (σ 133)) <;> rfl
theorem qo_whyNot : o_whyNot qi := by
  intro σ hI f x1 x2 x3
  have hV := qi_V hI
  have hR := qi_R hI
  have h10 := qv_t10 hV
  have h8 := qv_n8 hV
  cases c : (qs_st (σ 133) x1 x2 && ib x3 (qs_n (σ 133))) with
  | false =>
    refine ⟨1, 0, f, σ, qth σ 1, qL_whyNot_1 f ?_, ?_, qth_8 _ _, fun q => absurd q (by decide), qth_i hI 1⟩
    · unfold X6_whyNot
      rw [qc_hasStay hR, qs, qb_if, qc_hasStand hR, qs, qb_if]
      cases c1 : qs_st (σ 133) x1 x2 with
      | false => rfl
      | true =>
        rw [c1, Bool.true_and] at c
        rw [c]; rfl
    · unfold X7_whyNot
      rw [qd_isPlace hV, qs, c, if_pos qb_f, qth_e, qth_1]
  | true =>
    simp only [Bool.and_eq_true] at c
    obtain ⟨c1, c2⟩ := c
    obtain ⟨t, e, rfl, rfl, he, ht, hk⟩ := qs_st_of hV c1
    obtain ⟨s, hs, rfl⟩ := qi_of c2
    have hV0 := qth_V hV 0
    refine ⟨0, nI (qs_why (σ 133) (2 * t + e) s), _, σ, qth σ 0, qL_whyNot_r f (r := nI (qs_why (σ 133) (2 * t + e) s)) ?_, ?_, qth_8 _ _, fun _ => qup0 _ _, qth_i hI 0⟩
    · unfold X6_whyNot
      rw [qc_hasStay hR, qs, c1, if_neg (by decide), qc_hasStand hR, qs, c2, if_neg (by decide), qk_st, qc_refusal hR hk hs, qs]
    · unfold X7_whyNot
      rw [qd_isPlace hV, qs, c1, c2, if_neg (by decide), qth_e, qth_y, qk_st, qd_why hV0 (by rw [qth_133]; exact hk) (by rw [qth_133]; exact hs), qs, qth_133]
theorem qo_options : o_options qi := by
  intro σ hI f x1 x2
  have hV := qi_V hI
  have hR := qi_R hI
  cases c : qs_st (σ 133) x1 x2 with
  | false =>
    refine ⟨1, 0, f, σ, qth σ 1, qL_options_1 f ?_, ?_, qth_8 _ _, fun q => absurd q (by decide), qth_i hI 1⟩
    · unfold X6_options
      rw [qc_hasStay hR, qs, c, if_pos qb_f]
    · unfold X7_options
      rw [qd_isStay_ hV, qs, c, if_pos qb_f, qth_e, qth_1]
  | true =>
    obtain ⟨t, e, rfl, rfl, he, ht, hk⟩ := qs_st_of hV c
    have hV0 := qth_V hV 0
    refine ⟨0, nI (qm (qs_n (σ 133)) (qs_opt (σ 133) (2 * t + e))), _, σ, qth σ 0, qL_options_r f (r := nI (qm (qs_n (σ 133)) (qs_opt (σ 133) (2 * t + e)))) ?_, ?_, qth_8 _ _, fun _ => qup0 _ _, qth_i hI 0⟩
    · unfold X6_options
      rw [qc_hasStay hR, qs, c, if_neg (by decide), qk_st, qc_standsFor hR hk, qs]
    · unfold X7_options
      rw [qd_isStay_ hV, qs, c, if_neg (by decide), qth_e, qth_y, qk_st, qd_optionsOf hV0 (by rw [qth_133]; exact hk), qs, qth_133]
theorem qo_cheapest : o_cheapest qi := by
  intro σ hI f x1 x2
  have hV := qi_V hI
  have hR := qi_R hI
  have h8 := qv_n8 hV
  cases c : qs_st (σ 133) x1 x2 with
  | false =>
    refine ⟨1, 0, f, σ, qth σ 1, qL_cheapest_1 f ?_, ?_, qth_8 _ _, fun q => absurd q (by decide), qth_i hI 1⟩
    · unfold X6_cheapest
      rw [qc_hasStay hR, qs, c, if_pos qb_f]
    · unfold X7_cheapest
      rw [qd_isStay_ hV, qs, c, if_pos qb_f, qth_e, qth_1]
  | true =>
    obtain ⟨t, e, rfl, rfl, he, ht, hk⟩ := qs_st_of hV c
    have hV0 := qth_V hV 0
    cases c2 : qs_ch (σ 133) (2 * t + e) with
    | none =>
      refine ⟨2, 0, f, σ, qth σ 2, qL_cheapest_2 f ?_, ?_, qth_8 _ _, fun q => absurd q (by decide), qth_i hI 2⟩
      · unfold X6_cheapest
        rw [qc_hasStay hR, qs, c, if_neg (by decide), qk_st, qc_cheapestFor hR hk, qs, c2]
        rfl
      · unfold X7_cheapest
        rw [qd_isStay_ hV, qs, c, if_neg (by decide), qk_st, qd_cheapestOf hV hk, qs, c2]
        show (if (0 : Int32) ≤ -1 then _ else _) = _
        rw [if_neg (by decide), qth_e, qth_2]
    | some j =>
      have hj := (qs_chi_k c2).1
      refine ⟨0, nI j, _, σ, qth σ 0, qL_cheapest_r f (r := nI j) ?_, ?_, qth_8 _ _, fun _ => qup0 _ _, qth_i hI 0⟩
      · unfold X6_cheapest
        rw [qc_hasStay hR, qs, c, if_neg (by decide), qk_st, qc_cheapestFor hR hk, qs, c2]
        show (if (0 : Int32) ≤ nI j then _ else _) = _
        rw [if_pos (nI_pos' (by omega))]; rfl
      · unfold X7_cheapest
        rw [qd_isStay_ hV, qs, c, if_neg (by decide), qk_st, qd_cheapestOf hV hk, qs, c2]
        show (if (0 : Int32) ≤ nI j then _ else _) = _
        rw [if_pos (nI_pos' (by omega)), qth_e, qth_y, qd_cheapestOf hV0 (by rw [qth_133]; exact hk), qs, qth_133, c2]
        rfl
