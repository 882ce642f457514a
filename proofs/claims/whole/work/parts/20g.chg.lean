/-! ===== calls that change: both sides remember ===== -/
theorem qrow_up (σ : gS) (j : Nat) (v : Int32) : g_up σ 133 j v = g_row σ 133 (qu1 (σ 133) j v) := by
  funext a x
  unfold g_up g_row qu1
  by_cases ha : a = 133
  · subst ha
    by_cases hx : x = j
    · rw [if_pos ⟨rfl, hx⟩, if_pos rfl, if_pos hx]
    · rw [if_neg (fun q => hx q.2), if_pos rfl, if_neg hx]
  · rw [if_neg (fun q => ha q.1), if_neg ha]
theorem qrow_up2 (σ : gS) (M : Nat → Int32) (j : Nat) (v : Int32) : g_up (g_row σ 133 M) 133 j v = g_row σ 133 (qu1 M j v) := by
  funext a x
  unfold g_up g_row qu1
  by_cases ha : a = 133
  · subst ha
    by_cases hx : x = j
    · rw [if_pos ⟨rfl, hx⟩, if_pos rfl, if_pos hx]
    · rw [if_neg (fun q => hx q.2), if_pos rfl, if_pos rfl, if_neg hx]
  · rw [if_neg (fun q => ha q.1), if_neg ha, if_neg ha]
theorem qrow_row (σ : gS) (i : Nat) (f f2 : Nat → Int32) : g_row (g_row σ i f) i f2 = g_row σ i f2 := by
  funext a x
  unfold g_row
  by_cases ha : a = i
  · rw [if_pos ha, if_pos ha]
  · rw [if_neg ha, if_neg ha, if_neg ha]
theorem qrow_self (σ : gS) (i : Nat) : g_row σ i (σ i) = σ := by
  funext a x
  unfold g_row
  by_cases ha : a = i
  · rw [if_pos ha, ha]
  · rw [if_neg ha]
/-- the first kind: the second program keeps and remembers, and then changes -/
theorem q_rem {σ : gS} (hI : qi σ) : ∃ σ1, X4_remember σ 24 = some σ1 ∧ (∀ a, a ≠ 2 → (a < 60 ∨ 132 ≤ a) → σ1 a = σ a) ∧
    (∀ σ1' : gS, (∀ a, (a < 24 ∨ 36 ≤ a) → σ1' a = σ1 a) → ∃ σ2, X7_changes (qth σ1' 0) = some σ2 ∧ (∀ a, a ≠ 132 → a ≠ 135 → a ≠ 137 → σ2 a = σ1' a) ∧ σ2 133 = σ 133 ∧ (∀ M', g_row σ2 133 M' 132 8 = 0) ∧ ∀ M', qcut M' = M' → qr_R (qr_b σ1' 24) M' → qi (g_row σ2 133 M')) ∧
    (∀ (σ1' : gS) (M' : Nat → Int32), (∀ a, (a < 24 ∨ 36 ≤ a) → σ1' a = σ1 a) → ∃ σ2, X7_change (qth (g_row (qks σ1') 133 M') 0) = some σ2 ∧ σ2 133 = M' ∧ σ2 132 8 = 0 ∧ (qcut M' = M' → qr_R (qr_b σ1' 24) M' → qi σ2)) := by
  have hR := qi_R hI
  have hcut : qcut (σ 133) = σ 133 := hI.1.2
  obtain ⟨ms, c, hC, hM⟩ := hI.2.1
  obtain ⟨σ1, r1, r2, r3⟩ := qc_remember hC hR
  refine ⟨σ1, r1, r2, fun σ1' ho => ?_, fun σ1' M' ho => ?_⟩
  · have e133 : (qth σ1' 0) 133 = σ 133 := by rw [qth_133, ho 133 (by decide), r2 133 (by decide) (by decide)]
    have hM2 : qh_M (qth σ1' 0) ms c := qh_Mc hM (by rw [qth_j _ _ (by decide), ho 132 (by decide), r2 132 (by decide) (by decide)]) (by rw [qth_a _ _ (by decide), ho 137 (by decide), r2 137 (by decide) (by decide)])
    obtain ⟨σ2, d1, d2, d3, d4⟩ := qd_changes hC.1 hM2 (by rw [e133, hcut])
    rw [e133] at d4
    have o : ∀ a, a ≠ 132 → a ≠ 135 → a ≠ 137 → σ2 a = σ1' a := fun a p q r => by rw [d2 a p q r, qth_a _ _ p]
    refine ⟨σ2, d1, o, ?_, fun M' => ?_, fun M' m1 m2 => ?_⟩
    · rw [d2 133 (by decide) (by decide) (by decide), e133]
    · rw [qw_a _ _ (by decide), d3 8 (by decide), qth_8]
    · refine qi_mut (ms := ms) (σ1 := σ1') (ms' := qps ms c (σ 133)) (c' := qpc c) hI (fun a p q => ?_) (qh_Cc r3 (fun a p q => ho a (by omega)) (ho 2 (by decide))) (by rw [qw_at]; exact m2) (by rw [qw_at]; exact m1) (fun a p => ?_) (fun j p q => ?_) (qh_Mc d4 (by rw [qw_a _ _ (by decide)]) (qw_a _ _ (by decide)))
      · rw [ho a (by omega), r2 a p (by omega)]
      · rw [qw_a _ _ (by omega), o a (by omega) (by omega) (by omega)]
      · rw [qw_a _ _ (by decide), d3 j p, qth_j _ _ q]
  · have t0 : ∀ a, a ≠ 132 → a ≠ 133 → a ≠ 135 → (qth (g_row (qks σ1') 133 M') 0) a = σ1' a := fun a p q r => by rw [qth_a _ _ p, qw_a _ _ q, qks_a _ r]
    have t2 : ∀ j, j ≠ 8 → (qth (g_row (qks σ1') 133 M') 0) 132 j = σ1' 132 j := fun j p => by rw [qth_j _ _ p, qw_a _ _ (by decide), qks_a _ (by decide)]
    have hM2 : qh_M (qth (g_row (qks σ1') 133 M') 0) ms c := qh_Mc hM (by rw [t2 6 (by decide), ho 132 (by decide), r2 132 (by decide) (by decide)]) (by rw [t0 137 (by decide) (by decide) (by decide), ho 137 (by decide), r2 137 (by decide) (by decide)])
    obtain ⟨σ2, d1, d2, d3, d4⟩ := qd_change hC.1 hM2
    have e135 : qcut ((qth (g_row (qks σ1') 133 M') 0) 135) = σ 133 := by
      rw [qth_a _ _ (by decide), qw_a _ _ (by decide), qks_cut, ho 133 (by decide), r2 133 (by decide) (by decide), hcut]
    rw [e135] at d4
    have e133 : σ2 133 = M' := by rw [d2 133 (by decide) (by decide), qth_133, qw_at]
    refine ⟨σ2, d1, e133, ?_, fun m1 m2 => ?_⟩
    · rw [d3 8 (by decide), qth_8]
    · refine qi_mut (ms := ms) (σ1 := σ1') (ms' := qps ms c (σ 133)) (c' := qpc c) hI (fun a p q => ?_) (qh_Cc r3 (fun a p q => ho a (by omega)) (ho 2 (by decide))) (by rw [e133]; exact m2) (by rw [e133]; exact m1) (fun a p => ?_) (fun j p q => ?_) d4
      · rw [ho a (by omega), r2 a p (by omega)]
      · rw [d2 a (by omega) (by omega), t0 a (by omega) (by omega) (by omega)]
      · rw [d3 j p, t2 j q]
theorem q_rb {σ σ1 : gS} (h : ∀ a, a ≠ 2 → (a < 60 ∨ 132 ≤ a) → σ1 a = σ a) : qr_b σ1 24 = qr_b σ 24 := qr_bc (fun a p q => h a (by omega) (by omega))
theorem qo_setBuffer : o_setBuffer qi := by
  intro σ hI f x1
  have hV := qi_V hI
  have hR := qi_R hI
  have e60 : (60 : Int32).toInt = 60 := rfl
  have e0 : (0 : Int32).toInt = 0 := rfl
  by_cases c : ¬ x1 < 0 ∧ x1 ≤ 60
  · have m2 : (decide (0 ≤ x1) && decide (x1 ≤ 60)) = true := by
      simp only [Bool.and_eq_true, decide_eq_true_eq]
      exact ⟨qf_nneg c.1, c.2⟩
    obtain ⟨σ1, r1, r2, r3, -⟩ := q_rem hI
    obtain ⟨σ2, s1, s2, s3, s4, s5⟩ := r3 (g_up σ1 24 2 x1) (fun a p => qu_a _ _ (by omega))
    refine ⟨0, σ 133 2, _, g_up σ1 24 2 x1, g_row σ2 133 (qu1 (σ 133) 2 x1), qL_setBuffer_r f (r := σ1 24 2) ?_, ?_, s4 _, fun _ => ?_, s5 _ (qu1_cut hI.1.2 (by decide) _) ?_⟩
    · unfold X6_setBuffer
      rw [if_neg c.1, if_pos c.2, r1, qs, ql]
    · unfold X7_setBuffer
      rw [qd_in, qs, m2, if_neg (show ¬ qb true = 0 by decide), qth_e, qth_y, s1, qs, ql, qk_z2, qrow_up, s3]
    · rw [qup0, r2 24 (by decide) (by decide), qr_2 hR]
    · have hR1 : qr_R (qr_b σ1 24) (σ 133) := by rw [q_rb r2]; exact hR
      have c1 := (qf_le _ _).mp (qf_nneg c.1)
      have c2 := (qf_le _ _).mp c.2
      rw [e0] at c1
      rw [e60] at c2
      obtain ⟨⟨a1, a2, a3, a4, a5, a6⟩, ⟨b0, b1, b2, b3⟩, w, b5, b6, b7, b8, b9⟩ := hR1
      have hne : ∀ j, j ≠ 2 → qu1 (σ 133) 2 x1 j = σ 133 j := fun j hj => qu1_ne _ _ hj
      have hA : ∀ r j, (r ≠ 0 ∨ j ≠ 2) → qr_b (g_up σ1 24 2 x1) 24 r j = qr_b σ1 24 r j := by
        intro r j hrj
        unfold qr_b
        by_cases hr : r < 12
        · rw [if_pos hr, if_pos hr]
          by_cases h0 : r = 0
          · subst h0
            exact qu_j _ _ (by omega)
          · rw [qu_a _ _ (by omega)]
        · rw [if_neg hr, if_neg hr]
      have hn : qs_n (qu1 (σ 133) 2 x1) = qs_n (σ 133) := by unfold qs_n; rw [hne 0 (by decide)]
      have ht : qs_t (qu1 (σ 133) 2 x1) = qs_t (σ 133) := by unfold qs_t; rw [hne 1 (by decide)]
      have his : ∀ k, qs_is (qu1 (σ 133) 2 x1) k = qs_is (σ 133) k := fun k => by unfold qs_is; rw [ht, hne _ (by omega)]
      have hon : ∀ k, qs_on (qu1 (σ 133) 2 x1) k = qs_on (σ 133) k := fun k => by unfold qs_on; rw [hne _ (by omega)]
      refine ⟨⟨?_, ?_, ?_, fun i hi => ?_, fun i j hi hj => ?_, fun i hi => ?_⟩, ⟨?_, ?_, ?_, ?_⟩, ?_, fun i hi => ?_, fun i j hi hj => ?_, fun i hi => ?_, fun k hk hs => ?_, fun k hk => ?_⟩
      · rw [hn, hne 0 (by decide)]; exact a1
      · rw [ht, hne 1 (by decide)]; exact a2
      · rw [qu1_at]; exact ⟨c1, c2⟩
      · rw [hn] at hi
        rw [hne _ (by omega), hne _ (by omega)]; exact a4 i hi
      · rw [hn]
        unfold qs_li
        rw [hne _ (by omega), hne _ (by omega)]; exact a5 i j hi hj
      · rw [ht] at hi
        unfold qs_T
        rw [hn, hne _ (by omega), hne _ (by omega), hne _ (by omega), hne _ (by omega), hne _ (by omega), hne _ (by omega)]; exact a6 i hi
      · rw [hA 0 0 (by decide), hne 0 (by decide)]; exact b0
      · rw [hA 0 1 (by decide), hne 1 (by decide)]; exact b1
      · rw [qu1_at]
        exact qu_at σ1 24 2 x1
      · rw [hA 0 3 (by decide), hne 3 (by decide)]; exact b3
      · obtain ⟨w, w1, w2, w3⟩ := w
        refine ⟨w, w1, by rw [hA 0 4 (by decide)]; exact w2, fun i hi => ?_⟩
        rw [hn] at hi
        rw [hne _ (by omega)]; exact w3 i hi
      · rw [hn] at hi
        rw [hA 1 i (Or.inl (by decide)), hA 2 i (Or.inl (by decide)), hne _ (by omega), hne _ (by omega)]; exact b5 i hi
      · rw [hn] at hi hj
        unfold qs_li
        rw [hA 3 _ (Or.inl (by decide)), hne _ (by omega)]; exact b6 i j hi hj
      · rw [ht] at hi
        rw [hA 4 i (Or.inl (by decide)), hA 5 i (Or.inl (by decide)), hA 6 i (Or.inl (by decide)), hA 7 i (Or.inl (by decide)), hA 8 i (Or.inl (by decide)), hne _ (by omega), hne _ (by omega), hne _ (by omega), hne _ (by omega), hne _ (by omega)]; exact b7 i hi
      · rw [his] at hs
        rw [hA 9 k (Or.inl (by decide)), hA 10 k (Or.inl (by decide))]
        unfold qs_fr qs_to
        rw [hne _ (by omega), hne _ (by omega), hne _ (by omega)]; exact b8 k hk hs
      · rw [hA 11 k (Or.inl (by decide))]
        unfold qs_io
        rw [his, hon]; exact b9 k hk
  · have m2 : (decide (0 ≤ x1) && decide (x1 ≤ 60)) = false := by
      rw [Bool.eq_false_iff]
      intro q
      simp only [Bool.and_eq_true, decide_eq_true_eq] at q
      exact c ⟨fun q2 => (qf_lt0 _).mp q2 q.1, q.2⟩
    refine ⟨1, 0, f, σ, qth σ 1, qL_setBuffer_1 f ?_, ?_, qth_8 _ _, fun q => absurd q (by decide), qth_i hI 1⟩
    · unfold X6_setBuffer
      by_cases c3 : x1 < 0
      · rw [if_pos c3]
      · rw [if_neg c3, if_neg (fun q => c ⟨c3, q⟩)]
    · unfold X7_setBuffer
      rw [qd_in, qs, m2, if_pos qb_f, qth_e, qth_1]
theorem qo_lift : o_lift qi := by
  intro σ hI f x1 x2
  have hV := qi_V hI
  have hR := qi_R hI
  have h8 := qv_n8 hV
  have e133k : (qks σ) 133 = σ 133 := qks_a σ (by decide)
  have hVk : qs_V ((qks σ) 133) := by rw [e133k]; exact hV
  have hIk : ∀ v, qi (qth (qks σ) v) := fun v => qth_i (qi_c hI (fun a p => qks_a σ (by omega)) (fun j p => by rw [qks_a σ (by decide)]) (by rw [qks_a σ (by decide)]) (fun j p => by rw [qks_a σ (by decide)])) v
  cases c : qs_st (σ 133) x1 x2 with
  | false =>
    refine ⟨1, 0, f, σ, qth (qks σ) 1, qL_lift_1 f ?_, ?_, qth_8 _ _, fun q => absurd q (by decide), hIk 1⟩
    · unfold X6_lift
      rw [qc_hasStay hR, qs, c, if_pos qb_f]
    · unfold X7_lift X7_doLift
      rw [qd_isStay_ hV, qs, c, if_pos qb_f, qks_eq, qs, qd_isStay_ hVk, qs, e133k, c, if_pos qb_f, qs, qth_e, qth_1]
  | true =>
    obtain ⟨t, e, rfl, rfl, he, ht, hk⟩ := qs_st_of hV c
    have hk20 := qv_k hV hk
    by_cases c2 : 0 ≤ qs_on (σ 133) (2 * t + e)
    · obtain ⟨σ1, r1, r2, -, r3⟩ := q_rem hI
      obtain ⟨σ2, s1, s2, s3, s4⟩ := r3 (g_up σ1 35 (2 * t + e) (-1)) (qs_pt (σ 133) (2 * t + e) (-1)) (fun a p => qu_a _ _ (by omega))
      have e1 : (g_up σ1 35 (2 * t + e) (-1)) 133 = σ 133 := by rw [qu_a _ _ (by decide), r2 133 (by decide) (by decide)]
      have e1k : (qks (g_up σ1 35 (2 * t + e) (-1))) 133 = σ 133 := by rw [qks_a _ (by decide), e1]
      have hV1 : qs_V ((g_up σ1 35 (2 * t + e) (-1)) 133) := by rw [e1]; exact hV
      have hV1k : qs_V ((qks (g_up σ1 35 (2 * t + e) (-1))) 133) := by rw [e1k]; exact hV
      refine ⟨0, qs_on (σ 133) (2 * t + e), _, g_up σ1 35 (2 * t + e) (-1), σ2, qL_lift_r f (r := qs_on (σ 133) (2 * t + e)) ?_, ?_, s3, fun _ => qup0 _ _, s4 ?_ ?_⟩
      · unfold X6_lift
        rw [qc_hasStay hR, qs, c, if_neg (by decide), qk_st, qg_i hk20 (by decide), qk_c (by omega), qr_ons hR hk, if_pos c2, r1, qs, ql]
      · have ep : qp (qks (g_up σ1 35 (2 * t + e) (-1))) (2 * t + e) (-1) = g_row (qks (g_up σ1 35 (2 * t + e) (-1))) 133 (qs_pt (σ 133) (2 * t + e) (-1)) := by
          unfold qp
          rw [qrow_up, e1k]; rfl
        unfold X7_lift X7_doLift
        rw [qd_isStay_ hV1, qs, e1, c, if_neg (show ¬ qb true = 0 by decide), qk_st, qd_on hk20, qs, e1, qks_eq, qs, qd_isStay_ hV1k, qs, e1k, c, if_neg (show ¬ qb true = 0 by decide), qd_on hk20, qs, e1k, if_pos c2, qd_put hk20, qs, qs, qth_e, qth_y, ep, s1, qs]
      · rw [qpt_qu1]
        exact qu1_cut hI.1.2 (by omega) _
      · have hR1 : qr_R (qr_b σ1 24) (σ 133) := by rw [q_rb r2]; exact hR
        exact qr_put hR1 hk (by decide) (by rw [show (-1 : Int32).toInt = -1 by decide]; omega)
    · refine ⟨2, 0, f, σ, qth (qks σ) 2, qL_lift_2 f ?_, ?_, qth_8 _ _, fun q => absurd q (by decide), hIk 2⟩
      · unfold X6_lift
        rw [qc_hasStay hR, qs, c, if_neg (by decide), qk_st, qg_i hk20 (by decide), qk_c (by omega), qr_ons hR hk, if_neg c2]
      · unfold X7_lift X7_doLift
        rw [qd_isStay_ hV, qs, c, if_neg (show ¬ qb true = 0 by decide), qk_st, qd_on hk20, qs, qks_eq, qs, qd_isStay_ hVk, qs, e133k, c, if_neg (show ¬ qb true = 0 by decide), qd_on hk20, qs, e133k, if_neg c2, qs, qth_e, qth_2]
theorem qo_place : o_place qi := by
  intro σ hI f x1 x2 x3
  have hV := qi_V hI
  have hR := qi_R hI
  have h8 := qv_n8 hV
  have e133k : (qks σ) 133 = σ 133 := qks_a σ (by decide)
  have hVk : qs_V ((qks σ) 133) := by rw [e133k]; exact hV
  have hIk : ∀ v, qi (qth (qks σ) v) := fun v => qth_i (qi_c hI (fun a p => qks_a σ (by omega)) (fun j p => by rw [qks_a σ (by decide)]) (by rw [qks_a σ (by decide)]) (fun j p => by rw [qks_a σ (by decide)])) v
  cases c : (qs_st (σ 133) x1 x2 && ib x3 (qs_n (σ 133))) with
  | false =>
    refine ⟨1, 0, f, σ, qth (qks σ) 1, qL_place_1 f ?_, ?_, qth_8 _ _, fun q => absurd q (by decide), hIk 1⟩
    · unfold X6_place
      rw [qc_hasStay hR, qs, qb_if, qc_hasStand hR, qs, qb_if]
      cases c1 : qs_st (σ 133) x1 x2 with
      | false => rw [if_neg (by decide)]
      | true =>
        rw [c1, Bool.true_and] at c
        rw [if_pos rfl, c, if_neg (by decide)]
    · unfold X7_place X7_doPlace
      rw [qd_isPlace hV, qs, c, if_pos qb_f, qks_eq, qs, qd_isPlace hVk, qs, e133k, c, if_pos qb_f, qs, qth_e, qth_1]
  | true =>
    have hc := c
    simp only [Bool.and_eq_true] at hc
    obtain ⟨c1, c2⟩ := hc
    obtain ⟨t, e, rfl, rfl, he, ht, hk⟩ := qs_st_of hV c1
    obtain ⟨s, hs, rfl⟩ := qi_of c2
    have hk20 := qv_k hV hk
    have hwl := qs_why5 (σ 133) (2 * t + e) s
    by_cases cw : qs_why (σ 133) (2 * t + e) s = 0
    · obtain ⟨σ1, r1, r2, -, r3⟩ := q_rem hI
      obtain ⟨σ2, s1, s2, s3, s4⟩ := r3 (g_up σ1 35 (2 * t + e) (nI s)) (qs_pt (σ 133) (2 * t + e) (nI s)) (fun a p => qu_a _ _ (by omega))
      have e1 : (g_up σ1 35 (2 * t + e) (nI s)) 133 = σ 133 := by rw [qu_a _ _ (by decide), r2 133 (by decide) (by decide)]
      have e1k : (qks (g_up σ1 35 (2 * t + e) (nI s))) 133 = σ 133 := by rw [qks_a _ (by decide), e1]
      have hV1 : qs_V ((g_up σ1 35 (2 * t + e) (nI s)) 133) := by rw [e1]; exact hV
      have hV1k : qs_V ((qks (g_up σ1 35 (2 * t + e) (nI s))) 133) := by rw [e1k]; exact hV
      refine ⟨0, qs_on (σ 133) (2 * t + e), _, g_up σ1 35 (2 * t + e) (nI s), σ2, qL_place_r f (r := σ1 35 (2 * t + e)) ?_, ?_, s3, fun _ => ?_, s4 ?_ ?_⟩
      · unfold X6_place
        rw [qc_hasStay hR, qs, c1, if_neg (by decide), qc_hasStand hR, qs, c2, if_neg (by decide), qk_st, qc_refusal hR hk hs, qs, cw, if_pos nI_0, r1, qs, qg_i hk20 (by decide), qk_c (by omega), ql]
      · have ep : qp (qks (g_up σ1 35 (2 * t + e) (nI s))) (2 * t + e) (nI s) = g_row (qks (g_up σ1 35 (2 * t + e) (nI s))) 133 (qs_pt (σ 133) (2 * t + e) (nI s)) := by
          unfold qp
          rw [qrow_up, e1k]; rfl
        unfold X7_place X7_doPlace
        rw [qd_isPlace hV1, qs, e1, c, if_neg (show ¬ qb true = 0 by decide), qk_st, qd_on hk20, qs, e1, qks_eq, qs, qd_isPlace hV1k, qs, e1k, c, if_neg (show ¬ qb true = 0 by decide), qd_why hV1k (by rw [e1k]; exact hk) (by rw [e1k]; exact hs), qs, e1k, cw, if_pos (show nI 0 ≤ 0 from by decide), qd_put hk20, qs, qs, qth_e, qth_y, ep, s1, qs]
      · rw [qup0, r2 35 (by decide) (by decide), qr_ons hR hk]
      · rw [qpt_qu1]
        exact qu1_cut hI.1.2 (by omega) _
      · have hR1 : qr_R (qr_b σ1 24) (σ 133) := by rw [q_rb r2]; exact hR
        exact qr_put hR1 hk (by rw [nI_toInt (by omega)]; omega) (by rw [nI_toInt (by omega)]; omega)
    · have e1 : (g_up σ 0 9 (nI (qs_why (σ 133) (2 * t + e) s))) 133 = σ 133 := qu_a _ _ (by decide)
      have e1k : (qks (g_up σ 0 9 (nI (qs_why (σ 133) (2 * t + e) s)))) 133 = σ 133 := by rw [qks_a _ (by decide), e1]
      have hV1 : qs_V ((g_up σ 0 9 (nI (qs_why (σ 133) (2 * t + e) s))) 133) := by rw [e1]; exact hV
      have hV1k : qs_V ((qks (g_up σ 0 9 (nI (qs_why (σ 133) (2 * t + e) s)))) 133) := by rw [e1k]; exact hV
      refine ⟨2, 0, f, g_up σ 0 9 (nI (qs_why (σ 133) (2 * t + e) s)), qth (g_up (qks (g_up σ 0 9 (nI (qs_why (σ 133) (2 * t + e) s)))) 132 7 (nI (qs_why (σ 133) (2 * t + e) s))) 2, qL_place_2 f ?_, ?_, qth_8 _ _, fun q => absurd q (by decide), qth_i ?_ 2⟩
      · unfold X6_place
        rw [qc_hasStay hR, qs, c1, if_neg (by decide), qc_hasStand hR, qs, c2, if_neg (by decide), qk_st, qc_refusal hR hk hs, qs, if_neg (fun q => cw ((qi_w0 _ hwl).mp q)), ql]
      · unfold X7_place X7_doPlace
        rw [qd_isPlace hV1, qs, e1, c, if_neg (show ¬ qb true = 0 by decide), qk_st, qd_on hk20, qs, e1, qks_eq, qs, qd_isPlace hV1k, qs, e1k, c, if_neg (show ¬ qb true = 0 by decide), qd_why hV1k (by rw [e1k]; exact hk) (by rw [e1k]; exact hs), qs, e1k, if_neg (nI_nle (by omega) (by omega)), ql, qs, qth_e, qth_2]
      · obtain ⟨a1, a2, a3, a4, a5⟩ := hI
        have o : ∀ a, a ≠ 0 → a ≠ 132 → a ≠ 135 → (g_up (qks (g_up σ 0 9 (nI (qs_why (σ 133) (2 * t + e) s)))) 132 7 (nI (qs_why (σ 133) (2 * t + e) s))) a = σ a := fun a p q r => by rw [qu_a _ _ q, qks_a _ r, qu_a _ _ p]
        have o2 : ∀ j, j ≠ 7 → (g_up (qks (g_up σ 0 9 (nI (qs_why (σ 133) (2 * t + e) s)))) 132 7 (nI (qs_why (σ 133) (2 * t + e) s))) 132 j = σ 132 j := fun j p => by rw [qu_j _ _ p, qks_a _ (by decide), qu_a _ _ (by decide)]
        have o0 : ∀ j, j ≠ 9 → (g_up (qks (g_up σ 0 9 (nI (qs_why (σ 133) (2 * t + e) s)))) 132 7 (nI (qs_why (σ 133) (2 * t + e) s))) 0 j = σ 0 j := fun j p => by rw [qu_a _ _ (by decide), qks_a _ (by decide), qu_j _ _ p]
        refine ⟨qi_1c a1 (fun a p q => o a (by omega) (by omega) (by omega)) (o 133 (by decide) (by decide) (by decide)), qi_2c a2 (fun a p q => o a (by omega) (by omega) (by omega)) (o 2 (by decide) (by decide) (by decide)) (o2 6 (by decide)) (o 137 (by decide) (by decide) (by decide)), qi_3c a3 (o0 8 (by decide)) (o2 4 (by decide)) (fun a p q => o a (by omega) (by omega) (by omega)) (o 136 (by decide) (by decide) (by decide)), ⟨?_, ?_⟩, qi_5c a5 (by rw [o 4 (by decide) (by decide) (by decide)]) (o2 12 (by decide)) (o 5 (by decide) (by decide) (by decide)) (o 140 (by decide) (by decide) (by decide))⟩
        · rw [qu_at, qu_a _ _ (by decide), qks_a _ (by decide), qu_at]
        · rw [o0 10 (by decide), o2 15 (by decide)]; exact a4.2
