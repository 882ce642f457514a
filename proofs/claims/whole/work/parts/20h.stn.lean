/-! ===== stands: opened, paired, added ===== -/
def qm_N (M M' : Nat → Int32) : Prop := (∀ j, 92 ≤ j → M' j = M j) ∧ M' 1 = M 1 ∧ qs_n M ≤ qs_n M'
theorem qmn_R {A A' : Nat → Nat → Int32} {M M' : Nat → Int32} (h : qr_R A M) (hm : qm_N M M') (hn : M' 0 = nI (qs_n M') ∧ qs_n M' ≤ 8) (h2 : 0 ≤ (M' 2).toInt ∧ (M' 2).toInt ≤ 60)
    (h4 : ∀ i, i < qs_n M' → (M' (4 + i) = 0 ∨ M' (4 + i) = 1 ∨ M' (4 + i) = 2) ∧ (M' (20 + i) = 0 ∨ M' (20 + i) = 1))
    (h5 : ∀ i j, i < 8 → j < 8 → qs_li M' i j = qs_li M' j i ∧ (qs_n M' ≤ i → qs_li M' i j = -1))
    (e : ∀ r, 4 ≤ r → r < 12 → A' r = A r) (e0 : A' 0 0 = M' 0) (e1 : A' 0 1 = A 0 1) (e2 : A' 0 2 = M' 2) (e3 : A' 0 3 = M' 3)
    (w : ∃ w : Nat, w < 256 ∧ A' 0 4 = nI w ∧ ∀ i, i < qs_n M' → M' (20 + i) = if w.testBit i then 1 else 0)
    (f1 : ∀ i, i < qs_n M' → A' 1 i = M' (4 + i) ∧ A' 2 i = M' (12 + i))
    (f3 : ∀ i j, i < qs_n M' → j < qs_n M' → A' 3 (i * 8 + j) = qs_li M' i j) : qr_R A' M' := by
  obtain ⟨m1, m2, m3⟩ := hm
  obtain ⟨⟨⟨a1, a2⟩, ⟨a3, a4⟩, a5, a6, a7, a8⟩, ⟨b0, b1, b2, b3⟩, bw, b5, b6, b7, b8, b9⟩ := h
  have ht : qs_t M' = qs_t M := by unfold qs_t; rw [m2]
  have his : ∀ k, qs_is M' k = qs_is M k := fun k => by unfold qs_is; rw [ht, m1 _ (by omega)]
  have hon : ∀ k, qs_on M' k = qs_on M k := fun k => by unfold qs_on; rw [m1 _ (by omega)]
  refine ⟨⟨hn, ⟨by rw [m2, ht]; exact a3, by rw [ht]; exact a4⟩, h2, h4, h5, fun i hi => ?_⟩, ⟨e0, by rw [e1, m2]; exact b1, e2, e3⟩, w, f1, f3, fun i hi => ?_, fun k hk hs => ?_, fun k hk => ?_⟩
  · rw [ht] at hi
    obtain ⟨c1, c2, c3, c4, c5, c6, c7, c8⟩ := a8 i hi
    unfold qs_T
    rw [m1 (93 + 7 * i) (by omega), m1 (94 + 7 * i) (by omega), m1 (95 + 7 * i) (by omega), m1 (96 + 7 * i) (by omega), m1 (97 + 7 * i) (by omega), m1 (98 + 7 * i) (by omega)]
    exact ⟨c1, c2, c3, c4, c5, ⟨c6.1, by omega⟩, ⟨c7.1, by omega⟩, c8⟩
  · rw [ht] at hi
    rw [e 4 (by decide) (by decide), e 5 (by decide) (by decide), e 6 (by decide) (by decide), e 7 (by decide) (by decide), e 8 (by decide) (by decide), m1 (92 + 7 * i) (by omega), m1 (93 + 7 * i) (by omega), m1 (94 + 7 * i) (by omega), m1 (95 + 7 * i) (by omega), m1 (96 + 7 * i) (by omega)]
    exact b7 i hi
  · rw [his] at hs
    unfold qs_fr qs_to
    rw [e 9 (by decide) (by decide), e 10 (by decide) (by decide), m1 (93 + 7 * (k / 2)) (by omega), m1 (94 + 7 * (k / 2)) (by omega), m1 (96 + 7 * (k / 2)) (by omega)]
    exact b8 k hk hs
  · unfold qs_io
    rw [e 11 (by decide) (by decide), his, hon]
    exact b9 k hk
theorem qb_row {σ : gS} {b r : Nat} (h : r < 12) : qr_b σ b r = σ (b + r) := if_pos h
theorem qo_setOpen : o_setOpen qi := by
  intro σ hI f x1 x2
  have hV := qi_V hI
  have hR := qi_R hI
  have h8 := qv_n8 hV
  generalize bx x2 = y
  cases c : ib x1 (qs_n (σ 133)) with
  | false =>
    refine ⟨1, 0, f, σ, qth σ 1, qL_setOpen_1 f ?_, ?_, qth_8 _ _, fun q => absurd q (by decide), qth_i hI 1⟩
    · unfold X6_setOpen
      rw [qc_hasStand hR, qs, c, if_pos qb_f]
    · unfold X7_setOpen
      rw [qd_isStand hV, qs, c, if_pos qb_f, qth_e, qth_1]
  | true =>
    obtain ⟨s, hs, rfl⟩ := qi_of c
    obtain ⟨w, w1, w2, w3⟩ := qr_4 hR
    obtain ⟨σ1, r1, r2, r3, -⟩ := q_rem hI
    have hR1 : qr_R (qr_b σ1 24) (σ 133) := by rw [q_rb r2]; exact hR
    have ew : w = qm 8 (fun i => w.testBit i) := qm_ext w1 (fun k hk => rfl)
    have e4 : σ1 24 4 = nI w := by rw [r2 24 (by decide) (by decide)]; exact w2
    have main : ∀ (v : Int32) (q : Nat → Bool), (v = 0 ∨ v = 1) → (v = if q s = true then 1 else 0) → (∀ i, i ≠ s → q i = w.testBit i) → ∃ σ2, X7_changes (qth (g_up σ1 24 4 (nI (qm 8 q))) 0) = some σ2 ∧ σ2 133 = σ 133 ∧ (∀ M', g_row σ2 133 M' 132 8 = 0) ∧ qi (g_row σ2 133 (qu1 (σ 133) (20 + s) v)) := by
      intro v q hv1 hv hq
      obtain ⟨σ2, s1, s2, s3, s4, s5⟩ := r3 (g_up σ1 24 4 (nI (qm 8 q))) (fun a p => qu_a _ _ (by omega))
      have hne : ∀ j, j ≠ 20 + s → qu1 (σ 133) (20 + s) v j = σ 133 j := fun j hj => qu1_ne _ _ hj
      have hn : qs_n (qu1 (σ 133) (20 + s) v) = qs_n (σ 133) := by unfold qs_n; rw [hne 0 (by omega)]
      have hA : ∀ r j, (r ≠ 0 ∨ j ≠ 4) → r < 12 → qr_b (g_up σ1 24 4 (nI (qm 8 q))) 24 r j = qr_b σ1 24 r j := by
        intro r j hrj hr
        rw [qb_row hr, qb_row hr]
        by_cases h0 : r = 0
        · subst h0
          exact qu_j _ _ (by omega)
        · rw [qu_a _ _ (by omega)]
      refine ⟨σ2, s1, s3, s4, s5 _ (qu1_cut hI.1.2 (by omega) _) ?_⟩
      have hli : ∀ i j, i < 8 → j < 8 → qs_li (qu1 (σ 133) (20 + s) v) i j = qs_li (σ 133) i j := fun i j hi hj => by unfold qs_li; rw [hne _ (by omega)]
      refine qmn_R hR1 ⟨fun j hj => hne j (by omega), hne 1 (by omega), by omega⟩ ⟨by rw [hn, hne 0 (by omega)]; exact qv_n hV, by omega⟩ (by rw [hne 2 (by omega)]; exact hV.2.2.1) (fun i hi => ?_) (fun i j hi hj => ?_) (fun r p1 p2 => ?_) ?_ ?_ ?_ ?_ ⟨qm 8 q, qm_lt 8 q, ?_, fun i hi => ?_⟩ (fun i hi => ?_) (fun i j hi hj => ?_)
      · rw [hn] at hi
        rw [hne (4 + i) (by omega)]
        refine ⟨qv_kd hV hi, ?_⟩
        by_cases ei : i = s
        · subst ei
          rw [qu1_at]; exact hv1
        · rw [hne _ (by omega)]; exact qv_op hV hi
      · rw [hn, hli i j hi hj, hli j i hj hi]
        exact hV.2.2.2.2.1 i j hi hj
      · funext j
        exact hA r j (Or.inl (by omega)) p2
      · rw [hA 0 0 (Or.inr (by decide)) (by decide), hne 0 (by omega)]; exact hR1.2.1.1
      · exact hA 0 1 (Or.inr (by decide)) (by decide)
      · rw [hA 0 2 (Or.inr (by decide)) (by decide), hne 2 (by omega)]; exact hR1.2.1.2.2.1
      · rw [hA 0 3 (Or.inr (by decide)) (by decide), hne 3 (by omega)]; exact hR1.2.1.2.2.2
      · rw [qb_row (by decide)]
        exact qu_at σ1 24 4 _
      · rw [hn] at hi
        rw [qm_in (by omega)]
        by_cases ei : i = s
        · subst ei
          rw [qu1_at]; exact hv
        · rw [hne _ (by omega), hq i ei]; exact w3 i hi
      · rw [hn] at hi
        rw [hA 1 i (Or.inl (by decide)) (by decide), hA 2 i (Or.inl (by decide)) (by decide), hne _ (by omega), hne _ (by omega)]
        exact hR1.2.2.2.1 i hi
      · rw [hn] at hi hj
        rw [hA 3 _ (Or.inl (by decide)) (by decide), hli i j (by omega) (by omega)]
        exact hR1.2.2.2.2.1 i j hi hj
    have e133 : ∀ z, (g_up σ1 24 4 z) 133 = σ 133 := fun z => by rw [qu_a _ _ (by decide), r2 133 (by decide) (by decide)]
    have hV1 : ∀ z, qs_V ((g_up σ1 24 4 z) 133) := fun z => by rw [e133]; exact hV
    have hop : ((σ 133 (20 + s) = 1 ∧ qb (!decide (σ 133 (20 + s) = 0)) = 1) ∨ (¬ σ 133 (20 + s) = 1 ∧ qb (!decide (σ 133 (20 + s) = 0)) = 0)) := by
      rcases qv_op hV hs with q | q
      · rw [q]; exact Or.inr ⟨by decide, by decide⟩
      · rw [q]; exact Or.inl ⟨by decide, by decide⟩
    have hop1 : X0_isOpened σ1 24 (nI s) = some (qb (!decide (σ 133 (20 + s) = 0))) := qc_isOpened hR1 hs
    by_cases cy : y = 0
    · obtain ⟨σ2, s1, s2, s3, s4⟩ := main 0 (fun i => w.testBit i && !(decide (i = s))) (Or.inl rfl) (by simp) (fun i hi => by simp [hi])
      refine ⟨0, qb (!decide (σ 133 (20 + s) = 0)), _, _, _, qL_setOpen_r f (r := qb (!decide (σ 133 (20 + s) = 0))) (σ1 := g_up σ1 24 4 (nI (qm 8 (fun i => w.testBit i && !(decide (i = s)))))) ?_, ?_, s3 _, fun _ => qup0 _ _, s4⟩
      · unfold X6_setOpen X0_changeOpen
        rw [qc_hasStand hR, qs, c, if_neg (show ¬ qb true = 0 by decide), r1, qs, hop1, qs, if_pos cy, ql, e4]
        have ed : nI w &&& (((1 : Int32) <<< (nI s &&& 31)) ^^^ (-1 : Int32)) = nI (qm 8 (fun i => w.testBit i && !(decide (i = s)))) := by
          rw [ew]
          exact (qm_del (by decide) (by omega) _).trans (by rw [← ew])
        rw [ed, qg (qb_bz _), qs, qg (qb_bz _)]
      · unfold X7_setOpen
        rw [qd_isStand (hV1 _), qs, e133, c, if_neg (show ¬ qb true = 0 by decide), qth_e, qth_y, s1, qs, qk_20p, qg_i (by omega) (by decide), qk_c (by omega), s2, if_pos cy, if_pos cy, ql, ql, qrow_up, s2]
        rcases hop with ⟨p1, p2⟩ | ⟨p1, p2⟩
        · rw [if_pos p1, p2]
        · rw [if_neg p1, p2]
    · obtain ⟨σ2, s1, s2, s3, s4⟩ := main 1 (fun i => w.testBit i || decide (i = s)) (Or.inr rfl) (by simp) (fun i hi => by simp [hi])
      refine ⟨0, qb (!decide (σ 133 (20 + s) = 0)), _, _, _, qL_setOpen_r f (r := qb (!decide (σ 133 (20 + s) = 0))) (σ1 := g_up σ1 24 4 (nI (qm 8 (fun i => w.testBit i || decide (i = s))))) ?_, ?_, s3 _, fun _ => qup0 _ _, s4⟩
      · unfold X6_setOpen X0_changeOpen
        rw [qc_hasStand hR, qs, c, if_neg (show ¬ qb true = 0 by decide), r1, qs, hop1, qs, if_neg cy, ql, e4]
        have ed : nI w ||| ((1 : Int32) <<< (nI s &&& 31)) = nI (qm 8 (fun i => w.testBit i || decide (i = s))) := by
          rw [ew]
          exact (qm_add (by decide) (by omega) _).trans (by rw [← ew])
        rw [ed, qg (qb_bz _), qs, qg (qb_bz _)]
      · unfold X7_setOpen
        rw [qd_isStand (hV1 _), qs, e133, c, if_neg (show ¬ qb true = 0 by decide), qth_e, qth_y, s1, qs, qk_20p, qg_i (by omega) (by decide), qk_c (by omega), s2, if_neg cy, if_neg cy, ql, ql, qrow_up, s2]
        rcases hop with ⟨p1, p2⟩ | ⟨p1, p2⟩
        · rw [if_pos p1, p2]
        · rw [if_neg p1, p2]
theorem qo_pair : o_pair qi := by
  intro σ hI f x1 x2 x3
  have hV := qi_V hI
  have hR := qi_R hI
  have h8 := qv_n8 hV
  cases ca : ib x1 (qs_n (σ 133)) with
  | false =>
    refine ⟨1, 0, f, σ, qth σ 1, qL_pair_1 f ?_, ?_, qth_8 _ _, fun q => absurd q (by decide), qth_i hI 1⟩
    · unfold X6_pair
      rw [qc_hasStand hR, qs, ca, if_pos qb_f]
    · unfold X7_pair
      rw [qd_isStand hV, qs, ca, if_pos qb_f, qth_e, qth_1]
  | true =>
    cases cb : ib x2 (qs_n (σ 133)) with
    | false =>
      refine ⟨1, 0, f, σ, qth σ 1, qL_pair_1 f ?_, ?_, qth_8 _ _, fun q => absurd q (by decide), qth_i hI 1⟩
      · unfold X6_pair
        rw [qc_hasStand hR, qs, ca, if_neg (show ¬ qb true = 0 by decide), qc_hasStand hR, qs, cb, if_pos qb_f]
      · unfold X7_pair
        rw [qd_isStand hV, qs, ca, if_neg (show ¬ qb true = 0 by decide), qd_isStand hV, qs, cb, if_pos qb_f, qth_e, qth_1]
    | true =>
      obtain ⟨i, hi, rfl⟩ := qi_of ca
      obtain ⟨j, hj, rfl⟩ := qi_of cb
      by_cases cij : nI i = nI j
      · refine ⟨2, 0, f, σ, qth σ 2, qL_pair_2 f ?_, ?_, qth_8 _ _, fun q => absurd q (by decide), qth_i hI 2⟩
        · unfold X6_pair
          rw [qc_hasStand hR, qs, ca, if_neg (show ¬ qb true = 0 by decide), qc_hasStand hR, qs, cb, if_neg (show ¬ qb true = 0 by decide), if_pos cij]
        · unfold X7_pair
          rw [qd_isStand hV, qs, ca, if_neg (show ¬ qb true = 0 by decide), qd_isStand hV, qs, cb, if_neg (show ¬ qb true = 0 by decide), if_pos cij, qth_e, qth_2]
      · have nij : i ≠ j := fun q => cij (by rw [q])
        by_cases c3 : ¬ x3 < -1 ∧ x3 ≤ 6
        · have m2 : (decide (-1 ≤ x3) && decide (x3 ≤ 6)) = true := by
            simp only [Bool.and_eq_true, decide_eq_true_eq]
            exact ⟨(qf_nle _ _).mpr c3.1, c3.2⟩
          obtain ⟨σ1, r1, r2, r3, -⟩ := q_rem hI
          have hR1 : qr_R (qr_b σ1 24) (σ 133) := by rw [q_rb r2]; exact hR
          obtain ⟨σ2, s1, s2, s3, s4, s5⟩ := r3 (g_up (g_up σ1 27 (i * 8 + j) x3) 27 (j * 8 + i) x3) (fun a p => by rw [qu_a _ _ (by omega), qu_a _ _ (by omega)])
          have e133 : (g_up (g_up σ1 27 (i * 8 + j) x3) 27 (j * 8 + i) x3) 133 = σ 133 := by rw [qu_a _ _ (by decide), qu_a _ _ (by decide), r2 133 (by decide) (by decide)]
          have hV1 : qs_V ((g_up (g_up σ1 27 (i * 8 + j) x3) 27 (j * 8 + i) x3) 133) := by rw [e133]; exact hV
          have hne : ∀ x, x ≠ 28 + 8 * i + j → x ≠ 28 + 8 * j + i → qu1 (qu1 (σ 133) (28 + 8 * i + j) x3) (28 + 8 * j + i) x3 x = σ 133 x := fun x p q => by rw [qu1_ne _ _ q, qu1_ne _ _ p]
          refine ⟨0, qs_li (σ 133) i j, _, _, g_row σ2 133 (qu1 (qu1 (σ 133) (28 + 8 * i + j) x3) (28 + 8 * j + i) x3), qL_pair_r f (r := σ1 27 (i * 8 + j)) (σ1 := g_up (g_up σ1 27 (i * 8 + j) x3) 27 (j * 8 + i) x3) ?_, ?_, s4 _, fun _ => ?_, s5 _ (qu1_cut (qu1_cut hI.1.2 (by omega) _) (by omega) _) ?_⟩
          · unfold X6_pair X0_changeLimit
            rw [qc_hasStand hR, qs, ca, if_neg (show ¬ qb true = 0 by decide), qc_hasStand hR, qs, cb, if_neg (show ¬ qb true = 0 by decide), if_neg cij, if_neg c3.1, if_pos c3.2, r1, qs, qk_m8, qk_m8, qg_i (by omega) (by decide), qk_c (by omega), ql, qg_i (by omega) (by decide), qk_c (by omega), ql, qs]
          · have hVs : qs_V (σ2 133) := by rw [s3]; exact hV
            unfold X7_pair
            rw [qd_isStand hV1, qs, e133, ca, if_neg (show ¬ qb true = 0 by decide), qd_isStand hV1, qs, e133, cb, if_neg (show ¬ qb true = 0 by decide), if_neg cij, qd_in, qs, m2, if_neg (show ¬ qb true = 0 by decide), qth_e, qth_y, s1, qs, qd_limit (by omega) (by omega), qs, qk_l8, qk_l8, qg_i (by omega) (by decide), qk_c (by omega), ql, qg_i (by omega) (by decide), qk_c (by omega), ql, qrow_up σ2, qrow_up2, s3]
          · rw [qup0, r2 27 (by decide) (by decide), qr_li hR hi hj]
          · have hn : qs_n (qu1 (qu1 (σ 133) (28 + 8 * i + j) x3) (28 + 8 * j + i) x3) = qs_n (σ 133) := by unfold qs_n; rw [hne 0 (by omega) (by omega)]
            have hli : ∀ a b, a < 8 → b < 8 → qs_li (qu1 (qu1 (σ 133) (28 + 8 * i + j) x3) (28 + 8 * j + i) x3) a b = if (a = i ∧ b = j) ∨ (a = j ∧ b = i) then x3 else qs_li (σ 133) a b := by
              intro a b ha hb
              unfold qs_li
              by_cases c1 : a = j ∧ b = i
              · obtain ⟨rfl, rfl⟩ := c1
                rw [qu1_at, if_pos (Or.inr ⟨rfl, rfl⟩)]
              · rw [qu1_ne _ _ (by omega)]
                by_cases c2 : a = i ∧ b = j
                · obtain ⟨rfl, rfl⟩ := c2
                  rw [qu1_at, if_pos (Or.inl ⟨rfl, rfl⟩)]
                · rw [qu1_ne _ _ (by omega), if_neg (fun q => q.elim c2 c1)]
            have hA : ∀ r, r ≠ 3 → r < 12 → qr_b (g_up (g_up σ1 27 (i * 8 + j) x3) 27 (j * 8 + i) x3) 24 r = qr_b σ1 24 r := by
              intro r p q
              rw [qb_row q, qb_row q, qu_a _ _ (by omega), qu_a _ _ (by omega)]
            refine qmn_R hR1 ⟨fun x hx => hne x (by omega) (by omega), hne 1 (by omega) (by omega), by omega⟩ ⟨by rw [hn, hne 0 (by omega) (by omega)]; exact qv_n hV, by omega⟩ (by rw [hne 2 (by omega) (by omega)]; exact hV.2.2.1) (fun a ha => ?_) (fun a b ha hb => ?_) (fun r p1 p2 => hA r (by omega) p2) ?_ ?_ ?_ ?_ ?_ (fun a ha => ?_) (fun a b ha hb => ?_)
            · rw [hn] at ha
              rw [hne (4 + a) (by omega) (by omega), hne (20 + a) (by omega) (by omega)]
              exact hV.2.2.2.1 a ha
            · rw [hn, hli a b ha hb, hli b a hb ha]
              have := hV.2.2.2.2.1 a b ha hb
              by_cases c1 : (a = i ∧ b = j) ∨ (a = j ∧ b = i)
              · rw [if_pos c1, if_pos (c1.elim (fun q => Or.inr ⟨q.2, q.1⟩) (fun q => Or.inl ⟨q.2, q.1⟩))]
                exact ⟨rfl, fun q => by omega⟩
              · rw [if_neg c1, if_neg (fun q => c1 (q.elim (fun q => Or.inr ⟨q.2, q.1⟩) (fun q => Or.inl ⟨q.2, q.1⟩)))]
                exact this
            · rw [hA 0 (by decide) (by decide), hne 0 (by omega) (by omega)]; exact hR1.2.1.1
            · rw [hA 0 (by decide) (by decide)]
            · rw [hA 0 (by decide) (by decide), hne 2 (by omega) (by omega)]; exact hR1.2.1.2.2.1
            · rw [hA 0 (by decide) (by decide), hne 3 (by omega) (by omega)]; exact hR1.2.1.2.2.2
            · obtain ⟨w, w1, w2, w3⟩ := hR1.2.2.1
              refine ⟨w, w1, by rw [hA 0 (by decide) (by decide)]; exact w2, fun a ha => ?_⟩
              rw [hn] at ha
              rw [hne _ (by omega) (by omega)]; exact w3 a ha
            · rw [hn] at ha
              rw [hA 1 (by decide) (by decide), hA 2 (by decide) (by decide), hne _ (by omega) (by omega), hne _ (by omega) (by omega)]
              exact hR1.2.2.2.1 a ha
            · rw [hn] at ha hb
              rw [hli a b (by omega) (by omega), qb_row (by decide)]
              show g_up (g_up σ1 27 (i * 8 + j) x3) 27 (j * 8 + i) x3 27 (a * 8 + b) = _
              by_cases c1 : a = j ∧ b = i
              · obtain ⟨rfl, rfl⟩ := c1
                rw [qu_at, if_pos (Or.inr ⟨rfl, rfl⟩)]
              · rw [qu_j _ _ (by omega)]
                by_cases c2 : a = i ∧ b = j
                · obtain ⟨rfl, rfl⟩ := c2
                  rw [qu_at, if_pos (Or.inl ⟨rfl, rfl⟩)]
                · rw [qu_j _ _ (by omega), if_neg (fun q => q.elim c2 c1)]
                  exact hR1.2.2.2.2.1 a b ha hb
        · have m2 : (decide (-1 ≤ x3) && decide (x3 ≤ 6)) = false := by
            rw [Bool.eq_false_iff]
            intro q
            simp only [Bool.and_eq_true, decide_eq_true_eq] at q
            exact c3 ⟨(qf_nle _ _).mp q.1, q.2⟩
          refine ⟨2, 0, f, σ, qth σ 2, qL_pair_2 f ?_, ?_, qth_8 _ _, fun q => absurd q (by decide), qth_i hI 2⟩
          · unfold X6_pair
            rw [qc_hasStand hR, qs, ca, if_neg (show ¬ qb true = 0 by decide), qc_hasStand hR, qs, cb, if_neg (show ¬ qb true = 0 by decide), if_neg cij]
            by_cases c4 : x3 < -1
            · rw [if_pos c4]
            · rw [if_neg c4, if_neg (fun q => c3 ⟨c4, q⟩)]
          · unfold X7_pair
            rw [qd_isStand hV, qs, ca, if_neg (show ¬ qb true = 0 by decide), qd_isStand hV, qs, cb, if_neg (show ¬ qb true = 0 by decide), if_neg cij, qd_in, qs, m2, if_pos qb_f, qth_e, qth_2]
