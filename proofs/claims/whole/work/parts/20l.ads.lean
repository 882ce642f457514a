/-! ===== a stand is added ===== -/
def qs_ns (M : Nat → Int32) (x1 x2 : Int32) : Nat → Int32 := qu1 (qu1 (qu1 (qu1 M (4 + qs_n M) x1) (12 + qs_n M) x2) (20 + qs_n M) 1) 0 (nI (qs_n M + 1))
/-- the row of the limits, once those of the stand n up to i are ended -/
def qs_lr (σ : gS) (b n i : Nat) : gS := g_row σ (b + 3) (fun x => if (x / 8 = n ∧ x % 8 < i) ∨ (x % 8 = n ∧ x / 8 < i) then -1 else σ (b + 3) x)
theorem qs_lr_0 (σ : gS) (b n : Nat) : qs_lr σ b n 0 = σ := by
  funext a x
  unfold qs_lr g_row
  by_cases ha : a = b + 3
  · subst ha
    rw [if_pos rfl]
    exact if_neg (fun q => by omega)
  · rw [if_neg ha]
theorem qs_lr_s (σ : gS) {b n i : Nat} (hi : i < 8) (hn : n < 8) : g_up (g_up (qs_lr σ b n i) (b + 3) (n * 8 + i) (-1)) (b + 3) (i * 8 + n) (-1) = qs_lr σ b n (i + 1) := by
  funext a x
  unfold qs_lr g_up g_row
  by_cases ha : a = b + 3
  · subst ha
    by_cases h1 : x = i * 8 + n
    · rw [if_pos ⟨rfl, h1⟩, if_pos rfl]
      exact (if_pos (by omega)).symm
    · rw [if_neg (fun q => h1 q.2)]
      by_cases h2 : x = n * 8 + i
      · rw [if_pos ⟨rfl, h2⟩, if_pos rfl]
        exact (if_pos (by omega)).symm
      · rw [if_neg (fun q => h2 q.2), if_pos rfl, if_pos rfl]
        by_cases h3 : (x / 8 = n ∧ x % 8 < i) ∨ (x % 8 = n ∧ x / 8 < i)
        · rw [if_pos h3]; exact (if_pos (by omega)).symm
        · rw [if_neg h3]; exact (if_neg (by omega)).symm
  · rw [if_neg (fun q => ha q.1), if_neg (fun q => ha q.1), if_neg ha, if_neg ha]
def qs_s4 (σ : gS) (b n : Nat) (x1 x2 w : Int32) : gS := g_up (g_up (g_up σ (b + 1) n x1) (b + 2) n x2) b 4 w
theorem qc_newStand {σ : gS} {b : Nat} {M : Nat → Int32} (h : qr_R (qr_b σ b) M) (h8 : qs_n M < 8) {x1 x2 : Int32} (hk : x1 = 0 ∨ x1 = 1 ∨ x1 = 2) :
    ∃ w, X0_newStand σ b x1 x2 = some (nI (qs_n M), g_up (qs_lr (qs_s4 σ b (qs_n M) x1 x2 w) b (qs_n M) 8) b 0 (nI (qs_n M + 1))) ∧ qr_R (qr_b (g_up (qs_lr (qs_s4 σ b (qs_n M) x1 x2 w) b (qs_n M) 8) b 0 (nI (qs_n M + 1))) b) (qs_ns M x1 x2) := by
  have hV := h.1
  obtain ⟨w, w1, w2, w3⟩ := qr_4 h
  have ew : w = qm 8 (fun i => w.testBit i) := qm_ext w1 (fun k hk => rfl)
  have ed : nI w ||| ((1 : Int32) <<< (nI (qs_n M) &&& 31)) = nI (qm 8 (fun i => w.testBit i || decide (i = qs_n M))) := by
    rw [ew]
    exact (qm_add (by decide) (by omega) _).trans (by rw [← ew])
  refine ⟨nI (qm 8 (fun i => w.testBit i || decide (i = qs_n M))), ?_, ?_⟩
  · unfold X0_newStand
    rw [qr_0 h, qg_i h8 (by decide), qk_c (by omega), ql, ql, qu_a _ _ (by omega), qu_a _ _ (by omega), w2, ed, ql]
    show gr (X0_newStand_s b) (nI (qs_n M), nI 0, qs_s4 σ b (qs_n M) x1 x2 (nI (qm 8 (fun i => w.testBit i || decide (i = qs_n M))))) = _
    have hl := qf_for (step := X0_newStand_s b) (N := 8) (b := (nI (qs_n M), g_up (qs_lr (qs_s4 σ b (qs_n M) x1 x2 (nI (qm 8 (fun i => w.testBit i || decide (i = qs_n M))))) b (qs_n M) 8) b 0 (nI (qs_n M + 1)))) (fun i => (nI (qs_n M), nI i, qs_lr (qs_s4 σ b (qs_n M) x1 x2 (nI (qm 8 (fun i => w.testBit i || decide (i = qs_n M))))) b (qs_n M) i)) (fun i hi => ?_) ?_ 0 (by omega)
    · rw [qs_lr_0] at hl
      exact hl
    · show X0_newStand_k0 _ b (nI (qs_n M)) (nI i) = _
      unfold X0_newStand_k0
      rw [if_neg (qk_8 hi), qk_m8, qk_m8, qg_i (by omega) (by decide), qk_c (by omega), ql, qg_i (by omega) (by decide), qk_c (by omega), ql, qk_s, qs_lr_s _ hi h8]
    · show X0_newStand_k0 _ b (nI (qs_n M)) (nI 8) = _
      unfold X0_newStand_k0
      rw [if_pos qk_e8, ql, qk_s]
  · have hne : ∀ x, x ≠ 0 → x ≠ 4 + qs_n M → x ≠ 12 + qs_n M → x ≠ 20 + qs_n M → qs_ns M x1 x2 x = M x := by
      intro x p1 p2 p3 p4
      unfold qs_ns
      rw [qu1_ne _ _ p1, qu1_ne _ _ p4, qu1_ne _ _ p3, qu1_ne _ _ p2]
    have e4 : qs_ns M x1 x2 (4 + qs_n M) = x1 := by
      unfold qs_ns
      rw [qu1_ne _ _ (by omega), qu1_ne _ _ (by omega), qu1_ne _ _ (by omega), qu1_at]
    have e12 : qs_ns M x1 x2 (12 + qs_n M) = x2 := by
      unfold qs_ns
      rw [qu1_ne _ _ (by omega), qu1_ne _ _ (by omega), qu1_at]
    have e20 : qs_ns M x1 x2 (20 + qs_n M) = 1 := by
      unfold qs_ns
      rw [qu1_ne _ _ (by omega), qu1_at]
    have e0 : qs_ns M x1 x2 0 = nI (qs_n M + 1) := by
      unfold qs_ns
      rw [qu1_at]
    have hn : qs_n (qs_ns M x1 x2) = qs_n M + 1 := by
      show (qs_ns M x1 x2 0).toNatClampNeg = _
      rw [e0, nI_clamp (by omega)]
    have hli : ∀ i j, i < 8 → j < 8 → qs_li (qs_ns M x1 x2) i j = qs_li M i j := fun i j hi hj => by unfold qs_li; rw [hne _ (by omega) (by omega) (by omega) (by omega)]
    have ha : ∀ r, 4 ≤ r → r < 12 → qr_b (g_up (qs_lr (qs_s4 σ b (qs_n M) x1 x2 (nI (qm 8 (fun i => w.testBit i || decide (i = qs_n M))))) b (qs_n M) 8) b 0 (nI (qs_n M + 1))) b r = qr_b σ b r := by
      intro r p q
      rw [qb_row q, qb_row q, qu_a _ _ (by omega)]
      unfold qs_lr qs_s4
      rw [qw_a _ _ (by omega), qu_a _ _ (by omega), qu_a _ _ (by omega), qu_a _ _ (by omega)]
    have h0 : ∀ j, j ≠ 0 → j ≠ 4 → qr_b (g_up (qs_lr (qs_s4 σ b (qs_n M) x1 x2 (nI (qm 8 (fun i => w.testBit i || decide (i = qs_n M))))) b (qs_n M) 8) b 0 (nI (qs_n M + 1))) b 0 j = qr_b σ b 0 j := by
      intro j p q
      rw [qb_row (by decide), qb_row (by decide)]
      show g_up (qs_lr (qs_s4 σ b (qs_n M) x1 x2 (nI (qm 8 (fun i => w.testBit i || decide (i = qs_n M))))) b (qs_n M) 8) b 0 (nI (qs_n M + 1)) b j = σ b j
      rw [qu_j _ _ p]
      unfold qs_lr qs_s4
      rw [qw_a _ _ (by omega), qu_j _ _ q, qu_a _ _ (by omega), qu_a _ _ (by omega)]
    refine qmn_R h ⟨fun j hj => hne j (by omega) (by omega) (by omega) (by omega), hne 1 (by omega) (by omega) (by omega) (by omega), by omega⟩ ⟨by rw [hn, e0], by omega⟩ (by rw [hne 2 (by omega) (by omega) (by omega) (by omega)]; exact hV.2.2.1) (fun i hi => ?_) (fun i j hi hj => ?_) ha ?_ ?_ ?_ ?_ ⟨qm 8 (fun i => w.testBit i || decide (i = qs_n M)), qm_lt 8 _, ?_, fun i hi => ?_⟩ (fun i hi => ?_) (fun i j hi hj => ?_)
    · rw [hn] at hi
      by_cases c : i = qs_n M
      · subst c
        rw [e4, e20]; exact ⟨hk, Or.inr rfl⟩
      · rw [hne _ (by omega) (by omega) (by omega) (by omega), hne _ (by omega) (by omega) (by omega) (by omega)]
        exact hV.2.2.2.1 i (by omega)
    · rw [hn, hli i j hi hj, hli j i hj hi]
      have := hV.2.2.2.2.1 i j hi hj
      exact ⟨this.1, fun q => this.2 (by omega)⟩
    · rw [qb_row (by decide), e0]
      exact qu_at _ b 0 _
    · exact h0 1 (by decide) (by decide)
    · rw [h0 2 (by decide) (by decide), hne 2 (by omega) (by omega) (by omega) (by omega)]; exact h.2.1.2.2.1
    · rw [h0 3 (by decide) (by decide), hne 3 (by omega) (by omega) (by omega) (by omega)]; exact h.2.1.2.2.2
    · rw [qb_row (by decide)]
      show g_up (qs_lr (qs_s4 σ b (qs_n M) x1 x2 (nI (qm 8 (fun i => w.testBit i || decide (i = qs_n M))))) b (qs_n M) 8) b 0 (nI (qs_n M + 1)) b 4 = _
      rw [qu_j _ _ (by decide)]
      unfold qs_lr qs_s4
      rw [qw_a _ _ (by omega), qu_at]
    · rw [hn] at hi
      rw [qm_in (by omega)]
      by_cases c : i = qs_n M
      · subst c
        rw [e20]; simp
      · rw [hne _ (by omega) (by omega) (by omega) (by omega), w3 i (by omega)]
        simp [c]
    · rw [hn] at hi
      have c1 : (g_up (qs_lr (qs_s4 σ b (qs_n M) x1 x2 (nI (qm 8 (fun i => w.testBit i || decide (i = qs_n M))))) b (qs_n M) 8) b 0 (nI (qs_n M + 1))) (b + 1) i = if i = qs_n M then x1 else σ (b + 1) i := by
        rw [qu_a _ _ (show b + 1 ≠ b by omega)]
        unfold qs_lr
        rw [qw_a _ _ (show b + 1 ≠ b + 3 by omega)]
        unfold qs_s4
        rw [qu_a _ _ (show b + 1 ≠ b by omega), qu_a _ _ (show b + 1 ≠ b + 2 by omega), qu_row]
      have c2 : (g_up (qs_lr (qs_s4 σ b (qs_n M) x1 x2 (nI (qm 8 (fun i => w.testBit i || decide (i = qs_n M))))) b (qs_n M) 8) b 0 (nI (qs_n M + 1))) (b + 2) i = if i = qs_n M then x2 else σ (b + 2) i := by
        rw [qu_a _ _ (show b + 2 ≠ b by omega)]
        unfold qs_lr
        rw [qw_a _ _ (show b + 2 ≠ b + 3 by omega)]
        unfold qs_s4
        rw [qu_a _ _ (show b + 2 ≠ b by omega), qu_row, qu_a _ _ (show b + 2 ≠ b + 1 by omega)]
      rw [qb_row (by decide), qb_row (by decide), c1, c2]
      by_cases c : i = qs_n M
      · rw [if_pos c, if_pos c, c, e4, e12]; exact ⟨rfl, rfl⟩
      · rw [if_neg c, if_neg c, hne _ (by omega) (by omega) (by omega) (by omega), hne _ (by omega) (by omega) (by omega) (by omega)]
        exact ⟨qr_kd h (by omega), qr_ss h (by omega)⟩
    · rw [hn] at hi hj
      rw [hli i j (by omega) (by omega), qb_row (by decide), qu_a _ _ (by omega)]
      unfold qs_lr
      rw [qw_at]
      by_cases c : i = qs_n M ∨ j = qs_n M
      · refine (if_pos (by omega)).trans ?_
        rcases c with c | c
        · exact (qv_ln hV (by omega) (by omega) (by omega)).symm
        · rw [qv_li hV (by omega) (by omega)]
          exact (qv_ln hV (by omega) (by omega) (by omega)).symm
      · refine (if_neg (by omega)).trans ?_
        unfold qs_s4
        rw [qu_a _ _ (by omega), qu_a _ _ (by omega), qu_a _ _ (by omega)]
        exact qr_li h (by omega) (by omega)
theorem qo_addStand : o_addStand qi := by
  intro σ hI f x1 x2
  have hV := qi_V hI
  have hR := qi_R hI
  have h8 := qv_n8 hV
  have e0 : (0 : Int32).toInt = 0 := rfl
  have e2 : (2 : Int32).toInt = 2 := rfl
  have e3 : (3 : Int32).toInt = 3 := rfl
  cases i1 : (decide (0 ≤ x1) && decide (x1 ≤ 2)) with
  | false =>
    refine ⟨1, 0, f, σ, qth σ 1, qL_addStand_1 f ?_, ?_, qth_8 _ _, fun q => absurd q (by decide), qth_i hI 1⟩
    · unfold X6_addStand
      by_cases j1 : x1 < 0
      · rw [if_pos j1]
      · by_cases j2 : 2 < x1
        · rw [if_neg j1, if_pos j2]
        · exfalso
          rw [decide_eq_true (qf_nneg j1), decide_eq_true ((qf_nle _ _).mpr j2)] at i1
          cases i1
    · unfold X7_addStand
      rw [qd_in, qs, i1, if_pos qb_f, qth_e, qth_1]
  | true =>
    have g1 := i1
    simp only [Bool.and_eq_true, decide_eq_true_eq] at g1
    have j1 : ¬ x1 < 0 := fun q => (qf_lt0 _).mp q g1.1
    have j2 : ¬ 2 < x1 := (qf_nle _ _).mp g1.2
    cases i2 : (decide (0 ≤ x2) && decide (x2 ≤ 3)) with
    | false =>
      refine ⟨1, 0, f, σ, qth σ 1, qL_addStand_1 f ?_, ?_, qth_8 _ _, fun q => absurd q (by decide), qth_i hI 1⟩
      · unfold X6_addStand
        rw [if_neg j1, if_neg j2]
        by_cases j3 : x2 < 0
        · rw [if_pos j3]
        · rw [if_neg j3, if_neg (fun q => by rw [decide_eq_true (qf_nneg j3), decide_eq_true q] at i2; cases i2)]
      · unfold X7_addStand
        rw [qd_in, qs, i1, if_neg (show ¬ qb true = 0 by decide), qd_in, qs, i2, if_pos qb_f, qth_e, qth_1]
    | true =>
      have g2 := i2
      simp only [Bool.and_eq_true, decide_eq_true_eq] at g2
      have j3 : ¬ x2 < 0 := fun q => (qf_lt0 _).mp q g2.1
      by_cases c8 : qs_n (σ 133) < 8
      · have hk : x1 = 0 ∨ x1 = 1 ∨ x1 = 2 := by
          have p1 := (qf_le _ _).mp g1.1
          have p2 := (qf_le _ _).mp g1.2
          rw [e0] at p1
          rw [e2] at p2
          rcases (show x1.toInt = 0 ∨ x1.toInt = 1 ∨ x1.toInt = 2 by omega) with q | q | q
          · exact Or.inl ((qf_eq _ _).mpr q)
          · exact Or.inr (Or.inl ((qf_eq _ _).mpr q))
          · exact Or.inr (Or.inr ((qf_eq _ _).mpr q))
        obtain ⟨σ1, r1, r2, r3, -⟩ := q_rem hI
        have hR1 : qr_R (qr_b σ1 24) (σ 133) := by rw [q_rb r2]; exact hR
        obtain ⟨w, m1, m2⟩ := qc_newStand (x2 := x2) hR1 c8 hk
        have ho : ∀ a, (a < 24 ∨ 36 ≤ a) → (g_up (qs_lr (qs_s4 σ1 24 (qs_n (σ 133)) x1 x2 w) 24 (qs_n (σ 133)) 8) 24 0 (nI (qs_n (σ 133) + 1))) a = σ1 a := fun a p => by
          rw [qu_a _ _ (by omega)]
          unfold qs_lr qs_s4
          rw [qw_a _ _ (by omega), qu_a _ _ (by omega), qu_a _ _ (by omega), qu_a _ _ (by omega)]
        obtain ⟨σ2, s1, s2, s3, s4, s5⟩ := r3 _ ho
        have e1' : (g_up (qs_lr (qs_s4 σ1 24 (qs_n (σ 133)) x1 x2 w) 24 (qs_n (σ 133)) 8) 24 0 (nI (qs_n (σ 133) + 1))) 133 = σ 133 := by rw [ho 133 (by decide), r2 133 (by decide) (by decide)]
        refine ⟨0, nI (qs_n (σ 133)), _, _, g_row σ2 133 (qs_ns (σ 133) x1 x2), qL_addStand_r f (r := nI (qs_n (σ 133))) (σ1 := g_up (qs_lr (qs_s4 σ1 24 (qs_n (σ 133)) x1 x2 w) 24 (qs_n (σ 133)) 8) 24 0 (nI (qs_n (σ 133) + 1))) ?_, ?_, s4 _, fun _ => qup0 _ _, s5 _ (qu1_cut (qu1_cut (qu1_cut (qu1_cut hI.1.2 (by omega) _) (by omega) _) (by omega) _) (by omega) _) m2⟩
        · unfold X6_addStand
          rw [if_neg j1, if_neg j2, if_neg j3, if_pos g2.2, if_pos (show σ 24 0 < 8 by rw [qr_0 hR]; exact nI_lt (b := 8) c8 (by decide)), r1, qs, m1, qs]
        · have ne8 : ¬ σ 133 0 = 8 := by
            rw [qv_n hV]
            intro q
            have := (qk_eq (a := qs_n (σ 133)) (b := 8) (by omega) (by decide)).mp q
            omega
          unfold X7_addStand
          rw [qd_in, qs, i1, if_neg (show ¬ qb true = 0 by decide), qd_in, qs, i2, if_neg (show ¬ qb true = 0 by decide), qk_z0, e1', if_neg ne8, qth_e, qth_y, s1, qs, s3, qv_n hV, qk_4, qk_12, qk_20p]
          rw [qg_i (by omega) (by decide), ql, qg_i (by omega) (by decide), ql, qg_i (by omega) (by decide), ql, ql, qk_c (by omega), qk_c (by omega), qk_c (by omega)]
          rw [qrow_up σ2, s3, qrow_up2, qrow_up2, qw_at, qu1_ne _ _ (by omega), qu1_ne _ _ (by omega), qu1_ne _ _ (by omega), qv_n hV, qk_s, qrow_up2]
          rfl
      · have e8 : qs_n (σ 133) = 8 := by omega
        refine ⟨2, 0, f, σ, qth σ 2, qL_addStand_2 f ?_, ?_, qth_8 _ _, fun q => absurd q (by decide), qth_i hI 2⟩
        · unfold X6_addStand
          rw [if_neg j1, if_neg j2, if_neg j3, if_pos g2.2, if_neg (show ¬ σ 24 0 < 8 by rw [qr_0 hR, e8]; decide)]
        · unfold X7_addStand
          rw [qd_in, qs, i1, if_neg (show ¬ qb true = 0 by decide), qd_in, qs, i2, if_neg (show ¬ qb true = 0 by decide), qk_z0, if_pos (show σ 133 0 = 8 by rw [qv_n hV, e8]; rfl), qth_e, qth_2]
