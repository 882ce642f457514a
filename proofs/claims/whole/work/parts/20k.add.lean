/-! ===== new turns; new stands ===== -/
theorem qu_comm (σ : gS) {i i' : Nat} (j j' : Nat) (v v' : Int32) (h : i ≠ i') : g_up (g_up σ i j v) i' j' v' = g_up (g_up σ i' j' v') i j v := by
  funext a x
  unfold g_up
  by_cases c1 : a = i' ∧ x = j'
  · rw [if_pos c1, if_neg (fun q => h (q.1.symm.trans c1.1)), if_pos c1]
  · rw [if_neg c1]
    by_cases c2 : a = i ∧ x = j
    · rw [if_pos c2, if_pos c2]
    · rw [if_neg c2, if_neg c2, if_neg c1]
theorem qst_up (σ : gS) (b t : Nat) (v : Int32) : g_up (qst σ b t) b 1 v = qst (g_up σ b 1 v) b t := by
  unfold qst
  rw [qu_a σ v (show b + 5 ≠ b by omega), qu_a σ v (show b + 6 ≠ b by omega), qu_a σ v (show b + 8 ≠ b by omega), qu_comm _ _ _ _ _ (show b + 10 ≠ b by omega), qu_comm _ _ _ _ _ (show b + 9 ≠ b by omega), qu_comm _ _ _ _ _ (show b + 10 ≠ b by omega), qu_comm _ _ _ _ _ (show b + 9 ≠ b by omega)]
/-- the airport with one turn more -/
def qs_nt (M : Nat → Int32) (x1 x2 x3 x4 : Int32) : Nat → Int32 :=
  qu1 (qu1 (qu1 (qu1 (qu1 (qu1 (qu1 (qu1 M (92 + 7 * qs_t M) x1) (93 + 7 * qs_t M) x2) (94 + 7 * qs_t M) x3) (95 + 7 * qs_t M) x4) (96 + 7 * qs_t M) (-1)) (97 + 7 * qs_t M) (-1)) (98 + 7 * qs_t M) (-1)) 1 (nI (qs_t M + 1))
section NT
variable {M : Nat → Int32} {x1 x2 x3 x4 : Int32}
theorem qs_nt_o {j : Nat} (h0 : j ≠ 1) (h : j < 92 + 7 * qs_t M ∨ 99 + 7 * qs_t M ≤ j) : qs_nt M x1 x2 x3 x4 j = M j := by
  unfold qs_nt
  rw [qu1_ne _ _ h0, qu1_ne _ _ (by omega), qu1_ne _ _ (by omega), qu1_ne _ _ (by omega), qu1_ne _ _ (by omega), qu1_ne _ _ (by omega), qu1_ne _ _ (by omega), qu1_ne _ _ (by omega)]
theorem qs_nt_1 : qs_nt M x1 x2 x3 x4 1 = nI (qs_t M + 1) := by unfold qs_nt; rw [qu1_at]
theorem qs_nt_92 : qs_nt M x1 x2 x3 x4 (92 + 7 * qs_t M) = x1 := by
  unfold qs_nt
  rw [qu1_ne _ _ (by omega), qu1_ne _ _ (by omega), qu1_ne _ _ (by omega), qu1_ne _ _ (by omega), qu1_ne _ _ (by omega), qu1_ne _ _ (by omega), qu1_ne _ _ (by omega), qu1_at]
theorem qs_nt_93 : qs_nt M x1 x2 x3 x4 (93 + 7 * qs_t M) = x2 := by
  unfold qs_nt
  rw [qu1_ne _ _ (by omega), qu1_ne _ _ (by omega), qu1_ne _ _ (by omega), qu1_ne _ _ (by omega), qu1_ne _ _ (by omega), qu1_ne _ _ (by omega), qu1_at]
theorem qs_nt_94 : qs_nt M x1 x2 x3 x4 (94 + 7 * qs_t M) = x3 := by
  unfold qs_nt
  rw [qu1_ne _ _ (by omega), qu1_ne _ _ (by omega), qu1_ne _ _ (by omega), qu1_ne _ _ (by omega), qu1_ne _ _ (by omega), qu1_at]
theorem qs_nt_95 : qs_nt M x1 x2 x3 x4 (95 + 7 * qs_t M) = x4 := by
  unfold qs_nt
  rw [qu1_ne _ _ (by omega), qu1_ne _ _ (by omega), qu1_ne _ _ (by omega), qu1_ne _ _ (by omega), qu1_at]
theorem qs_nt_96 : qs_nt M x1 x2 x3 x4 (96 + 7 * qs_t M) = -1 := by
  unfold qs_nt
  rw [qu1_ne _ _ (by omega), qu1_ne _ _ (by omega), qu1_ne _ _ (by omega), qu1_at]
theorem qs_nt_97 : qs_nt M x1 x2 x3 x4 (97 + 7 * qs_t M) = -1 := by
  unfold qs_nt
  rw [qu1_ne _ _ (by omega), qu1_ne _ _ (by omega), qu1_at]
theorem qs_nt_98 : qs_nt M x1 x2 x3 x4 (98 + 7 * qs_t M) = -1 := by
  unfold qs_nt
  rw [qu1_ne _ _ (by omega), qu1_at]
theorem qs_nt_t (hV : qs_V M) : qs_t (qs_nt M x1 x2 x3 x4) = qs_t M + 1 := by
  have := qv_t10 hV
  unfold qs_t
  rw [qs_nt_1, nI_clamp (by omega)]
  rfl
theorem qs_nt_m (hV : qs_V M) (h : qs_t M < 10) : qm_T M (qs_nt M x1 x2 x3 x4) (qs_t M) :=
  ⟨fun j h1 h2 => qs_nt_o h1 h2, by rw [qs_nt_t hV, qs_nt_1], by rw [qs_nt_t hV]; omega, by rw [qs_nt_t hV]; omega, by rw [qs_nt_t hV]; omega, fun i hi hn => by rw [qs_nt_t hV] at hi; omega⟩
theorem qs_nt_T (hV : qs_V M) (h : qs_t M < 10) (a1 : 0 ≤ x2.toInt) (a2 : x2.toInt + 30 ≤ x3.toInt) (a3 : x3.toInt ≤ 1440) (a4 : 1 ≤ x4.toInt ∧ x4.toInt ≤ 9) : qs_T (qs_nt M x1 x2 x3 x4) (qs_t M) := by
  unfold qs_T
  rw [qmt_n (qs_nt_m hV h), qs_nt_93, qs_nt_94, qs_nt_95, qs_nt_96, qs_nt_97, qs_nt_98, q_im1]
  exact ⟨a1, a2, a3, a4, Or.inl rfl, ⟨by omega, by omega⟩, ⟨by omega, by omega⟩, fun _ => rfl⟩
theorem qs_nt_cut (hc : qcut M = M) (h : qs_t M < 10) : qcut (qs_nt M x1 x2 x3 x4) = qs_nt M x1 x2 x3 x4 :=
  qu1_cut (qu1_cut (qu1_cut (qu1_cut (qu1_cut (qu1_cut (qu1_cut (qu1_cut hc (by omega) _) (by omega) _) (by omega) _) (by omega) _) (by omega) _) (by omega) _) (by omega) _) (by omega) _
end NT
/-- the rows before the stays are set -/
def qs_np1 (σ : gS) (b t : Nat) (x1 x2 x3 x4 : Int32) : gS := g_up (g_up (g_up (g_up (g_up σ (b + 4) t x1) (b + 5) t x2) (b + 6) t x3) (b + 7) t x4) (b + 8) t (-1)
theorem qs_np1_a (σ : gS) {b t a : Nat} (x1 x2 x3 x4 : Int32) (h : a < b + 4 ∨ b + 9 ≤ a) : qs_np1 σ b t x1 x2 x3 x4 a = σ a := by
  unfold qs_np1
  rw [qu_a _ _ (by omega), qu_a _ _ (by omega), qu_a _ _ (by omega), qu_a _ _ (by omega), qu_a _ _ (by omega)]
theorem qs_np1_o (σ : gS) {b t a i : Nat} (x1 x2 x3 x4 : Int32) (h : i ≠ t) : qs_np1 σ b t x1 x2 x3 x4 a i = σ a i := by
  unfold qs_np1 g_up
  rw [if_neg (fun q => h q.2), if_neg (fun q => h q.2), if_neg (fun q => h q.2), if_neg (fun q => h q.2), if_neg (fun q => h q.2)]
theorem qc_newTurn {σ : gS} {b : Nat} {M : Nat → Int32} (h : qr_R (qr_b σ b) M) (h10 : qs_t M < 10) {x1 x2 x3 x4 : Int32} (a1 : 0 ≤ x2.toInt) (a2 : x2.toInt + 30 ≤ x3.toInt) (a3 : x3.toInt ≤ 1440) (a4 : 1 ≤ x4.toInt ∧ x4.toInt ≤ 9) :
    X0_newTurn σ b x1 x2 x3 x4 = some (nI (qs_t M), qst (g_up (qs_np1 σ b (qs_t M) x1 x2 x3 x4) b 1 (nI (qs_t M + 1))) b (qs_t M)) ∧ qr_R (qr_b (qst (g_up (qs_np1 σ b (qs_t M) x1 x2 x3 x4) b 1 (nI (qs_t M + 1))) b (qs_t M)) b) (qs_nt M x1 x2 x3 x4) := by
  have hV := h.1
  constructor
  · unfold X0_newTurn
    rw [qr_1 h, qg_i h10 (by decide), qk_c (by omega), ql, ql, ql, ql, ql]
    show (X0_setStays (qs_np1 σ b (qs_t M) x1 x2 x3 x4) b (nI (qs_t M))).bind _ = _
    rw [qc_setStays _ h10, qs, ql, qk_s, qst_up]
  · have hm := qs_nt_m (x1 := x1) (x2 := x2) (x3 := x3) (x4 := x4) hV h10
    refine qst_R h hm (qs_nt_T hV h10 a1 a2 a3 a4) (fun j hj => ?_) ?_ (fun r p q => ?_) (fun r i p q z => ?_) ⟨?_, ?_, ?_, ?_, ?_⟩ (fun r k p q z => ?_) (fun k hk => ?_)
    · rw [qu_j _ _ hj, qs_np1_a _ _ _ _ _ (by omega)]
    · rw [qu_at, qs_nt_1]
    · rw [qu_a _ _ (by omega), qs_np1_a _ _ _ _ _ (by omega)]
    · rw [qu_a _ _ (by omega), qs_np1_o _ _ _ _ _ z]
    · rw [qu_a _ _ (by omega), qs_nt_92]
      unfold qs_np1
      rw [qu_a _ _ (by omega), qu_a _ _ (by omega), qu_a _ _ (by omega), qu_a _ _ (by omega), qu_at]
    · rw [qu_a _ _ (by omega), qs_nt_93]
      unfold qs_np1
      rw [qu_a _ _ (by omega), qu_a _ _ (by omega), qu_a _ _ (by omega), qu_at]
    · rw [qu_a _ _ (by omega), qs_nt_94]
      unfold qs_np1
      rw [qu_a _ _ (by omega), qu_a _ _ (by omega), qu_at]
    · rw [qu_a _ _ (by omega), qs_nt_95]
      unfold qs_np1
      rw [qu_a _ _ (by omega), qu_at]
    · rw [qu_a _ _ (by omega), qs_nt_96]
      unfold qs_np1
      rw [qu_at]
    · rw [qu_a _ _ (by omega), qs_np1_a _ _ _ _ _ (by omega)]
    · have k20 : k < 20 := by omega
      have n1 : qs_io M k = false := by
        unfold qs_io
        rw [qs_is_hi (by omega), Bool.false_and]
      have n2 : qs_io (qs_nt M x1 x2 x3 x4) k = false := by
        rcases Nat.mod_two_eq_zero_or_one k with c | c
        · have ek : k = 2 * qs_t M := by omega
          unfold qs_io
          rw [ek, qs_on0, qs_nt_97, decide_eq_false (by decide), Bool.and_false]
        · have ek : k = 2 * qs_t M + 1 := by omega
          rw [ek]
          exact qs_io1 (by rw [qs_nt_98]; decide)
      rw [qu_a _ _ (by omega), qs_np1_a _ _ _ _ _ (by omega), n2, qr_onn h k20 n1]
      rfl
theorem qo_addTurn : o_addTurn qi := by
  intro σ hI f x1 x2 x3 x4
  have hV := qi_V hI
  have hR := qi_R hI
  have h10 := qv_t10 hV
  have e0 : (0 : Int32).toInt = 0 := rfl
  have e1 : (1 : Int32).toInt = 1 := rfl
  have e3 : (3 : Int32).toInt = 3 := rfl
  have e9 : (9 : Int32).toInt = 9 := rfl
  have e1440 : (1440 : Int32).toInt = 1440 := rfl
  by_cases cg : (0 ≤ x1.toInt ∧ x1.toInt ≤ 3) ∧ (0 ≤ x2.toInt ∧ x2.toInt ≤ 1440) ∧ (0 ≤ x3.toInt ∧ x3.toInt ≤ 1440) ∧ (1 ≤ x4.toInt ∧ x4.toInt ≤ 9) ∧ x2.toInt + 30 ≤ x3.toInt
  · obtain ⟨g1, g2, g3, g4, g5⟩ := cg
    have i1 : (decide (0 ≤ x1) && decide (x1 ≤ 3)) = true := by simp only [Bool.and_eq_true, decide_eq_true_eq, qf_le, e0, e3]; exact g1
    have i2 : (decide (0 ≤ x2) && decide (x2 ≤ 1440)) = true := by simp only [Bool.and_eq_true, decide_eq_true_eq, qf_le, e0, e1440]; exact g2
    have i3 : (decide (0 ≤ x3) && decide (x3 ≤ 1440)) = true := by simp only [Bool.and_eq_true, decide_eq_true_eq, qf_le, e0, e1440]; exact g3
    have i4 : (decide (1 ≤ x4) && decide (x4 ≤ 9)) = true := by simp only [Bool.and_eq_true, decide_eq_true_eq, qf_le, e1, e9]; exact g4
    have j1 : ¬ x1 < 0 := by rw [qf_lt, e0]; omega
    have j2 : ¬ 3 < x1 := by rw [qf_lt, e3]; omega
    have j3 : ¬ x4 < 1 := by rw [qf_lt, e1]; omega
    have j4 : x4 ≤ 9 := by rw [qf_le, e9]; omega
    have j5 : ¬ x2 < 0 := by rw [qf_lt, e0]; omega
    have j6 : ¬ 1440 < x2 := by rw [qf_lt, e1440]; omega
    have j7 : ¬ x3 < 0 := by rw [qf_lt, e0]; omega
    have j8 : x3 ≤ 1440 := by rw [qf_le, e1440]; omega
    have j9 : 30 ≤ x3 - x2 := by rw [qf_le, q_i30, qf_sub (by omega) (by omega)]; omega
    have k9 : x2 + 30 ≤ x3 := by rw [qf_le, qf_add (by rw [q_i30]; omega) (by rw [q_i30]; omega), q_i30]; omega
    by_cases c10 : qs_t (σ 133) < 10
    · obtain ⟨σ1, r1, r2, r3, -⟩ := q_rem hI
      have hR1 : qr_R (qr_b σ1 24) (σ 133) := by rw [q_rb r2]; exact hR
      obtain ⟨m1, m2⟩ := qc_newTurn (x1 := x1) hR1 c10 g2.1 g5 g3.2 g4
      have ho : ∀ a, (a < 24 ∨ 36 ≤ a) → qst (g_up (qs_np1 σ1 24 (qs_t (σ 133)) x1 x2 x3 x4) 24 1 (nI (qs_t (σ 133) + 1))) 24 (qs_t (σ 133)) a = σ1 a := fun a p => by rw [qst_a _ (by omega) (by omega), qu_a _ _ (by omega), qs_np1_a _ _ _ _ _ (by omega)]
      obtain ⟨σ2, s1, s2, s3, s4, s5⟩ := r3 _ ho
      have e1' : (qst (g_up (qs_np1 σ1 24 (qs_t (σ 133)) x1 x2 x3 x4) 24 1 (nI (qs_t (σ 133) + 1))) 24 (qs_t (σ 133))) 133 = σ 133 := by rw [ho 133 (by decide), r2 133 (by decide) (by decide)]
      refine ⟨0, nI (qs_t (σ 133)), _, _, g_row σ2 133 (qs_nt (σ 133) x1 x2 x3 x4), qL_addTurn_r f (r := nI (qs_t (σ 133))) (σ1 := qst (g_up (qs_np1 σ1 24 (qs_t (σ 133)) x1 x2 x3 x4) 24 1 (nI (qs_t (σ 133) + 1))) 24 (qs_t (σ 133))) ?_, ?_, s4 _, fun _ => qup0 _ _, s5 _ (qs_nt_cut hI.1.2 c10) m2⟩
      · unfold X6_addTurn
        rw [if_neg j1, if_neg j2, if_neg j3, if_pos j4, if_neg j5, if_neg j6, if_neg j7, if_pos j8, if_pos j9, if_pos (show σ 24 1 < 10 by rw [qr_1 hR]; exact nI_lt (b := 10) c10 (by decide)), r1, qs, m1, qs]
      · have ne10 : ¬ σ 133 1 = 10 := by
          rw [qv_t hV]
          intro q
          have := (qk_eq (a := qs_t (σ 133)) (b := 10) (by omega) (by decide)).mp q
          omega
        unfold X7_addTurn
        rw [qd_in, qs, i1, if_neg (show ¬ qb true = 0 by decide), qd_in, qs, i2, if_neg (show ¬ qb true = 0 by decide), qd_in, qs, i3, if_neg (show ¬ qb true = 0 by decide), qd_in, qs, i4, if_neg (show ¬ qb true = 0 by decide), if_pos k9, qk_z1, e1', if_neg ne10, qth_e, qth_y, s1, qs, s3, qv_t hV, qd_at, qs, qk_a1, qk_a2, qk_a3, qk_a4, qk_a5, qk_a6]
        rw [qg_i (by omega) (by decide), ql, qg_i (by omega) (by decide), ql, qg_i (by omega) (by decide), ql, qg_i (by omega) (by decide), ql, qg_i (by omega) (by decide), ql, qg_i (by omega) (by decide), ql, qg_i (by omega) (by decide), ql, ql]
        rw [qk_c (by omega), qk_c (by omega), qk_c (by omega), qk_c (by omega), qk_c (by omega), qk_c (by omega), qk_c (by omega)]
        rw [qrow_up σ2, s3, qrow_up2, qrow_up2, qrow_up2, qrow_up2, qrow_up2, qrow_up2, qw_at, qu1_ne _ _ (by omega), qu1_ne _ _ (by omega), qu1_ne _ _ (by omega), qu1_ne _ _ (by omega), qu1_ne _ _ (by omega), qu1_ne _ _ (by omega), qu1_ne _ _ (by omega), qv_t hV, qk_s, qrow_up2, qw_at, qu1_at, nI_pred]
        rfl
    · have e10 : qs_t (σ 133) = 10 := by omega
      refine ⟨2, 0, f, σ, qth σ 2, qL_addTurn_2 f ?_, ?_, qth_8 _ _, fun q => absurd q (by decide), qth_i hI 2⟩
      · unfold X6_addTurn
        rw [if_neg j1, if_neg j2, if_neg j3, if_pos j4, if_neg j5, if_neg j6, if_neg j7, if_pos j8, if_pos j9, if_neg (show ¬ σ 24 1 < 10 by rw [qr_1 hR, e10]; decide)]
      · unfold X7_addTurn
        rw [qd_in, qs, i1, if_neg (show ¬ qb true = 0 by decide), qd_in, qs, i2, if_neg (show ¬ qb true = 0 by decide), qd_in, qs, i3, if_neg (show ¬ qb true = 0 by decide), qd_in, qs, i4, if_neg (show ¬ qb true = 0 by decide), if_pos k9, qk_z1, if_pos (show σ 133 1 = 10 by rw [qv_t hV, e10]; rfl), qth_e, qth_2]
  · refine ⟨1, 0, f, σ, qth σ 1, qL_addTurn_1 f ?_, ?_, qth_8 _ _, fun q => absurd q (by decide), qth_i hI 1⟩
    · unfold X6_addTurn
      by_cases j1 : x1 < 0
      · rw [if_pos j1]
      rw [if_neg j1]
      by_cases j2 : 3 < x1
      · rw [if_pos j2]
      rw [if_neg j2]
      by_cases j3 : x4 < 1
      · rw [if_pos j3]
      rw [if_neg j3]
      by_cases j4 : x4 ≤ 9
      · rw [if_pos j4]
        by_cases j5 : x2 < 0
        · rw [if_pos j5]
        rw [if_neg j5]
        by_cases j6 : 1440 < x2
        · rw [if_pos j6]
        rw [if_neg j6]
        by_cases j7 : x3 < 0
        · rw [if_pos j7]
        rw [if_neg j7]
        by_cases j8 : x3 ≤ 1440
        · rw [if_pos j8]
          rw [qf_lt, e0] at j1 j5 j7
          rw [qf_lt, e3] at j2
          rw [qf_lt, e1] at j3
          rw [qf_le, e9] at j4
          rw [qf_lt, e1440] at j6
          rw [qf_le, e1440] at j8
          by_cases j9 : 30 ≤ x3 - x2
          · exfalso
            rw [qf_le, q_i30, qf_sub (by omega) (by omega)] at j9
            apply cg; omega
          · rw [if_neg j9]
        · rw [if_neg j8]
      · rw [if_neg j4]
    · unfold X7_addTurn
      rw [qd_in, qs, qb_if]
      cases i1 : (decide (0 ≤ x1) && decide (x1 ≤ 3)) with
      | false => rw [if_neg (show ¬ false = true by decide), qth_e, qth_1]
      | true =>
        rw [if_pos rfl, qd_in, qs, qb_if]
        cases i2 : (decide (0 ≤ x2) && decide (x2 ≤ 1440)) with
        | false => rw [if_neg (show ¬ false = true by decide), qth_e, qth_1]
        | true =>
          rw [if_pos rfl, qd_in, qs, qb_if]
          cases i3 : (decide (0 ≤ x3) && decide (x3 ≤ 1440)) with
          | false => rw [if_neg (show ¬ false = true by decide), qth_e, qth_1]
          | true =>
            rw [if_pos rfl, qd_in, qs, qb_if]
            cases i4 : (decide (1 ≤ x4) && decide (x4 ≤ 9)) with
            | false => rw [if_neg (show ¬ false = true by decide), qth_e, qth_1]
            | true =>
              simp only [Bool.and_eq_true, decide_eq_true_eq, qf_le, e0, e1, e3, e9, e1440] at i1 i2 i3 i4
              have k9 : ¬ x2 + 30 ≤ x3 := by
                rw [qf_le, qf_add (by rw [q_i30]; omega) (by rw [q_i30]; omega), q_i30]
                intro q
                apply cg; omega
              rw [if_pos rfl, if_neg k9, qth_e, qth_1]
