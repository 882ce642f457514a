/-! ===== conflicts, accounts ===== -/
def qns : Nat → (Nat → Nat) → Nat
  | 0, _ => 0
  | n + 1, g => qns n g + g n
theorem qns_congr : ∀ {n : Nat} {f g : Nat → Nat}, (∀ k, k < n → f k = g k) → qns n f = qns n g
  | 0, f, g, h => rfl
  | n + 1, f, g, h => by
    show qns n f + f n = qns n g + g n
    rw [qns_congr (fun k hk => h k (by omega)), h n (by omega)]
theorem qns_add : ∀ (n : Nat) (f g : Nat → Nat), qns n (fun k => f k + g k) = qns n f + qns n g
  | 0, f, g => rfl
  | n + 1, f, g => by
    show qns n (fun k => f k + g k) + (f n + g n) = qns n f + f n + (qns n g + g n)
    rw [qns_add n f g]; omega
theorem qns_cnt (p : Nat → Bool) : ∀ n, qns n (fun k => if p k = true then 1 else 0) = qcnt n p
  | 0 => rfl
  | n + 1 => by
    show qns n (fun k => if p k = true then 1 else 0) + _ = _
    rw [qns_cnt p n]; rfl
theorem qns_le {n b : Nat} {f : Nat → Nat} (h : ∀ k, f k ≤ b) : qns n f ≤ n * b := by
  induction n with
  | zero => exact Nat.zero_le _
  | succ n ih =>
    show qns n f + f n ≤ _
    have := h n
    rw [Nat.succ_mul]; omega
/-- each pair is met from both of its stays -/
theorem qns_pairs {p : Nat → Nat → Bool} (hs : ∀ a b, p a b = p b a) (hi : ∀ a, p a a = false) : ∀ n, qns n (fun a => qcnt n (p a)) = 2 * qns n (fun a => qcnt a (p a))
  | 0 => rfl
  | n + 1 => by
    show qns n (fun a => qcnt (n + 1) (p a)) + qcnt (n + 1) (p n) = 2 * (qns n (fun a => qcnt a (p a)) + qcnt n (p n))
    rw [qcnt_n (hi n)]
    have e : qns n (fun a => qcnt (n + 1) (p a)) = qns n (fun a => qcnt n (p a)) + qcnt n (p n) := by
      rw [← qns_cnt (p n) n, ← qns_add]
      refine qns_congr (fun k _ => ?_)
      show qcnt n (p k) + (if p k n = true then 1 else 0) = _
      rw [hs k n]
    rw [e, qns_pairs hs hi n]; omega
theorem qs_w_sym {M : Nat → Int32} (hV : qs_V M) {a b r s : Nat} (hr : r < 8) (hs : s < 8) : qs_w M a r b s = qs_w M b s a r := by
  unfold qs_w
  by_cases c : r = s
  · subst c
    rw [if_pos rfl, if_pos rfl, Bool.and_comm]
  · rw [if_neg c, if_neg (fun q => c q.symm), qv_li hV hr hs, Int32.add_comm (qs_sz M b), Bool.and_comm (decide (qs_fr M b < qs_to M a))]
theorem qs_cf_sym {M : Nat → Int32} (hV : qs_V M) (a b : Nat) : qs_cf M a b = qs_cf M b a := by
  have h8 := qv_n8 hV
  unfold qs_cf qs_cl
  by_cases c : b = a
  · subst c; rfl
  · rw [decide_eq_false c, decide_eq_false (fun q : a = b => c q.symm)]
    cases ca : qs_io M a with
    | false => simp
    | true =>
      cases cb : qs_io M b with
      | false => simp
      | true =>
        have h1 := (qv_sn hV ca).2
        have h2 := (qv_sn hV cb).2
        rw [qs_w_sym hV (show qs_sn M a < 8 by omega) (show qs_sn M b < 8 by omega)]
theorem qs_cf_irr (M : Nat → Int32) (a : Nat) : qs_cf M a a = false := by
  unfold qs_cf qs_cl
  rw [decide_eq_true rfl]; simp
def qs_np (M : Nat → Int32) : Nat := qns 20 (fun a => qcnt a (qs_cf M a))
theorem qs_np_le (M : Nat → Int32) : qs_np M ≤ 20 * 20 := by
  unfold qs_np
  have h : ∀ n, n ≤ 20 → qns n (fun a => qcnt a (qs_cf M a)) ≤ n * 20 := by
    intro n
    induction n with
    | zero => intro _; exact Nat.zero_le _
    | succ n ih =>
      intro hn
      have h1 := ih (by omega)
      have h2 := qcnt_le n (qs_cf M n)
      show qns n (fun a => qcnt a (qs_cf M a)) + qcnt n (qs_cf M n) ≤ _
      rw [Nat.succ_mul]; omega
  exact h 20 (by decide)
theorem qc_conflicts {σ : gS} {M : Nat → Int32} (h : qr_R (qr_b σ 24) M) : X6_conflicts σ = some (nI (qs_np M)) := by
  have hV := h.1
  refine qf_for (N := 20) (fun i => (nI (qns i (fun a => qcnt 20 (qs_cf M a))), nI i)) (fun i hi => ?_) ?_ 0 (by omega)
  · show X6_conflicts_k0 σ (nI (qns i (fun a => qcnt 20 (qs_cf M a)))) (nI i) = some (.inl (nI (qns i (fun a => qcnt 20 (qs_cf M a)) + qcnt 20 (qs_cf M i)), nI (i + 1)))
    unfold X6_conflicts_k0
    rw [if_neg (qk_20 hi), qk_s, qc_conflictsOf h hi, qs, q_bc, qs, nI_add]
  · show X6_conflicts_k0 σ (nI (qns 20 (fun a => qcnt 20 (qs_cf M a)))) (nI 20) = _
    unfold X6_conflicts_k0
    have hl := qs_np_le M
    rw [if_pos qk_e20, qns_pairs (qs_cf_sym hV) (qs_cf_irr M) 20]
    show some (Sum.inr (nI (2 * qs_np M) >>> ((1 : Int32) &&& 31))) = _
    have e := qf_shr (n := 2 * qs_np M) (k := 1) (by omega) (by decide)
    rw [show (1 : Int32) = nI 1 from rfl, e, show 2 * qs_np M / 2 ^ 1 = qs_np M by omega]
theorem qd_conflicts {σ : gS} (h : qs_V (σ 133)) : gr X7_conflicts_s (0, 0, 0, 0, σ) = some (nI (qs_np (σ 133)), σ) := by
  have inner : ∀ a, a < 20 → ∀ k i, i + k = a → gr X7_conflicts_s (1, nI (qns a (fun a => qcnt a (qs_cf (σ 133) a)) + qcnt i (qs_cf (σ 133) a)), nI a, nI i, σ) = gr X7_conflicts_s (0, nI (qns (a + 1) (fun a => qcnt a (qs_cf (σ 133) a))), nI (a + 1), 0, σ) := by
    intro a ha k
    induction k with
    | zero =>
      intro i hi
      have e : i = a := by omega
      subst e
      rw [gr_eq]
      show (X7_conflicts_k1 σ (nI _) (nI i) (nI i)).bind _ = _
      unfold X7_conflicts_k1
      rw [if_pos (qk_end (by omega)), qs, qk_s]
      rfl
    | succ k ih =>
      intro i hi
      rw [gr_eq]
      show (X7_conflicts_k1 σ (nI _) (nI a) (nI i)).bind _ = _
      unfold X7_conflicts_k1
      rw [if_neg (qk_ge (show i < a by omega) (by omega)), qd_areInConflict h ha (by omega), qs, qb_if, qk_s, qk_s]
      rw [← ih (i + 1) (by omega)]
      cases c : qs_cf (σ 133) a i with
      | false => rw [if_neg (by decide), Int32.add_zero, qs, qcnt_n c]
      | true => rw [if_pos rfl, qs, qcnt_y c]; rfl
  have outer : ∀ k a, a + k = 20 → gr X7_conflicts_s (0, nI (qns a (fun a => qcnt a (qs_cf (σ 133) a))), nI a, 0, σ) = some (nI (qs_np (σ 133)), σ) := by
    intro k
    induction k with
    | zero =>
      intro a ha
      have e : a = 20 := by omega
      subst e
      rw [gr_eq]
      show (X7_conflicts_k0 σ (nI _) (nI 20)).bind _ = _
      unfold X7_conflicts_k0
      rw [if_pos qk_e20, qs]
      rfl
    | succ k ih =>
      intro a ha
      rw [gr_eq]
      show (X7_conflicts_k0 σ (nI _) (nI a)).bind _ = _
      unfold X7_conflicts_k0
      rw [if_neg (qk_20 (by omega)), qs]
      have := inner a (by omega) a 0 (by omega)
      rw [← ih (a + 1) (by omega), ← this]
      rfl
  exact outer 20 0 (by omega)
theorem qo_conflicts : o_conflicts qi := by
  intro σ hI
  have hV := qi_V hI
  refine ⟨nI (qs_np (σ 133)), qth σ 0, qc_conflicts (qi_R hI), ?_, qth_i hI 0⟩
  unfold X7_conflicts
  rw [qth_e, qd_conflicts (qth_V hV 0), qth_133]
theorem qsum_ov3 (M : Nat → Int32) : qsum 20 (qs_ov M 3) = nI (qcnt 20 (qs_io M)) := by
  rw [← qsum_cnt]
  exact qsum_congr (fun k _ => by unfold qs_ov; rw [if_neg (by decide), if_pos rfl])
theorem qsum_ov6 (M : Nat → Int32) : qsum 20 (qs_ov M 6) = qsum 20 (qs_ln M (qs_is M)) := qsum_congr (fun k _ => by unfold qs_ov; rw [if_pos rfl])
theorem qsum_ov7 (M : Nat → Int32) : qsum 20 (qs_ov M 7) = qsum 20 (qs_ln M (qs_io M)) := qsum_congr (fun k _ => by unfold qs_ov; rw [if_neg (by decide), if_neg (by decide), if_pos rfl])
theorem qsum_ov8 (M : Nat → Int32) : qsum 20 (qs_ov M 8) = nI (qcnt 20 (qs_hi M)) := by
  rw [← qsum_cnt]
  exact qsum_congr (fun k _ => by unfold qs_ov; rw [if_neg (by decide), if_neg (by decide), if_neg (by decide)])
theorem qo_account : o_account qi := by
  intro σ hI f x1
  have hV := qi_V hI
  have hR := qi_R hI
  have h10 := qv_t10 hV
  have hV0 := qth_V hV 0
  by_cases e7 : ∀ j, j ≤ 10 → x1 ≠ nI j
  · refine ⟨1, 0, f, σ, qth σ 1, qL_account_1 f ?_, ?_, qth_8 _ _, fun q => absurd q (by decide), qth_i hI 1⟩
    · unfold X6_account
      rw [if_neg (show ¬ x1 = 0 from e7 0 (by decide)), if_neg (show ¬ x1 = 1 from e7 1 (by decide)), if_neg (show ¬ x1 = 2 from e7 2 (by decide)), if_neg (show ¬ x1 = 3 from e7 3 (by decide)), if_neg (show ¬ x1 = 4 from e7 4 (by decide)), if_neg (show ¬ x1 = 5 from e7 5 (by decide)), if_neg (show ¬ x1 = 6 from e7 6 (by decide)), if_neg (show ¬ x1 = 7 from e7 7 (by decide)), if_neg (show ¬ x1 = 8 from e7 8 (by decide)), if_neg (show ¬ x1 = 9 from e7 9 (by decide)), if_neg (show ¬ x1 = 10 from e7 10 (by decide))]
    · unfold X7_account
      rw [qd_in, qs, show (10 : Int32) = nI 10 from rfl, q_nin (by decide) e7, if_pos qb_f, qth_e, qth_1]
  · have e8 : ∃ j : Nat, j ≤ 10 ∧ x1 = nI j := by
      refine Classical.byContradiction (fun q => e7 (fun j hj e => q ⟨j, hj, e⟩))
    obtain ⟨j, hj, rfl⟩ := e8
    have hj6 : (decide (0 ≤ nI j) && decide (nI j ≤ 10)) = true := by
      rw [decide_eq_true (nI_pos' (by omega)), decide_eq_true (show nI j ≤ 10 from nI_le (b := 10) hj (by decide))]; rfl
    have main : ∃ r, X6_account σ (nI j) = some (.inr r, σ) ∧ X7_account σ (nI j) = some (r, qth σ 0) := by
      unfold X7_account
      rw [qd_in, qs, hj6, if_neg (show ¬ qb true = 0 by decide), qth_e, qth_y]
      simp only [qd_tows hV0, qs, qd_overStays hV0, qd_cost hV0, qd_remotel hV0, qth_133, qk_z0, qk_z1, qk_z3]
      unfold X6_account
      rcases (show j = 0 ∨ j = 1 ∨ j = 2 ∨ j = 3 ∨ j = 4 ∨ j = 5 ∨ j = 6 ∨ j = 7 ∨ j = 8 ∨ j = 9 ∨ j = 10 by omega) with rfl | rfl | rfl | rfl | rfl | rfl | rfl | rfl | rfl | rfl | rfl
      · refine ⟨σ 133 0, ?_, rfl⟩
        rw [if_pos (by decide), qr_0 hR, ← qv_n hV]
      · refine ⟨σ 133 1, ?_, rfl⟩
        rw [if_neg (by decide), if_pos (by decide), qr_1 hR, ← qv_t hV]
      · refine ⟨_, ?_, rfl⟩
        rw [if_neg (by decide), if_neg (by decide), if_pos (by decide), qc_allStays hR, qs, q_bc, qs, qs_cnt_is hV, qv_t hV, nI_add]
      · refine ⟨_, ?_, rfl⟩
        rw [if_neg (by decide), if_neg (by decide), if_neg (by decide), if_pos (by decide), qc_staysOnStands hR, qs, q_bc, qs, show nI 3 = 3 from rfl, qsum_ov3]
      · refine ⟨_, ?_, rfl⟩
        rw [if_neg (by decide), if_neg (by decide), if_neg (by decide), if_neg (by decide), if_pos (by decide), qc_costOfAll hR, qs]
      · refine ⟨_, ?_, rfl⟩
        rw [if_neg (by decide), if_neg (by decide), if_neg (by decide), if_neg (by decide), if_neg (by decide), if_pos (by decide), qc_allStays hR, qs, q_bc, qs, qs_cnt_is hV, qr_1 hR, pk_sub (by omega), Nat.add_sub_cancel_left]
      · refine ⟨_, ?_, rfl⟩
        rw [if_neg (by decide), if_neg (by decide), if_neg (by decide), if_neg (by decide), if_neg (by decide), if_neg (by decide), if_pos (by decide), qc_allStays hR, qs, qc_len hR (fun k _ hk => hk), qs, show nI 6 = 6 from rfl, qsum_ov6]
      · refine ⟨_, ?_, rfl⟩
        rw [if_neg (by decide), if_neg (by decide), if_neg (by decide), if_neg (by decide), if_neg (by decide), if_neg (by decide), if_neg (by decide), if_pos (by decide), qc_staysOnStands hR, qs, qc_len hR (fun k _ hk => qs_io_is hk), qs, show nI 7 = 7 from rfl, qsum_ov7]
      · refine ⟨_, ?_, rfl⟩
        rw [if_neg (by decide), if_neg (by decide), if_neg (by decide), if_neg (by decide), if_neg (by decide), if_neg (by decide), if_neg (by decide), if_neg (by decide), if_pos (by decide), qc_hinderedStays hR, qs, q_bc, qs, show nI 8 = 8 from rfl, qsum_ov8]
      · refine ⟨_, ?_, rfl⟩
        rw [if_neg (by decide), if_neg (by decide), if_neg (by decide), if_neg (by decide), if_neg (by decide), if_neg (by decide), if_neg (by decide), if_neg (by decide), if_neg (by decide), if_pos (by decide), qr_3 hR]
      · refine ⟨_, ?_, rfl⟩
        rw [if_neg (by decide), if_neg (by decide), if_neg (by decide), if_neg (by decide), if_neg (by decide), if_neg (by decide), if_neg (by decide), if_neg (by decide), if_neg (by decide), if_neg (by decide), if_pos (by decide), qc_weightsOnRemote hR, qs]
    obtain ⟨r, m1, m2⟩ := main
    exact ⟨0, r, _, σ, qth σ 0, qL_account_r f m1, m2, qth_8 _ _, fun _ => qup0 _ _, qth_i hI 0⟩
