/-! ===== turns: towed, joined, delayed ===== -/
def qmx (a b : Int32) : Int32 := if a < b then b else a
theorem qmx_i (a b : Int32) : (qmx a b).toInt = if a.toInt < b.toInt then b.toInt else a.toInt := by
  unfold qmx
  by_cases c : a < b
  · rw [if_pos c, if_pos ((qf_lt _ _).mp c)]
  · rw [if_neg c, if_neg (fun q => c ((qf_lt _ _).mpr q))]
theorem q_i0 : (0 : Int32).toInt = 0 := rfl
theorem q_i10 : (10 : Int32).toInt = 10 := rfl
theorem q_i20 : (20 : Int32).toInt = 20 := rfl
theorem q_i30 : (30 : Int32).toInt = 30 := rfl
theorem q_im1 : (-1 : Int32).toInt = -1 := by decide
/-- the minute is one for a tow -/
def qs_tm (M : Nat → Int32) (t : Nat) (m : Int32) : Bool := decide (M (93 + 7 * t) + 10 ≤ m) && decide (m ≤ M (94 + 7 * t) - 20)
theorem qs_tmi {M : Nat → Int32} (hV : qs_V M) {t : Nat} (ht : t < qs_t M) {m : Int32} (h : qs_tm M t m = true) : (M (93 + 7 * t)).toInt + 10 ≤ m.toInt ∧ m.toInt + 20 ≤ (M (94 + 7 * t)).toInt := by
  obtain ⟨h1, h2, h3, -⟩ := qv_T hV ht
  unfold qs_tm at h
  simp only [Bool.and_eq_true, decide_eq_true_eq, qf_le] at h
  rw [qf_add (by rw [q_i10]; omega) (by rw [q_i10]; omega), qf_sub (by rw [q_i20]; omega) (by rw [q_i20]; omega), q_i10, q_i20] at h
  omega
theorem qc_isTowMinute {σ : gS} {b : Nat} {M : Nat → Int32} (h : qr_R (qr_b σ b) M) {t : Nat} (ht : t < qs_t M) (m : Int32) : X0_isTowMinute σ b (nI t) m = some (qb (qs_tm M t m)) := by
  have h10 := qv_t10 h.1
  unfold X0_isTowMinute qs_tm
  rw [qg_i (by omega) (by decide), qk_c (by omega), qr_ar h ht, qr_dp h ht]
  simp only [qf_nle]
  by_cases c1 : m < M (93 + 7 * t) + 10 <;> by_cases c2 : M (94 + 7 * t) - 20 < m <;> simp [c1, c2, qb]
/-- the airport, once the turn t is towed at m -/
def qs_tow (M : Nat → Int32) (t : Nat) (m : Int32) : Nat → Int32 := qu1 (qu1 M (96 + 7 * t) m) (98 + 7 * t) (-1)
theorem qs_tow_o {M : Nat → Int32} {t : Nat} {m : Int32} {j : Nat} (h : j ≠ 96 + 7 * t) (h2 : j ≠ 98 + 7 * t) : qs_tow M t m j = M j := by
  unfold qs_tow
  rw [qu1_ne _ _ h2, qu1_ne _ _ h]
theorem qs_tow_6 (M : Nat → Int32) (t : Nat) (m : Int32) : qs_tow M t m (96 + 7 * t) = m := by
  unfold qs_tow
  rw [qu1_ne _ _ (by omega), qu1_at]
theorem qs_tow_8 (M : Nat → Int32) (t : Nat) (m : Int32) : qs_tow M t m (98 + 7 * t) = -1 := by
  unfold qs_tow
  rw [qu1_at]
theorem qs_tow_m {M : Nat → Int32} (hV : qs_V M) {t : Nat} (ht : t < qs_t M) (m : Int32) : qm_T M (qs_tow M t m) t := by
  have e : qs_t (qs_tow M t m) = qs_t M := by unfold qs_t; rw [qs_tow_o (by omega) (by omega)]
  exact ⟨fun j h1 h2 => qs_tow_o (by omega) (by omega), by rw [e, qs_tow_o (by omega) (by omega)]; exact qv_t hV, by rw [e]; exact qv_t10 hV, by rw [e]; exact ht, by omega, fun i hi _ => by rw [e] at hi; exact hi⟩
theorem qmt_0 {M M' : Nat → Int32} {t : Nat} (hm : qm_T M M' t) (h : M' (97 + 7 * t) = M (97 + 7 * t)) (ht : t < qs_t M) : qs_io M' (2 * t) = qs_io M (2 * t) ∧ qs_on M' (2 * t) = qs_on M (2 * t) := by
  have e1 : 2 * t / 2 = t := by omega
  have e2 : 2 * t % 2 = 0 := by omega
  have e3 : qs_on M' (2 * t) = qs_on M (2 * t) := by
    unfold qs_on
    rw [e1, e2]; exact h
  refine ⟨?_, e3⟩
  unfold qs_io
  rw [e3, qv_is0 ht, qv_is0 hm.2.2.2.1]
theorem qs_on1 (M : Nat → Int32) (t : Nat) : qs_on M (2 * t + 1) = M (98 + 7 * t) := by
  unfold qs_on
  rw [show (2 * t + 1) / 2 = t by omega, show (2 * t + 1) % 2 = 1 by omega, show 97 + 7 * t + 1 = 98 + 7 * t by omega]
theorem qs_on0 (M : Nat → Int32) (t : Nat) : qs_on M (2 * t) = M (97 + 7 * t) := by
  unfold qs_on
  rw [show (2 * t) / 2 = t by omega, show (2 * t) % 2 = 0 by omega, Nat.add_zero]
theorem qs_io1 {M : Nat → Int32} {t : Nat} (h : ¬ 0 ≤ M (98 + 7 * t)) : qs_io M (2 * t + 1) = false := by
  unfold qs_io
  rw [qs_on1, decide_eq_false h, Bool.and_false]
theorem qs_tow_T {M : Nat → Int32} (hV : qs_V M) {t : Nat} (ht : t < qs_t M) {m : Int32} (h : qs_tm M t m = true) : qs_T (qs_tow M t m) t := by
  have hm := qs_tow_m hV ht m
  have hi := qs_tmi hV ht h
  obtain ⟨h1, h2, h3, h4, h5, h6, h7, h8⟩ := qv_T hV ht
  unfold qs_T
  rw [qmt_n hm, qs_tow_6, qs_tow_8, qs_tow_o (j := 93 + 7 * t) (by omega) (by omega), qs_tow_o (j := 94 + 7 * t) (by omega) (by omega), qs_tow_o (j := 95 + 7 * t) (by omega) (by omega), qs_tow_o (j := 97 + 7 * t) (by omega) (by omega), q_im1]
  exact ⟨h1, h2, h3, h4, Or.inr ⟨by omega, by omega⟩, h6, ⟨by omega, by omega⟩, fun _ => rfl⟩
theorem qc_divide {σ : gS} {b : Nat} {M : Nat → Int32} (h : qr_R (qr_b σ b) M) {t : Nat} (ht : t < qs_t M) {m : Int32} (hm : qs_tm M t m = true) (hn : ¬ 0 ≤ M (96 + 7 * t)) : X0_divide σ b (nI t) m = some (M (94 + 7 * t) - m - 10, qst (g_up σ (b + 8) t m) b t) ∧ qr_R (qr_b (qst (g_up σ (b + 8) t m) b t) b) (qs_tow M t m) := by
  have hV := h.1
  have h10 := qv_t10 hV
  have hi := qs_tmi hV ht hm
  obtain ⟨h1, h2, h3, -⟩ := qv_T hV ht
  have hm0 : ¬ m < 0 := by rw [qf_lt, q_i0]; omega
  constructor
  · unfold X0_divide
    rw [qg_i (by omega) (by decide), qk_c (by omega), ql, qc_setStays _ (by omega), qs, qk_m2p, qg_i (show 2 * t + 1 < 20 by omega) (by decide), qk_c (by omega), qst_101, qst_91, qu_at, if_neg hm0, qu_a _ _ (by omega), qr_dp h ht]
    congr 2
    rw [qf_eq, qf_sub (by rw [qf_add (by rw [q_i10]; omega) (by rw [q_i10]; omega), q_i10]; omega) (by rw [qf_add (by rw [q_i10]; omega) (by rw [q_i10]; omega), q_i10]; omega), qf_add (by rw [q_i10]; omega) (by rw [q_i10]; omega), q_i10, qf_sub (by rw [qf_sub (by omega) (by omega), q_i10]; omega) (by rw [qf_sub (by omega) (by omega), q_i10]; omega), qf_sub (by omega) (by omega), q_i10]
    omega
  · have hmt := qs_tow_m hV ht m
    refine qst_R h hmt (qs_tow_T hV ht hm) (fun j hj => by rw [qu_a _ _ (by omega)]) ?_ (fun r p q => qu_a _ _ (by omega)) (fun r i p q z => ?_) ⟨?_, ?_, ?_, ?_, ?_⟩ (fun r k p q z => by rw [qu_a _ _ (by omega)]) (fun k hk => ?_)
    · rw [qu_a _ _ (by omega), qs_tow_o (by omega) (by omega)]; exact h.2.1.2.1
    · by_cases c : r = 8
      · subst c
        exact qu_j _ _ z
      · rw [qu_a _ _ (by omega)]
    · rw [qu_a _ _ (by omega), qs_tow_o (by omega) (by omega)]; exact qr_sz h ht
    · rw [qu_a _ _ (by omega), qs_tow_o (by omega) (by omega)]; exact qr_ar h ht
    · rw [qu_a _ _ (by omega), qs_tow_o (by omega) (by omega)]; exact qr_dp h ht
    · rw [qu_a _ _ (by omega), qs_tow_o (by omega) (by omega)]; exact qr_wt h ht
    · rw [qu_at, qs_tow_6]
    · rw [qu_a _ _ (by omega)]
      rcases Nat.mod_two_eq_zero_or_one k with c | c
      · have ek : k = 2 * t := by omega
        subst ek
        have := qmt_0 hmt (qs_tow_o (by omega) (by omega)) ht
        rw [this.1, this.2]
        exact qr_on h (by omega)
      · have ek : k = 2 * t + 1 := by omega
        subst ek
        rw [qs_io1 (by rw [qs_tow_8]; decide), qr_onn h (by omega) (by unfold qs_io; rw [qv_is1 ht, decide_eq_false hn]; rfl)]
        rfl
/-- why no tow -/
def qs_wt0 (M : Nat → Int32) (x1 m : Int32) : Nat := if ib x1 (qs_t M) = true then (if qs_tm M x1.toNatClampNeg m = true then (if 0 ≤ M (96 + 7 * x1.toNatClampNeg) then 3 else 0) else 2) else 1
theorem qd_whyNoTow {σ : gS} (h : qs_V (σ 133)) (x1 m : Int32) : X7_whyNoTow σ x1 m = some (nI (qs_wt0 (σ 133) x1 m)) := by
  have h10 := qv_t10 h
  unfold X7_whyNoTow qs_wt0
  rw [qd_isTurn h, qs]
  cases c : ib x1 (qs_t (σ 133)) with
  | false => rfl
  | true =>
    obtain ⟨t, ht, rfl⟩ := qi_of c
    rw [if_neg (show ¬ qb true = 0 by decide), if_pos rfl, qd_at, qs, qk_a1, qk_a2, qg_i (by omega) (by decide), qg_i (by omega) (by decide), qk_c (by omega), qk_c (by omega), qk_c (by omega), qd_in, qs, qb_if, qd_tow (by omega), qs]
    show (if qs_tm (σ 133) t m = true then _ else _) = _
    by_cases c2 : qs_tm (σ 133) t m = true
    · rw [if_pos c2, if_pos c2]
      by_cases c3 : 0 ≤ σ 133 (96 + 7 * t)
      · rw [if_neg (fun q => (qf_lt0 _).mp q c3), if_pos c3]; rfl
      · rw [if_pos ((qf_lt0 _).mpr c3), if_neg c3]; rfl
    · rw [if_neg c2, if_neg c2]; rfl
theorem qd_doTow {σ : gS} (h : qs_V (σ 133)) (x1 m : Int32) : X7_doTow σ x1 m = some (nI (qs_wt0 (σ 133) x1 m), if qs_wt0 (σ 133) x1 m = 0 then g_row σ 133 (qs_tow (σ 133) x1.toNatClampNeg m) else σ) := by
  have h10 := qv_t10 h
  unfold X7_doTow
  rw [qd_whyNoTow h, qs]
  by_cases c : qs_wt0 (σ 133) x1 m = 0
  · have c1 : ib x1 (qs_t (σ 133)) = true := by
      unfold qs_wt0 at c
      by_cases q : ib x1 (qs_t (σ 133)) = true
      · exact q
      · rw [if_neg q] at c; cases c
    obtain ⟨t, ht, rfl⟩ := qi_of c1
    rw [c, if_pos nI_0, qd_at, qs, qk_a4, qg_i (by omega) (by decide), qk_c (by omega), ql, qd_at, qs, qk_a6, qg_i (by omega) (by decide), qk_c (by omega), ql, if_pos rfl, qk_c (by omega), qrow_up σ, qrow_up2]
    rfl
  · have : qs_wt0 (σ 133) x1 m < 4 := by
      unfold qs_wt0
      split
      · split
        · split <;> decide
        · decide
      · decide
    rw [if_neg (nI_ne0 (by omega) (by omega)), if_neg c]
theorem qs_tow_cut {M : Nat → Int32} (h : qcut M = M) {t : Nat} (ht : t < 10) (m : Int32) : qcut (qs_tow M t m) = qs_tow M t m := qu1_cut (qu1_cut h (by omega) _) (by omega) _
theorem qks_i {σ : gS} (hI : qi σ) (v : Int32) : qi (qth (qks σ) v) := qth_i (qi_c hI (fun a p => qks_a σ (by omega)) (fun j p => by rw [qks_a σ (by decide)]) (by rw [qks_a σ (by decide)]) (fun j p => by rw [qks_a σ (by decide)])) v
theorem qo_tow : o_tow qi := by
  intro σ hI f x1 x2
  have hV := qi_V hI
  have hR := qi_R hI
  have h10 := qv_t10 hV
  have e133k : (qks σ) 133 = σ 133 := qks_a σ (by decide)
  have hVk : qs_V ((qks σ) 133) := by rw [e133k]; exact hV
  have bad : ∀ w, w ≠ 0 → qs_wt0 (σ 133) x1 x2 = w → w < 4 → X7_tow_ σ x1 x2 = some (0, qth (qks σ) (nI w)) := by
    intro w w0 hw w4
    unfold X7_tow_
    rw [qks_eq, qs, qd_doTow hVk, qs, e133k, hw, if_neg w0, qth_e, qth_8, if_neg (nI_nle (by omega) (by omega))]
  cases c : ib x1 (qs_t (σ 133)) with
  | false =>
    refine ⟨1, 0, f, σ, qth (qks σ) 1, qL_tow_1 f ?_, bad 1 (by decide) (by unfold qs_wt0; rw [c]; rfl) (by decide), qth_8 _ _, fun q => absurd q (by decide), qks_i hI 1⟩
    unfold X6_tow
    rw [qc_hasTurn hR, qs, c, if_pos qb_f]
  | true =>
    obtain ⟨t, ht, rfl⟩ := qi_of c
    have ec : (nI t).toNatClampNeg = t := qk_c (by omega)
    cases c2 : qs_tm (σ 133) t x2 with
    | false =>
      refine ⟨2, 0, f, σ, qth (qks σ) 2, qL_tow_2 f ?_, bad 2 (by decide) (by unfold qs_wt0; rw [c, ec, c2]; rfl) (by decide), qth_8 _ _, fun q => absurd q (by decide), qks_i hI 2⟩
      unfold X6_tow
      rw [qc_hasTurn hR, qs, c, if_neg (show ¬ qb true = 0 by decide), qc_isTowMinute hR ht, qs, c2, if_pos qb_f]
    | true =>
      by_cases c3 : 0 ≤ σ 133 (96 + 7 * t)
      · refine ⟨3, 0, f, σ, qth (qks σ) 3, qL_tow_3 f ?_, bad 3 (by decide) (by unfold qs_wt0; rw [c, ec, c2, if_pos rfl, if_pos rfl, if_pos c3]) (by decide), qth_8 _ _, fun q => absurd q (by decide), qks_i hI 3⟩
        unfold X6_tow
        rw [qc_hasTurn hR, qs, c, if_neg (show ¬ qb true = 0 by decide), qc_isTowMinute hR ht, qs, c2, if_neg (show ¬ qb true = 0 by decide), qc_hasTow hR ht, qs, decide_eq_true c3, if_neg (show ¬ qb true = 0 by decide)]
      · obtain ⟨σ1, r1, r2, -, r3⟩ := q_rem hI
        have hR1 : qr_R (qr_b σ1 24) (σ 133) := by rw [q_rb r2]; exact hR
        obtain ⟨m1, m2⟩ := qc_divide hR1 ht c2 c3
        have ho : ∀ a, (a < 24 ∨ 36 ≤ a) → qst (g_up σ1 (24 + 8) t x2) 24 t a = σ1 a := fun a p => by rw [qst_a _ (by omega) (by omega), qu_a _ _ (by omega)]
        obtain ⟨σ2, s1, s2, s3, s4⟩ := r3 (qst (g_up σ1 (24 + 8) t x2) 24 t) (qs_tow (σ 133) t x2) ho
        have e1 : (qks (qst (g_up σ1 (24 + 8) t x2) 24 t)) 133 = σ 133 := by rw [qks_a _ (by decide), ho 133 (by decide), r2 133 (by decide) (by decide)]
        have hV1 : qs_V ((qks (qst (g_up σ1 (24 + 8) t x2) 24 t)) 133) := by rw [e1]; exact hV
        refine ⟨0, σ 133 (94 + 7 * t) - x2 - 10, _, qst (g_up σ1 (24 + 8) t x2) 24 t, σ2, qL_tow_r f (r := σ 133 (94 + 7 * t) - x2 - 10) ?_, ?_, s3, fun _ => qup0 _ _, s4 (qs_tow_cut hI.1.2 (by omega) _) m2⟩
        · unfold X6_tow
          rw [qc_hasTurn hR, qs, c, if_neg (show ¬ qb true = 0 by decide), qc_isTowMinute hR ht, qs, c2, if_neg (show ¬ qb true = 0 by decide), qc_hasTow hR ht, qs, decide_eq_false c3, if_pos qb_f, r1, qs, m1, qs]
        · have w0 : qs_wt0 (σ 133) (nI t) x2 = 0 := by unfold qs_wt0; rw [c, ec, c2, if_pos rfl, if_pos rfl, if_neg c3]
          unfold X7_tow_
          rw [qks_eq, qs, qd_doTow hV1, qs, e1, w0, if_pos rfl, qth_e, show nI 0 = 0 from rfl, qth_y, ec, s1, qs, qd_at, qs, qk_a2, qg_i (by omega) (by decide), qk_c (by omega), s2, qs_tow_o (by omega) (by omega)]
/-! a tow ends -/
theorem qs_unt_T {M : Nat → Int32} (hV : qs_V M) {t : Nat} (ht : t < qs_t M) : qs_T (qs_tow M t (-1)) t := by
  have hm := qs_tow_m hV ht (-1)
  obtain ⟨h1, h2, h3, h4, h5, h6, h7, h8⟩ := qv_T hV ht
  unfold qs_T
  rw [qmt_n hm, qs_tow_6, qs_tow_8, qs_tow_o (j := 93 + 7 * t) (by omega) (by omega), qs_tow_o (j := 94 + 7 * t) (by omega) (by omega), qs_tow_o (j := 95 + 7 * t) (by omega) (by omega), qs_tow_o (j := 97 + 7 * t) (by omega) (by omega)]
  exact ⟨h1, h2, h3, h4, Or.inl rfl, h6, ⟨by rw [q_im1]; omega, by rw [q_im1]; omega⟩, fun _ => rfl⟩
theorem qc_join {σ : gS} {b : Nat} {M : Nat → Int32} (h : qr_R (qr_b σ b) M) {t : Nat} (ht : t < qs_t M) : X0_join σ b (nI t) = some (σ (b + 11) (2 * t + 1), qst (g_up (g_up σ (b + 8) t (-1)) (b + 11) (2 * t + 1) (-1)) b t) ∧ qr_R (qr_b (qst (g_up (g_up σ (b + 8) t (-1)) (b + 11) (2 * t + 1) (-1)) b t) b) (qs_tow M t (-1)) := by
  have hV := h.1
  have h10 := qv_t10 hV
  constructor
  · unfold X0_join
    rw [qk_m2p, qg_i (show 2 * t + 1 < 20 by omega) (by decide), qg_i (by omega) (by decide), qk_c (by omega), qk_c (by omega), ql, ql, qc_setStays _ (by omega), qs]
  · have hmt := qs_tow_m hV ht (-1)
    refine qst_R h hmt (qs_unt_T hV ht) (fun j hj => by rw [qu_a _ _ (by omega), qu_a _ _ (by omega)]) ?_ (fun r p q => by rw [qu_a _ _ (by omega), qu_a _ _ (by omega)]) (fun r i p q z => ?_) ⟨?_, ?_, ?_, ?_, ?_⟩ (fun r k p q z => ?_) (fun k hk => ?_)
    · rw [qu_a _ _ (by omega), qu_a _ _ (by omega), qs_tow_o (by omega) (by omega)]; exact h.2.1.2.1
    · rw [qu_a _ _ (by omega)]
      by_cases c : r = 8
      · subst c
        exact qu_j _ _ z
      · rw [qu_a _ _ (by omega)]
    · rw [qu_a _ _ (by omega), qu_a _ _ (by omega), qs_tow_o (by omega) (by omega)]; exact qr_sz h ht
    · rw [qu_a _ _ (by omega), qu_a _ _ (by omega), qs_tow_o (by omega) (by omega)]; exact qr_ar h ht
    · rw [qu_a _ _ (by omega), qu_a _ _ (by omega), qs_tow_o (by omega) (by omega)]; exact qr_dp h ht
    · rw [qu_a _ _ (by omega), qu_a _ _ (by omega), qs_tow_o (by omega) (by omega)]; exact qr_wt h ht
    · rw [qu_a _ _ (by omega), qu_at, qs_tow_6]
    · by_cases c : r = 11
      · subst c
        rw [qu_j _ _ (by omega), qu_a _ _ (by omega)]
      · rw [qu_a _ _ (by omega), qu_a _ _ (by omega)]
    · rcases Nat.mod_two_eq_zero_or_one k with c | c
      · have ek : k = 2 * t := by omega
        subst ek
        have := qmt_0 hmt (qs_tow_o (by omega) (by omega)) ht
        rw [qu_j _ _ (by omega), qu_a _ _ (by omega), this.1, this.2]
        exact qr_on h (by omega)
      · have ek : k = 2 * t + 1 := by omega
        subst ek
        rw [qs_io1 (by rw [qs_tow_8]; decide), qu_at]
        rfl
theorem qo_untow : o_untow qi := by
  intro σ hI f x1
  have hV := qi_V hI
  have hR := qi_R hI
  have h10 := qv_t10 hV
  cases c : ib x1 (qs_t (σ 133)) with
  | false =>
    refine ⟨1, 0, f, σ, qth σ 1, qL_untow_1 f ?_, ?_, qth_8 _ _, fun q => absurd q (by decide), qth_i hI 1⟩
    · unfold X6_untow
      rw [qc_hasTurn hR, qs, c, if_pos qb_f]
    · unfold X7_untow
      rw [qd_isTurn hV, qs, c, if_pos qb_f, qth_e, qth_1]
  | true =>
    obtain ⟨t, ht, rfl⟩ := qi_of c
    by_cases c3 : 0 ≤ σ 133 (96 + 7 * t)
    · obtain ⟨σ1, r1, r2, r3, -⟩ := q_rem hI
      have hR1 : qr_R (qr_b σ1 24) (σ 133) := by rw [q_rb r2]; exact hR
      obtain ⟨m1, m2⟩ := qc_join hR1 ht
      have ho : ∀ a, (a < 24 ∨ 36 ≤ a) → qst (g_up (g_up σ1 (24 + 8) t (-1)) (24 + 11) (2 * t + 1) (-1)) 24 t a = σ1 a := fun a p => by rw [qst_a _ (by omega) (by omega), qu_a _ _ (by omega), qu_a _ _ (by omega)]
      obtain ⟨σ2, s1, s2, s3, s4, s5⟩ := r3 (qst (g_up (g_up σ1 (24 + 8) t (-1)) (24 + 11) (2 * t + 1) (-1)) 24 t) ho
      have e1 : (qst (g_up (g_up σ1 (24 + 8) t (-1)) (24 + 11) (2 * t + 1) (-1)) 24 t) 133 = σ 133 := by rw [ho 133 (by decide), r2 133 (by decide) (by decide)]
      have hV1 : qs_V ((qst (g_up (g_up σ1 (24 + 8) t (-1)) (24 + 11) (2 * t + 1) (-1)) 24 t) 133) := by rw [e1]; exact hV
      refine ⟨0, σ 133 (98 + 7 * t), _, qst (g_up (g_up σ1 (24 + 8) t (-1)) (24 + 11) (2 * t + 1) (-1)) 24 t, g_row σ2 133 (qs_tow (σ 133) t (-1)), qL_untow_r f (r := σ1 (24 + 11) (2 * t + 1)) ?_, ?_, s4 _, fun _ => ?_, s5 _ (qs_tow_cut hI.1.2 (by omega) _) m2⟩
      · unfold X6_untow
        rw [qc_hasTurn hR, qs, c, if_neg (show ¬ qb true = 0 by decide), qc_hasTow hR ht, qs, decide_eq_true c3, if_neg (show ¬ qb true = 0 by decide), r1, qs, m1, qs]
      · have eu : g_up (g_up σ2 133 (96 + 7 * t) (-1)) 133 (98 + 7 * t) (-1) = g_row σ2 133 (qs_tow (σ 133) t (-1)) := by
          rw [qrow_up σ2, qrow_up2, s3]; rfl
        unfold X7_untow
        rw [qd_isTurn hV1, qs, e1, c, if_neg (show ¬ qb true = 0 by decide), qd_tow (by omega), qs, e1, if_pos c3, qth_e, qth_y, s1, qs, qk_m2p, qd_on (by omega), qs, qd_at, qs, qk_a4, qg_i (by omega) (by decide), qk_c (by omega), ql, qd_at, qs, qk_a6, qg_i (by omega) (by decide), qk_c (by omega), ql, eu, s3, qs_on1]
      · rw [qup0, r2 _ (by decide) (by decide)]
        show (σ (24 + 11) (2 * t + 1)).toInt64 = _
        rw [qr_ons hR (by rw [qv_is1 ht]; exact decide_eq_true c3), qs_on1]
    · refine ⟨2, 0, f, σ, qth σ 2, qL_untow_2 f ?_, ?_, qth_8 _ _, fun q => absurd q (by decide), qth_i hI 2⟩
      · unfold X6_untow
        rw [qc_hasTurn hR, qs, c, if_neg (show ¬ qb true = 0 by decide), qc_hasTow hR ht, qs, decide_eq_false c3, if_pos qb_f]
      · unfold X7_untow
        rw [qd_isTurn hV, qs, c, if_neg (show ¬ qb true = 0 by decide), qd_tow (by omega), qs, if_neg c3, qth_e, qth_2]
