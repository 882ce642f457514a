/-! ===== delays; new turns; new stands ===== -/
def qs_a30 (M : Nat → Int32) (t : Nat) (x : Int32) : Int32 := M (93 + 7 * t) + x + 30
def qs_a10 (M : Nat → Int32) (t : Nat) (x : Int32) : Int32 := M (93 + 7 * t) + x + 10
def qs_ntw (M : Nat → Int32) (t : Nat) (x : Int32) : Int32 := qmx (M (96 + 7 * t)) (qs_a10 M t x)
/-- the departure then -/
def qs_ndp (M : Nat → Int32) (t : Nat) (x : Int32) : Int32 := if M (96 + 7 * t) < 0 then qmx (M (94 + 7 * t)) (qs_a30 M t x) else qmx (qmx (M (94 + 7 * t)) (qs_a30 M t x)) (qs_ntw M t x + 20)
/-- the airport then -/
def qs_dly (M : Nat → Int32) (t : Nat) (x : Int32) : Nat → Int32 := qu1 (qu1 (qu1 M (93 + 7 * t) (M (93 + 7 * t) + x)) (94 + 7 * t) (qs_ndp M t x)) (96 + 7 * t) (if M (96 + 7 * t) < 0 then -1 else qs_ntw M t x)
theorem qs_dly_o {M : Nat → Int32} {t : Nat} {x : Int32} {j : Nat} (h : j ≠ 93 + 7 * t) (h2 : j ≠ 94 + 7 * t) (h3 : j ≠ 96 + 7 * t) : qs_dly M t x j = M j := by
  unfold qs_dly
  rw [qu1_ne _ _ h3, qu1_ne _ _ h2, qu1_ne _ _ h]
theorem qs_dly_3 (M : Nat → Int32) (t : Nat) (x : Int32) : qs_dly M t x (93 + 7 * t) = M (93 + 7 * t) + x := by
  unfold qs_dly
  rw [qu1_ne _ _ (by omega), qu1_ne _ _ (by omega), qu1_at]
theorem qs_dly_4 (M : Nat → Int32) (t : Nat) (x : Int32) : qs_dly M t x (94 + 7 * t) = qs_ndp M t x := by
  unfold qs_dly
  rw [qu1_ne _ _ (by omega), qu1_at]
theorem qs_dly_6 (M : Nat → Int32) (t : Nat) (x : Int32) : qs_dly M t x (96 + 7 * t) = if M (96 + 7 * t) < 0 then -1 else qs_ntw M t x := by
  unfold qs_dly
  rw [qu1_at]
section DL
variable {M : Nat → Int32} {t : Nat} {x : Int32}
theorem qs_dly_i (hV : qs_V M) (ht : t < qs_t M) (h1 : 1 ≤ x.toInt) (h2 : x.toInt ≤ 300) :
    (M (93 + 7 * t) + x).toInt = (M (93 + 7 * t)).toInt + x.toInt ∧ (qs_a30 M t x).toInt = (M (93 + 7 * t)).toInt + x.toInt + 30 ∧ (qs_a10 M t x).toInt = (M (93 + 7 * t)).toInt + x.toInt + 10 ∧ (0 ≤ (M (96 + 7 * t)).toInt → (qs_ntw M t x + 20).toInt = (qs_ntw M t x).toInt + 20 ∧ 0 ≤ (qs_ntw M t x).toInt ∧ (qs_ntw M t x).toInt = if (M (96 + 7 * t)).toInt < (M (93 + 7 * t)).toInt + x.toInt + 10 then (M (93 + 7 * t)).toInt + x.toInt + 10 else (M (96 + 7 * t)).toInt) := by
  obtain ⟨a1, a2, a3, -, a5, -⟩ := qv_T hV ht
  have e1 : (M (93 + 7 * t) + x).toInt = (M (93 + 7 * t)).toInt + x.toInt := qf_add (by omega) (by omega)
  have e2 : (qs_a30 M t x).toInt = (M (93 + 7 * t)).toInt + x.toInt + 30 := by
    unfold qs_a30
    rw [qf_add (by rw [e1, q_i30]; omega) (by rw [e1, q_i30]; omega), e1, q_i30]
  have e3 : (qs_a10 M t x).toInt = (M (93 + 7 * t)).toInt + x.toInt + 10 := by
    unfold qs_a10
    rw [qf_add (by rw [e1, q_i10]; omega) (by rw [e1, q_i10]; omega), e1, q_i10]
  refine ⟨e1, e2, e3, fun h => ?_⟩
  have e4 : (qs_ntw M t x).toInt = if (M (96 + 7 * t)).toInt < (M (93 + 7 * t)).toInt + x.toInt + 10 then (M (93 + 7 * t)).toInt + x.toInt + 10 else (M (96 + 7 * t)).toInt := by
    unfold qs_ntw
    rw [qmx_i, e3]
  have e5 : 0 ≤ (qs_ntw M t x).toInt ∧ (qs_ntw M t x).toInt ≤ 1800 := by
    rw [e4]
    rcases a5 with a5 | a5
    · rw [a5, q_im1] at h; omega
    · split <;> omega
  refine ⟨by rw [qf_add (by rw [q_i20]; omega) (by rw [q_i20]; omega), q_i20], e5.1, e4⟩
theorem qs_dly_m (hV : qs_V M) (ht : t < qs_t M) : qm_T M (qs_dly M t x) t := by
  have e : qs_t (qs_dly M t x) = qs_t M := by unfold qs_t; rw [qs_dly_o (by omega) (by omega) (by omega)]
  exact ⟨fun j h1 h2 => qs_dly_o (by omega) (by omega) (by omega), by rw [e, qs_dly_o (by omega) (by omega) (by omega)]; exact qv_t hV, by rw [e]; exact qv_t10 hV, by rw [e]; exact ht, by omega, fun i hi _ => by rw [e] at hi; exact hi⟩
theorem qs_dly_T (hV : qs_V M) (ht : t < qs_t M) (h1 : 1 ≤ x.toInt) (h2 : x.toInt ≤ 300) (h3 : (qs_ndp M t x).toInt ≤ 1440) : qs_T (qs_dly M t x) t := by
  have hm := qs_dly_m (x := x) hV ht
  obtain ⟨e1, e2, e3, e4⟩ := qs_dly_i hV ht h1 h2
  obtain ⟨a1, a2, a3, a4, a5, a6, a7, a8⟩ := qv_T hV ht
  unfold qs_T
  rw [qmt_n hm, qs_dly_3, qs_dly_4, qs_dly_6, qs_dly_o (j := 95 + 7 * t) (by omega) (by omega) (by omega), qs_dly_o (j := 97 + 7 * t) (by omega) (by omega) (by omega), qs_dly_o (j := 98 + 7 * t) (by omega) (by omega) (by omega), e1]
  by_cases c : M (96 + 7 * t) < 0
  · have ed : (qs_ndp M t x).toInt = if (M (94 + 7 * t)).toInt < (M (93 + 7 * t)).toInt + x.toInt + 30 then (M (93 + 7 * t)).toInt + x.toInt + 30 else (M (94 + 7 * t)).toInt := by
      unfold qs_ndp
      rw [if_pos c, qmx_i, e2]
    have em : M (96 + 7 * t) = -1 := qv_tw hV ht ((qf_lt0 _).mp c)
    rw [if_pos c]
    refine ⟨by omega, ?_, h3, a4, Or.inl rfl, a6, a7, fun _ => a8 em⟩
    rw [ed]; split <;> omega
  · have c0 : 0 ≤ (M (96 + 7 * t)).toInt := by
      have := (qf_le _ _).mp (qf_nneg c)
      exact this
    obtain ⟨e5, e6, e7⟩ := e4 c0
    have ed : (qs_ndp M t x).toInt = if (if (M (94 + 7 * t)).toInt < (M (93 + 7 * t)).toInt + x.toInt + 30 then (M (93 + 7 * t)).toInt + x.toInt + 30 else (M (94 + 7 * t)).toInt) < (qs_ntw M t x).toInt + 20 then (qs_ntw M t x).toInt + 20 else (if (M (94 + 7 * t)).toInt < (M (93 + 7 * t)).toInt + x.toInt + 30 then (M (93 + 7 * t)).toInt + x.toInt + 30 else (M (94 + 7 * t)).toInt) := by
      unfold qs_ndp
      rw [if_neg c, qmx_i, qmx_i, e2, e5]
    rw [if_neg c]
    refine ⟨by omega, ?_, h3, a4, Or.inr ⟨?_, ?_⟩, a6, a7, fun q => ?_⟩
    · rw [ed]; split <;> split <;> omega
    · rw [e7]; split <;> omega
    · rw [ed]; split <;> split <;> omega
    · exfalso
      rw [q, q_im1] at e6; omega
/-- how the second program finds the departure -/
theorem qs_ndp_m (hV : qs_V M) (ht : t < qs_t M) (h1 : 1 ≤ x.toInt) (h2 : x.toInt ≤ 300) : qs_ndp M t x = if M (96 + 7 * t) < 0 then qmx (M (94 + 7 * t)) (qmx (qs_a30 M t x) 0) else qmx (M (94 + 7 * t)) (qmx (qs_a30 M t x) (qs_ntw M t x + 20)) := by
  obtain ⟨e1, e2, e3, e4⟩ := qs_dly_i hV ht h1 h2
  obtain ⟨a1, a2, a3, a4, a5, a6, a7, a8⟩ := qv_T hV ht
  unfold qs_ndp
  by_cases c : M (96 + 7 * t) < 0
  · rw [if_pos c, if_pos c, qf_eq, qmx_i, qmx_i, qmx_i, e2, q_i0]
    split <;> split <;> omega
  · have c0 : 0 ≤ (M (96 + 7 * t)).toInt := (qf_le _ _).mp (qf_nneg c)
    obtain ⟨e5, e6, e7⟩ := e4 c0
    rw [if_neg c, if_neg c, qf_eq, qmx_i, qmx_i, qmx_i, qmx_i, e2, e5]
    (repeat' split) <;> omega
end DL
section DC
variable {σ : gS} {b : Nat} {M : Nat → Int32}
theorem qc_towAfterR (σ : gS) {b t : Nat} (ht : t < 10) (x : Int32) : X0_towAfter σ b (nI t) x = some (qmx (σ (b + 8) t) (σ (b + 5) t + x + 10)) := by
  unfold X0_towAfter
  rw [qg_i ht (by decide), qk_c (by omega)]
  rfl
theorem qc_departureAfter (h : qr_R (qr_b σ b) M) {t : Nat} (ht : t < qs_t M) (x : Int32) : X0_departureAfter σ b (nI t) x = some (qs_ndp M t x) := by
  have h10 := qv_t10 h.1
  unfold X0_departureAfter qs_ndp
  rw [qg_i (by omega) (by decide), qk_c (by omega), ql, qc_hasTow h ht, qs, qb_if, qc_towAfterR σ (by omega), qs, qr_dp h ht, qr_ar h ht, qr_tw h ht]
  by_cases c : 0 ≤ M (96 + 7 * t)
  · rw [decide_eq_true c, if_pos rfl, if_neg (fun q => (qf_lt0 _).mp q c)]; rfl
  · rw [decide_eq_false c, if_neg (by decide), if_pos ((qf_lt0 _).mpr c)]; rfl
/-- the rows before the stays are set -/
def qs_pp (σ : gS) (b t : Nat) (x d w : Int32) : gS := g_up (if σ (b + 8) t < 0 then g_up σ (b + 6) t d else g_up (g_up σ (b + 6) t d) (b + 8) t w) (b + 5) t (σ (b + 5) t + x)
theorem qs_pp_a (σ : gS) {b t a : Nat} (x d w : Int32) (h1 : a ≠ b + 5) (h2 : a ≠ b + 6) (h3 : a ≠ b + 8) : qs_pp σ b t x d w a = σ a := by
  unfold qs_pp
  rw [qu_a _ _ h1]
  split
  · rw [qu_a _ _ h2]
  · rw [qu_a _ _ h3, qu_a _ _ h2]
theorem qs_pp_o (σ : gS) {b t a i : Nat} (x d w : Int32) (h : i ≠ t) : qs_pp σ b t x d w a i = σ a i := by
  unfold qs_pp
  by_cases c : σ (b + 8) t < 0
  · rw [if_pos c]
    unfold g_up
    rw [if_neg (fun q => h q.2), if_neg (fun q => h q.2)]
  · rw [if_neg c]
    unfold g_up
    rw [if_neg (fun q => h q.2), if_neg (fun q => h q.2), if_neg (fun q => h q.2)]
theorem qs_pp_5 (σ : gS) (b t : Nat) (x d w : Int32) : qs_pp σ b t x d w (b + 5) t = σ (b + 5) t + x := by
  unfold qs_pp
  rw [qu_at]
theorem qs_pp_6 (σ : gS) (b t : Nat) (x d w : Int32) : qs_pp σ b t x d w (b + 6) t = d := by
  unfold qs_pp
  rw [qu_a _ _ (by omega)]
  split
  · rw [qu_at]
  · rw [qu_a _ _ (by omega), qu_at]
theorem qs_pp_8 (σ : gS) (b t : Nat) (x d w : Int32) : qs_pp σ b t x d w (b + 8) t = if σ (b + 8) t < 0 then σ (b + 8) t else w := by
  unfold qs_pp
  rw [qu_a _ _ (by omega)]
  by_cases c : σ (b + 8) t < 0
  · rw [if_pos c, if_pos c, qu_a _ _ (by omega)]
  · rw [if_neg c, if_neg c, qu_at]
theorem qc_postpone (h : qr_R (qr_b σ b) M) {t : Nat} (ht : t < qs_t M) {x : Int32} (h1 : 1 ≤ x.toInt) (h2 : x.toInt ≤ 300) (h3 : (qs_ndp M t x).toInt ≤ 1440) :
    X0_postpone σ b (nI t) x = some (qs_ndp M t x - M (94 + 7 * t), qst (qs_pp σ b t x (qs_ndp M t x) (qs_ntw M t x)) b t) ∧ qr_R (qr_b (qst (qs_pp σ b t x (qs_ndp M t x) (qs_ntw M t x)) b t) b) (qs_dly M t x) := by
  have hV := h.1
  have h10 := qv_t10 hV
  have t10 : t < 10 := by omega
  constructor
  · unfold X0_postpone
    rw [qg_i t10 (by decide), qc_departureAfter h ht, qs, qk_c (by omega), ql, qc_hasTowR _ t10, qs, qb_if, qu_a _ _ (by omega), qr_tw h ht]
    by_cases c : M (96 + 7 * t) < 0
    · have e : g_up (g_up σ (b + 6) t (qs_ndp M t x)) (b + 5) t (g_up σ (b + 6) t (qs_ndp M t x) (b + 5) t + x) = qs_pp σ b t x (qs_ndp M t x) (qs_ntw M t x) := by
        unfold qs_pp
        rw [qr_tw h ht, if_pos c, qu_a _ _ (by omega)]
      rw [decide_eq_true c, if_neg (by decide), ql, e, qc_setStays _ t10, qs, qst_a _ (by omega) (by omega), qs_pp_6, qr_dp h ht]
    · have e : g_up (g_up (g_up σ (b + 6) t (qs_ndp M t x)) (b + 8) t (qs_ntw M t x)) (b + 5) t (g_up (g_up σ (b + 6) t (qs_ndp M t x)) (b + 8) t (qs_ntw M t x) (b + 5) t + x) = qs_pp σ b t x (qs_ndp M t x) (qs_ntw M t x) := by
        unfold qs_pp
        rw [qr_tw h ht, if_neg c, qu_a _ _ (by omega), qu_a _ _ (by omega)]
      have e2 : qmx (g_up σ (b + 6) t (qs_ndp M t x) (b + 8) t) (g_up σ (b + 6) t (qs_ndp M t x) (b + 5) t + x + 10) = qs_ntw M t x := by
        rw [qu_a _ _ (by omega), qu_a _ _ (by omega), qr_tw h ht, qr_ar h ht]; rfl
      rw [decide_eq_false c, if_pos (by decide), qc_towAfterR _ t10, qs, ql, e2, ql, e, qc_setStays _ t10, qs, qst_a _ (by omega) (by omega), qs_pp_6, qr_dp h ht]
  · have hmt := qs_dly_m (x := x) hV ht
    refine qst_R h hmt (qs_dly_T hV ht h1 h2 h3) (fun j hj => by rw [qs_pp_a _ _ _ _ (by omega) (by omega) (by omega)]) ?_ (fun r p q => qs_pp_a _ _ _ _ (by omega) (by omega) (by omega)) (fun r i p q z => qs_pp_o _ _ _ _ z) ⟨?_, ?_, ?_, ?_, ?_⟩ (fun r k p q z => by rw [qs_pp_a _ _ _ _ (by omega) (by omega) (by omega)]) (fun k hk => ?_)
    · rw [qs_pp_a _ _ _ _ (by omega) (by omega) (by omega), qs_dly_o (by omega) (by omega) (by omega)]; exact h.2.1.2.1
    · rw [qs_pp_a _ _ _ _ (by omega) (by omega) (by omega), qs_dly_o (by omega) (by omega) (by omega)]; exact qr_sz h ht
    · rw [qs_pp_5, qs_dly_3, qr_ar h ht]
    · rw [qs_pp_6, qs_dly_4]
    · rw [qs_pp_a _ _ _ _ (by omega) (by omega) (by omega), qs_dly_o (by omega) (by omega) (by omega)]; exact qr_wt h ht
    · rw [qs_pp_8, qs_dly_6, qr_tw h ht]
      by_cases c : M (96 + 7 * t) < 0
      · rw [if_pos c, if_pos c]; exact qv_tw hV ht ((qf_lt0 _).mp c)
      · rw [if_neg c, if_neg c]
    · rw [qs_pp_a _ _ _ _ (by omega) (by omega) (by omega)]
      rcases Nat.mod_two_eq_zero_or_one k with c | c
      · have ek : k = 2 * t := by omega
        subst ek
        have := qmt_0 hmt (qs_dly_o (by omega) (by omega) (by omega)) ht
        rw [this.1, this.2]
        exact qr_on h (by omega)
      · have ek : k = 2 * t + 1 := by omega
        subst ek
        have e3 : qs_on (qs_dly M t x) (2 * t + 1) = qs_on M (2 * t + 1) := by rw [qs_on1, qs_on1, qs_dly_o (by omega) (by omega) (by omega)]
        have e4 : qs_io (qs_dly M t x) (2 * t + 1) = qs_io M (2 * t + 1) := by
          unfold qs_io
          rw [e3, qv_is1 ht, qv_is1 hmt.2.2.2.1, qs_dly_6]
          congr 1
          apply decide_eq_decide.mpr
          by_cases c2 : M (96 + 7 * t) < 0
          · rw [if_pos c2]
            exact ⟨fun q => absurd q (by decide), fun q => absurd q ((qf_lt0 _).mp c2)⟩
          · rw [if_neg c2]
            have c0 : 0 ≤ (M (96 + 7 * t)).toInt := (qf_le _ _).mp (qf_nneg c2)
            exact ⟨fun _ => qf_nneg c2, fun _ => (qf_le _ _).mpr ((qs_dly_i hV ht h1 h2).2.2.2 c0).2.1⟩
        rw [e3, e4]
        exact qr_on h (by omega)
end DC
/-- why no delay -/
def qs_wd (M : Nat → Int32) (x1 x : Int32) : Nat := if ib x1 (qs_t M) = true then (if (decide (1 ≤ x) && decide (x ≤ 300)) = true then (if qs_ndp M x1.toNatClampNeg x ≤ 1440 then 0 else 3) else 2) else 1
theorem qs_300 {x : Int32} (h : (decide (1 ≤ x) && decide (x ≤ 300)) = true) : 1 ≤ x.toInt ∧ x.toInt ≤ 300 := by
  simp only [Bool.and_eq_true, decide_eq_true_eq, qf_le] at h
  exact h
theorem qd_doDelay {σ : gS} (h : qs_V (σ 133)) (x1 x : Int32) : X7_doDelay σ x1 x = some (nI (qs_wd (σ 133) x1 x), if qs_wd (σ 133) x1 x = 0 then g_row σ 133 (qs_dly (σ 133) x1.toNatClampNeg x) else σ) := by
  have h10 := qv_t10 h
  unfold X7_doDelay qs_wd
  rw [qd_isTurn h, qs]
  cases c : ib x1 (qs_t (σ 133)) with
  | false => rfl
  | true =>
    obtain ⟨t, ht, rfl⟩ := qi_of c
    have t10 : t < 10 := by omega
    rw [if_neg (show ¬ qb true = 0 by decide), if_pos rfl, qd_in, qs, qb_if, qk_c (by omega)]
    cases c2 : (decide (1 ≤ x) && decide (x ≤ 300)) with
    | false => rfl
    | true =>
      obtain ⟨i1, i2⟩ := qs_300 c2
      have em := qs_ndp_m h ht i1 i2
      rw [if_pos rfl, if_pos rfl, qd_at, qs, qk_a1, qk_a2, qk_a4, qg_i (by omega) (by decide), qg_i (by omega) (by decide), qg_i (by omega) (by decide), qk_c (by omega), qk_c (by omega), qk_c (by omega)]
      by_cases c3 : σ 133 (96 + 7 * t) < 0
      · rw [if_pos c3] at em
        have ed : qs_dly (σ 133) t x = qu1 (qu1 (qu1 (σ 133) (93 + 7 * t) (σ 133 (93 + 7 * t) + x)) (94 + 7 * t) (qs_ndp (σ 133) t x)) (96 + 7 * t) (-1) := by unfold qs_dly; rw [if_pos c3]
        rw [if_neg ((qf_lt0 _).mp c3), ql]
        show (if qmx (σ 133 (94 + 7 * t)) (qmx (qs_a30 (σ 133) t x) 0) ≤ 1440 then lt_ (g_up σ 133 (93 + 7 * t) (σ 133 (93 + 7 * t) + x)) (fun σ28 => lt_ (g_up σ28 133 (94 + 7 * t) (qmx (σ 133 (94 + 7 * t)) (qmx (qs_a30 (σ 133) t x) 0))) fun σ29 => lt_ (g_up σ29 133 (96 + 7 * t) (-1)) fun σ30 => some (0, σ30)) else some (3, σ)) = _
        rw [← em, ql, ql, ql, qrow_up σ, qrow_up2, qrow_up2, ← ed]
        by_cases c4 : qs_ndp (σ 133) t x ≤ 1440
        · rw [if_pos c4, if_pos c4]; rfl
        · rw [if_neg c4, if_neg c4]; rfl
      · rw [if_neg c3] at em
        have c0 : 0 ≤ (σ 133 (96 + 7 * t)).toInt := (qf_le _ _).mp (qf_nneg c3)
        have cw : 0 ≤ qs_ntw (σ 133) t x := (qf_le _ _).mpr ((qs_dly_i h ht i1 i2).2.2.2 c0).2.1
        have ed : qs_dly (σ 133) t x = qu1 (qu1 (qu1 (σ 133) (93 + 7 * t) (σ 133 (93 + 7 * t) + x)) (94 + 7 * t) (qs_ndp (σ 133) t x)) (96 + 7 * t) (qs_ntw (σ 133) t x) := by unfold qs_dly; rw [if_neg c3]
        rw [if_pos (qf_nneg c3), ql, qg_i (by omega) (by decide)]
        rw [if_pos (show 0 ≤ (if σ 133 (96 + 7 * t) < σ 133 (93 + 7 * t) + x + 10 then σ 133 (93 + 7 * t) + x + 10 else σ 133 (96 + 7 * t)) from cw), ql]
        show (if qmx (σ 133 (94 + 7 * t)) (qmx (qs_a30 (σ 133) t x) (qs_ntw (σ 133) t x + 20)) ≤ 1440 then lt_ (g_up σ 133 (93 + 7 * t) (σ 133 (93 + 7 * t) + x)) (fun σ28 => lt_ (g_up σ28 133 (94 + 7 * t) (qmx (σ 133 (94 + 7 * t)) (qmx (qs_a30 (σ 133) t x) (qs_ntw (σ 133) t x + 20)))) fun σ29 => lt_ (g_up σ29 133 (96 + 7 * t) (qs_ntw (σ 133) t x)) fun σ30 => some (0, σ30)) else some (3, σ)) = _
        rw [← em, ql, ql, ql, qrow_up σ, qrow_up2, qrow_up2, ← ed]
        by_cases c4 : qs_ndp (σ 133) t x ≤ 1440
        · rw [if_pos c4, if_pos c4]; rfl
        · rw [if_neg c4, if_neg c4]; rfl
theorem qs_dly_cut {M : Nat → Int32} (h : qcut M = M) {t : Nat} (ht : t < 10) (x : Int32) : qcut (qs_dly M t x) = qs_dly M t x := qu1_cut (qu1_cut (qu1_cut h (by omega) _) (by omega) _) (by omega) _
theorem qo_delay : o_delay qi := by
  intro σ hI f x1 x2
  have hV := qi_V hI
  have hR := qi_R hI
  have h10 := qv_t10 hV
  have e133k : (qks σ) 133 = σ 133 := qks_a σ (by decide)
  have hVk : qs_V ((qks σ) 133) := by rw [e133k]; exact hV
  cases c : ib x1 (qs_t (σ 133)) with
  | false =>
    refine ⟨1, 0, f, σ, qth (qks σ) 1, qL_delay_1 f ?_, ?_, qth_8 _ _, fun q => absurd q (by decide), qks_i hI 1⟩
    · unfold X6_delay
      rw [qc_hasTurn hR, qs, c, if_pos qb_f]
    · have w1 : qs_wd (σ 133) x1 x2 = 1 := by unfold qs_wd; rw [c]; rfl
      unfold X7_delay
      rw [qd_isTurn hV, qs, c, if_pos qb_f, qks_eq, qs, qd_doDelay hVk, qs, e133k, w1, if_neg (by decide), qth_e, show nI 1 = 1 from rfl, qth_1]
  | true =>
    obtain ⟨t, ht, rfl⟩ := qi_of c
    have t10 : t < 10 := by omega
    have ec : (nI t).toNatClampNeg = t := qk_c (by omega)
    have bad : ∀ w, w ≠ 0 → qs_wd (σ 133) (nI t) x2 = w → w < 4 → X7_delay σ (nI t) x2 = some (0, qth (qks σ) (nI w)) := by
      intro w w0 hw w4
      unfold X7_delay
      rw [qd_isTurn hV, qs, c, if_neg (show ¬ qb true = 0 by decide), qd_at, qs, qk_a2, qg_i (by omega) (by decide), qks_eq, qs, qd_doDelay hVk, qs, e133k, hw, if_neg w0, qth_e, qth_8, if_neg (nI_nle (by omega) (by omega))]
    cases c2 : (decide (1 ≤ x2) && decide (x2 ≤ 300)) with
    | false =>
      refine ⟨2, 0, f, σ, qth (qks σ) 2, qL_delay_2 f ?_, bad 2 (by decide) (by unfold qs_wd; rw [c, c2]; rfl) (by decide), qth_8 _ _, fun q => absurd q (by decide), qks_i hI 2⟩
      unfold X6_delay
      rw [qc_hasTurn hR, qs, c, if_neg (show ¬ qb true = 0 by decide)]
      by_cases c4 : x2 < 1
      · rw [if_pos c4]
      · rw [if_neg c4, if_neg (fun q => by rw [decide_eq_true ((qf_nle _ _).mpr c4), decide_eq_true q] at c2; cases c2)]
    | true =>
      obtain ⟨i1, i2⟩ := qs_300 c2
      have n1 : ¬ x2 < 1 := by rw [qf_lt, show (1 : Int32).toInt = 1 from rfl]; omega
      have n2 : x2 ≤ 300 := by rw [qf_le, show (300 : Int32).toInt = 300 from rfl]; omega
      by_cases c3 : qs_ndp (σ 133) t x2 ≤ 1440
      · have i3 : (qs_ndp (σ 133) t x2).toInt ≤ 1440 := (qf_le _ _).mp c3
        obtain ⟨σ1, r1, r2, -, r3⟩ := q_rem hI
        have hR1 : qr_R (qr_b σ1 24) (σ 133) := by rw [q_rb r2]; exact hR
        obtain ⟨m1, m2⟩ := qc_postpone hR1 ht i1 i2 i3
        have ho : ∀ a, (a < 24 ∨ 36 ≤ a) → qst (qs_pp σ1 24 t x2 (qs_ndp (σ 133) t x2) (qs_ntw (σ 133) t x2)) 24 t a = σ1 a := fun a p => by rw [qst_a _ (by omega) (by omega), qs_pp_a _ _ _ _ (by omega) (by omega) (by omega)]
        obtain ⟨σ2, s1, s2, s3, s4⟩ := r3 (qst (qs_pp σ1 24 t x2 (qs_ndp (σ 133) t x2) (qs_ntw (σ 133) t x2)) 24 t) (qs_dly (σ 133) t x2) ho
        have e1 : (qst (qs_pp σ1 24 t x2 (qs_ndp (σ 133) t x2) (qs_ntw (σ 133) t x2)) 24 t) 133 = σ 133 := by rw [ho 133 (by decide), r2 133 (by decide) (by decide)]
        have e1k : (qks (qst (qs_pp σ1 24 t x2 (qs_ndp (σ 133) t x2) (qs_ntw (σ 133) t x2)) 24 t)) 133 = σ 133 := by rw [qks_a _ (by decide), e1]
        have hV1 : qs_V ((qst (qs_pp σ1 24 t x2 (qs_ndp (σ 133) t x2) (qs_ntw (σ 133) t x2)) 24 t) 133) := by rw [e1]; exact hV
        have hV1k : qs_V ((qks (qst (qs_pp σ1 24 t x2 (qs_ndp (σ 133) t x2) (qs_ntw (σ 133) t x2)) 24 t)) 133) := by rw [e1k]; exact hV
        have w0 : qs_wd (σ 133) (nI t) x2 = 0 := by unfold qs_wd; rw [c, c2, ec, if_pos rfl, if_pos rfl, if_pos c3]
        refine ⟨0, qs_ndp (σ 133) t x2 - σ 133 (94 + 7 * t), _, qst (qs_pp σ1 24 t x2 (qs_ndp (σ 133) t x2) (qs_ntw (σ 133) t x2)) 24 t, σ2, qL_delay_r f (r := qs_ndp (σ 133) t x2 - σ 133 (94 + 7 * t)) ?_, ?_, s3, fun _ => qup0 _ _, s4 (qs_dly_cut hI.1.2 t10 _) m2⟩
        · unfold X6_delay
          rw [qc_hasTurn hR, qs, c, if_neg (show ¬ qb true = 0 by decide), if_neg n1, if_pos n2, qc_departureAfter hR ht, qs, if_pos c3, r1, qs, m1, qs]
        · unfold X7_delay
          rw [qd_isTurn hV1, qs, e1, c, if_neg (show ¬ qb true = 0 by decide), qd_at, qs, qk_a2, qg_i (by omega) (by decide), qks_eq, qs, qd_doDelay hV1k, qs, e1k, w0, if_pos rfl, qth_e, show nI 0 = 0 from rfl, qth_y, ec, s1, qs, qd_at, qs, qk_a2, qg_i (by omega) (by decide), qk_c (by omega), s2, qs_dly_4]
      · refine ⟨3, 0, f, σ, qth (qks σ) 3, qL_delay_3 f ?_, bad 3 (by decide) (by unfold qs_wd; rw [c, c2, ec, if_pos rfl, if_pos rfl, if_neg c3]) (by decide), qth_8 _ _, fun q => absurd q (by decide), qks_i hI 3⟩
        unfold X6_delay
        rw [qc_hasTurn hR, qs, c, if_neg (show ¬ qb true = 0 by decide), if_neg n1, if_pos n2, qc_departureAfter hR ht, qs, if_neg c3]
