/-! ===== more readers of both sides ===== -/
theorem qsum_hi {f : Nat → Int32} {n : Nat} : ∀ m, (∀ k, n ≤ k → k < n + m → f k = 0) → qsum (n + m) f = qsum n f
  | 0, h => rfl
  | m + 1, h => by
    rw [← Nat.add_assoc]
    show qsum (n + m) f + f (n + m) = _
    rw [h (n + m) (by omega) (by omega), Int32.add_zero]
    exact qsum_hi m (fun k h1 h2 => h k h1 (by omega))
/-! the next stay's beginning on a stand -/
def qs_gp (M : Nat → Int32) (s : Nat) (m : Int32) : Nat → Int32
  | 0 => 1440
  | i + 1 => if qs_os M s i = true ∧ m < qs_fr M i then (if qs_fr M i < qs_gp M s m i then qs_fr M i else qs_gp M s m i) else qs_gp M s m i
def qs_gap (M : Nat → Int32) (s : Nat) (m : Int32) : Int32 := match qfi (fun k => qs_os M s k && qs_th M m k) 20 0 with | some _ => 0 | none => qs_gp M s m 20 - m
theorem qs_os_io {M : Nat → Int32} {s k : Nat} (h : qs_os M s k = true) : qs_io M k = true := by
  unfold qs_os at h
  simp only [Bool.and_eq_true] at h
  exact h.1
theorem qs_io_is {M : Nat → Int32} {k : Nat} (h : qs_io M k = true) : qs_is M k = true := (qv_io h).1
theorem qc_freeFrom {σ : gS} {b : Nat} {M : Nat → Int32} (h : qr_R (qr_b σ b) M) {s : Nat} (hs : s < 8) (m : Int32) : X0_freeFrom σ b (nI s) m = some (qs_gap M s m) := by
  unfold X0_freeFrom qs_gap
  rw [qc_stayAt h hs, qs]
  cases c : qfi (fun k => qs_os M s k && qs_th M m k) 20 0 with
  | some j =>
    have := qfi_some c
    show (if nI j < 0 then _ else _) = _
    rw [if_neg (nI_pos (by omega))]
  | none =>
    show (if (-1 : Int32) < 0 then _ else _) = _
    rw [if_pos (by decide)]
    refine qf_for (N := 20) (fun i => (nI s, m, qs_gp M s m i, nI i)) (fun i hi => ?_) ?_ 0 (by omega)
    · show X0_freeFrom_k0 σ b (nI s) m (qs_gp M s m i) (nI i) = some (.inl (nI s, m, qs_gp M s m (i + 1), nI (i + 1)))
      unfold X0_freeFrom_k0
      rw [if_neg (qk_20 hi), qg_i hi (by decide), qk_s, qk_c (by omega)]
      show _ = some (Sum.inl (nI s, m, (if qs_os M s i = true ∧ m < qs_fr M i then (if qs_fr M i < qs_gp M s m i then qs_fr M i else qs_gp M s m i) else qs_gp M s m i), nI (i + 1)))
      cases c2 : qs_os M s i with
      | true =>
        rw [if_pos ((qc_os h hi hs).mpr c2), qr_fr h (qs_io_is (qs_os_io c2))]
        by_cases c3 : m < qs_fr M i
        · rw [if_neg (fun q => (qf_nle _ _).mp q c3), if_pos (show true = true ∧ m < qs_fr M i from ⟨rfl, c3⟩)]
        · rw [if_pos ((qf_nle _ _).mpr c3), if_neg (fun q => c3 q.2)]
      | false => rw [if_neg (fun q => by have := (qc_os h hi hs).mp q; rw [c2] at this; cases this), if_neg (fun q => by cases q.1)]
    · show X0_freeFrom_k0 σ b (nI s) m (qs_gp M s m 20) (nI 20) = _
      unfold X0_freeFrom_k0
      rw [if_pos qk_e20]
/-- the second program's loop for it -/
theorem qd_gapl {σ : gS} (h : qs_V (σ 133)) {s : Nat} (hs : s < 8) (m : Int32) : gr X7_gap_s (nI s, m, 1440, 0, σ) = some (qs_gp (σ 133) s m 20 - m, σ) := by
  refine qf_for (N := 20) (fun i => (nI s, m, qs_gp (σ 133) s m i, nI i, σ)) (fun i hi => ?_) ?_ 0 (by omega)
  · show X7_gap_k0 σ (nI s) m (qs_gp (σ 133) s m i) (nI i) = some (.inl (nI s, m, qs_gp (σ 133) s m (i + 1), nI (i + 1), σ))
    unfold X7_gap_k0
    rw [if_neg (qk_20 hi), qk_s, qd_isOn h hi, qs, qb_if]
    show _ = some (Sum.inl (nI s, m, (if qs_os (σ 133) s i = true ∧ m < qs_fr (σ 133) i then (if qs_fr (σ 133) i < qs_gp (σ 133) s m i then qs_fr (σ 133) i else qs_gp (σ 133) s m i) else qs_gp (σ 133) s m i), nI (i + 1), σ))
    cases c : qs_io (σ 133) i with
    | false =>
      have : qs_os (σ 133) s i = false := by unfold qs_os; rw [c, Bool.false_and]
      rw [if_neg (by decide), if_neg (fun q => by rw [this] at q; cases q.1)]
    | true =>
      rw [if_pos rfl, qd_on hi, qs]
      cases c2 : qs_os (σ 133) s i with
      | false => rw [if_neg (fun q => by have := (qd_os h hs c).mp q; rw [c2] at this; cases this), if_neg (fun q => by cases q.1)]
      | true =>
        rw [if_pos ((qd_os h hs c).mpr c2), qd_from hi, qs]
        by_cases c3 : m < qs_fr (σ 133) i
        · rw [if_neg (fun q => (qf_nle _ _).mp q c3), if_pos ⟨rfl, c3⟩, qs]
        · rw [if_pos ((qf_nle _ _).mpr c3), if_neg (fun q => c3 q.2)]
  · show X7_gap_k0 σ (nI s) m (qs_gp (σ 133) s m 20) (nI 20) = _
    unfold X7_gap_k0
    rw [if_pos qk_e20]
/-! how many are there at a minute -/
def qs_ta (M : Nat → Int32) (m : Int32) : Nat := qcnt 20 (fun k => qs_io M k && qs_th M m k)
theorem qc_thereAt {σ : gS} {b : Nat} {M : Nat → Int32} (h : qr_R (qr_b σ b) M) (m : Int32) : X0_thereAt σ b m = some (nI (qs_ta M m)) := by
  refine qf_for (N := 20) (fun i => (m, nI (qcnt i (fun k => qs_io M k && qs_th M m k)), nI i)) (fun i hi => ?_) ?_ 0 (by omega)
  · show X0_thereAt_k0 σ b m (nI (qcnt i (fun k => qs_io M k && qs_th M m k))) (nI i) = _
    unfold X0_thereAt_k0
    rw [if_neg (qk_20 hi), qk_s, qc_isOnStand h hi, qs, qb_if]
    cases c : qs_io M i with
    | false => rw [if_neg (by decide), qcnt_n (p := fun k => qs_io M k && qs_th M m k) (by simp [c])]
    | true =>
      rw [if_pos rfl, qc_isThere h (qs_io_is c), qs, qb_if]
      cases c2 : qs_th M m i with
      | false => rw [if_neg (by decide), qcnt_n (p := fun k => qs_io M k && qs_th M m k) (by simp [c2])]
      | true => rw [if_pos rfl, qcnt_y (p := fun k => qs_io M k && qs_th M m k) (by simp [c, c2]), qk_s]
  · show X0_thereAt_k0 σ b m (nI (qcnt 20 (fun k => qs_io M k && qs_th M m k))) (nI 20) = _
    unfold X0_thereAt_k0
    rw [if_pos qk_e20]
    rfl
theorem qd_staysAt {σ : gS} (h : qs_V (σ 133)) (m : Int32) : X7_staysAt σ m = some (nI (qs_ta (σ 133) m)) := by
  refine qf_for (N := 20) (fun i => (m, nI (qcnt i (fun k => qs_io (σ 133) k && qs_th (σ 133) m k)), nI i)) (fun i hi => ?_) ?_ 0 (by omega)
  · show X7_staysAt_k0 σ m (nI (qcnt i (fun k => qs_io (σ 133) k && qs_th (σ 133) m k))) (nI i) = _
    unfold X7_staysAt_k0
    rw [if_neg (qk_20 hi), qk_s, qd_isOn h hi, qs, qb_if]
    cases c : qs_io (σ 133) i with
    | false => rw [if_neg (by decide), qcnt_n (p := fun k => qs_io (σ 133) k && qs_th (σ 133) m k) (by simp [c]), Int32.add_zero]
    | true =>
      rw [if_pos rfl, qd_from hi, qs, qd_to hi, qs, qd_th h (qs_io_is c), qs, qb_if]
      cases c2 : qs_th (σ 133) m i with
      | false => rw [if_neg (by decide), qcnt_n (p := fun k => qs_io (σ 133) k && qs_th (σ 133) m k) (by simp [c2]), Int32.add_zero]
      | true => rw [if_pos rfl, qcnt_y (p := fun k => qs_io (σ 133) k && qs_th (σ 133) m k) (by simp [c, c2]), qk_s]
  · show X7_staysAt_k0 σ m (nI (qcnt 20 (fun k => qs_io (σ 133) k && qs_th (σ 133) m k))) (nI 20) = _
    unfold X7_staysAt_k0
    rw [if_pos qk_e20]
    rfl
/-! all stays -/
theorem qm_2y {i : Nat} {p : Nat → Bool} (hi : 2 * i + 1 < 31) (h0 : p (2 * i) = true) (h1 : p (2 * i + 1) = true) : nI (qm (2 * i) p) ||| ((3 : Int32) <<< (nI (2 * i) &&& 31)) = nI (qm (2 * (i + 1)) p) := by
  have hl := qm_lt (2 * i) p
  have e1 : 2 ^ (2 * i + 2) = 4 * 2 ^ (2 * i) := by rw [Nat.pow_add]; omega
  have e2 : 2 ^ (2 * i + 1) = 2 * 2 ^ (2 * i) := by rw [Nat.pow_succ]; omega
  have e3 : 2 ^ (2 * i + 2) ≤ 2 ^ 31 := Nat.pow_le_pow_right (by decide) (by omega)
  have es : (3 : Int32) <<< (nI (2 * i) &&& 31) = nI (3 * 2 ^ (2 * i)) := qf_shl (a := 3) (by omega) (by omega)
  rw [es, qf_or, Nat.or_comm, Nat.mul_comm 3, ← Nat.two_pow_add_eq_or_of_lt hl 3, show 2 * (i + 1) = 2 * i + 1 + 1 by omega]
  show _ = nI (qm (2 * i) p + (if p (2 * i) = true then 2 ^ (2 * i) else 0) + (if p (2 * i + 1) = true then 2 ^ (2 * i + 1) else 0))
  rw [if_pos h0, if_pos h1, e2]
  congr 1
  omega
theorem qs_is_hi {M : Nat → Int32} {k : Nat} (h : 2 * qs_t M ≤ k) : qs_is M k = false := by
  unfold qs_is
  rw [decide_eq_false (by omega)]
  rfl
theorem qc_allStays {σ : gS} {b : Nat} {M : Nat → Int32} (h : qr_R (qr_b σ b) M) : X0_allStays σ b = some (nI (qm 20 (qs_is M))) := by
  have h10 := qv_t10 h.1
  have e : qm 20 (qs_is M) = qm (2 * qs_t M) (qs_is M) := by
    have := qm_hi (n := 2 * qs_t M) (p := qs_is M) (20 - 2 * qs_t M) (fun k h1 _ => qs_is_hi h1)
    rw [show 2 * qs_t M + (20 - 2 * qs_t M) = 20 by omega] at this
    exact this
  rw [e]
  refine qf_for (N := qs_t M) (fun i => (nI (qm (2 * i) (qs_is M)), nI i)) (fun i hi => ?_) ?_ 0 (by omega)
  · show X0_allStays_k0 σ b (nI (qm (2 * i) (qs_is M))) (nI i) = some (.inl (nI (qm (2 * (i + 1)) (qs_is M)), nI (i + 1)))
    unfold X0_allStays_k0
    rw [qr_1 h, if_neg (qk_ge hi (by omega)), qk_s, qc_hasTow h hi, qs, qb_if, qk_m2]
    by_cases c : 0 ≤ M (96 + 7 * i)
    · rw [decide_eq_true c, if_pos rfl, qm_2y (by omega) (qv_is0 hi) (by rw [qv_is1 hi]; exact decide_eq_true c)]
    · rw [decide_eq_false c, if_neg (by decide), qm_y (by omega) (qv_is0 hi), show 2 * (i + 1) = 2 * i + 1 + 1 by omega, qm_no (n := 2 * i + 1) (by rw [qv_is1 hi]; exact decide_eq_false c)]
  · show X0_allStays_k0 σ b (nI (qm (2 * qs_t M) (qs_is M))) (nI (qs_t M)) = _
    unfold X0_allStays_k0
    rw [qr_1 h, if_pos (qk_end (by omega))]
/-- how many stays: the turns and the tows -/
def qs_tc (M : Nat → Int32) (i : Nat) : Nat := qcnt i (fun t => decide (0 ≤ M (96 + 7 * t)))
theorem qs_cnt_is {M : Nat → Int32} (hV : qs_V M) : qcnt 20 (qs_is M) = qs_t M + qs_tc M (qs_t M) := by
  have h10 := qv_t10 hV
  have e : qcnt 20 (qs_is M) = qcnt (2 * qs_t M) (qs_is M) := by
    have := qcnt_hi (n := 2 * qs_t M) (p := qs_is M) (20 - 2 * qs_t M) (fun k h1 _ => qs_is_hi h1)
    rw [show 2 * qs_t M + (20 - 2 * qs_t M) = 20 by omega] at this
    exact this
  rw [e]
  have : ∀ i, i ≤ qs_t M → qcnt (2 * i) (qs_is M) = i + qs_tc M i := by
    intro i
    induction i with
    | zero => intro _; rfl
    | succ i ih =>
      intro hi
      rw [show 2 * (i + 1) = 2 * i + 1 + 1 by omega]
      by_cases c : 0 ≤ M (96 + 7 * i)
      · rw [qcnt_y (n := 2 * i + 1) (by rw [qv_is1 (by omega)]; exact decide_eq_true c), qcnt_y (qv_is0 (by omega)), ih (by omega)]
        unfold qs_tc
        rw [qcnt_y (n := i) (decide_eq_true c)]; omega
      · rw [qcnt_n (n := 2 * i + 1) (by rw [qv_is1 (by omega)]; exact decide_eq_false c), qcnt_y (qv_is0 (by omega)), ih (by omega)]
        unfold qs_tc
        rw [qcnt_n (n := i) (decide_eq_false c)]; omega
  exact this _ (Nat.le_refl _)
theorem qd_tows {σ : gS} (h : qs_V (σ 133)) : X7_tows σ = some (nI (qs_tc (σ 133) (qs_t (σ 133)))) := by
  have h10 := qv_t10 h
  refine qf_for (N := qs_t (σ 133)) (fun i => (nI (qs_tc (σ 133) i), nI i)) (fun i hi => ?_) ?_ 0 (by omega)
  · show X7_tows_k0 σ (nI (qs_tc (σ 133) i)) (nI i) = some (.inl (nI (qs_tc (σ 133) (i + 1)), nI (i + 1)))
    unfold X7_tows_k0
    rw [qk_z1, qv_t h, if_neg (qk_ge hi (by omega)), qk_s, qd_tow (by omega), qs]
    unfold qs_tc
    by_cases c : 0 ≤ σ 133 (96 + 7 * i)
    · rw [if_neg (fun q => (qf_lt0 _).mp q c), qcnt_y (n := i) (decide_eq_true c), qk_s]
    · rw [if_pos ((qf_lt0 _).mpr c), qcnt_n (n := i) (decide_eq_false c), Int32.add_zero]
  · show X7_tows_k0 σ (nI (qs_tc (σ 133) (qs_t (σ 133)))) (nI (qs_t (σ 133))) = _
    unfold X7_tows_k0
    rw [qk_z1, qv_t h, if_pos (qk_end (by omega))]
/-! on remote stands -/
def qs_re (M : Nat → Int32) (k : Nat) : Bool := qs_io M k && decide (M (4 + qs_sn M k) = 2)
def qs_rw (M : Nat → Int32) (t : Nat) : Int32 := if (qs_re M (2 * t) || qs_re M (2 * t + 1)) = true then M (95 + 7 * t) else 0
theorem qc_isOnRemote {σ : gS} {b : Nat} {M : Nat → Int32} (h : qr_R (qr_b σ b) M) {k : Nat} (hk : k < 20) : X0_isOnRemote σ b (nI k) = some (qb (qs_re M k)) := by
  have h8 := qv_n8 h.1
  unfold X0_isOnRemote qs_re
  rw [qc_isOnStand h hk, qs, qb_if]
  cases c : qs_io M k with
  | false => rw [if_neg (by decide)]; rfl
  | true =>
    have h1 := (qv_sn h.1 c).2
    rw [if_pos rfl, qg_i hk (by decide), qk_c (by omega), qr_ony h c, qg_i (by omega) (by decide), qk_c (by omega), qr_kd h h1, qb_ite]
    rfl
theorem qd_isRemote {σ : gS} (h : qs_V (σ 133)) {k : Nat} (hk : k < 20) : X7_isRemote σ (nI k) = some (qb (qs_re (σ 133) k)) := by
  have h8 := qv_n8 h
  unfold X7_isRemote qs_re
  rw [qd_isOn h hk, qs, qb_if]
  cases c : qs_io (σ 133) k with
  | false => rw [if_neg (by decide)]; rfl
  | true =>
    have h1 := qv_sn h c
    rw [if_pos rfl, qd_on hk, qs, h1.1, qk_4, qg_i (by omega) (by decide), qk_c (by omega), qb_ite]
    rfl
theorem qc_weightsOnRemote {σ : gS} {b : Nat} {M : Nat → Int32} (h : qr_R (qr_b σ b) M) : X0_weightsOnRemote σ b = some (qsum (qs_t M) (qs_rw M)) := by
  have h10 := qv_t10 h.1
  refine qf_for (N := qs_t M) (fun i => (qsum i (qs_rw M), nI i)) (fun i hi => ?_) ?_ 0 (by omega)
  · show X0_weightsOnRemote_k0 σ b (qsum i (qs_rw M)) (nI i) = some (.inl (qsum i (qs_rw M) + qs_rw M i, nI (i + 1)))
    unfold X0_weightsOnRemote_k0 qs_rw
    rw [qr_1 h, if_neg (qk_ge hi (by omega)), qk_m2p, qk_m2, qk_s, qc_isOnRemote h (by omega), qs, qb_if, qg_i (by omega) (by decide), qk_c (by omega), qr_wt h hi, qc_isOnRemote h (by omega), qs, qb_if]
    cases qs_re M (2 * i) <;> cases qs_re M (2 * i + 1) <;> simp
  · show X0_weightsOnRemote_k0 σ b (qsum (qs_t M) (qs_rw M)) (nI (qs_t M)) = _
    unfold X0_weightsOnRemote_k0
    rw [qr_1 h, if_pos (qk_end (by omega))]
theorem qd_remotel {σ : gS} (h : qs_V (σ 133)) : gr X7_account_s (0, 0, σ) = some (qsum (qs_t (σ 133)) (qs_rw (σ 133)), σ) := by
  have h10 := qv_t10 h
  refine qf_for (N := qs_t (σ 133)) (fun i => (qsum i (qs_rw (σ 133)), nI i, σ)) (fun i hi => ?_) ?_ 0 (by omega)
  · show X7_account_k0 σ (qsum i (qs_rw (σ 133))) (nI i) = some (.inl (qsum i (qs_rw (σ 133)) + qs_rw (σ 133) i, nI (i + 1), σ))
    unfold X7_account_k0 qs_rw
    rw [qk_z1, qv_t h, if_neg (qk_ge hi (by omega)), qk_m2p, qk_m2, qk_s, qd_isRemote h (by omega), qs, qb_if, qd_isRemote h (by omega), qs, qb_if, qd_at, qs, qk_a3, qg_i (by omega) (by decide), qk_c (by omega)]
    cases qs_re (σ 133) (2 * i) <;> cases qs_re (σ 133) (2 * i + 1) <;> simp
  · show X7_account_k0 σ (qsum (qs_t (σ 133)) (qs_rw (σ 133))) (nI (qs_t (σ 133))) = _
    unfold X7_account_k0
    rw [qk_z1, qv_t h, if_pos (qk_end (by omega))]
/-! of the stays on a stand; over stays -/
def qs_ln (M : Nat → Int32) (p : Nat → Bool) (k : Nat) : Int32 := if p k = true then qs_to M k - qs_fr M k else 0
theorem qc_len {σ : gS} {b : Nat} {M : Nat → Int32} (h : qr_R (qr_b σ b) M) {p : Nat → Bool} (hp : ∀ k, k < 20 → p k = true → qs_is M k = true) : X0_lengthOf σ b (nI (qm 20 p)) = some (qsum 20 (qs_ln M p)) := qc_lengthOf h hp
theorem qd_ofStays {σ : gS} (h : qs_V (σ 133)) {s : Nat} (hs : s < 8) (w : Int32) : X7_ofStays σ (nI s) w = some (if w = 4 then nI (qcnt 20 (qs_os (σ 133) s)) else if w = 5 then qsum 20 (qs_ln (σ 133) (qs_os (σ 133) s)) else nI (qm 20 (fun k => qs_os (σ 133) s k && qs_tr (σ 133) k))) := by
  refine qf_for (N := 20) (fun i => (nI s, w, nI (qcnt i (qs_os (σ 133) s)), qsum i (qs_ln (σ 133) (qs_os (σ 133) s)), nI (qm i (fun k => qs_os (σ 133) s k && qs_tr (σ 133) k)), nI i)) (fun i hi => ?_) ?_ 0 (by omega)
  · show X7_ofStays_k0 σ (nI s) w (nI (qcnt i (qs_os (σ 133) s))) (qsum i (qs_ln (σ 133) (qs_os (σ 133) s))) (nI (qm i (fun k => qs_os (σ 133) s k && qs_tr (σ 133) k))) (nI i) = some (.inl (nI s, w, nI (qcnt (i + 1) (qs_os (σ 133) s)), qsum i (qs_ln (σ 133) (qs_os (σ 133) s)) + qs_ln (σ 133) (qs_os (σ 133) s) i, nI (qm (i + 1) (fun k => qs_os (σ 133) s k && qs_tr (σ 133) k)), nI (i + 1)))
    unfold X7_ofStays_k0
    rw [if_neg (qk_20 hi), qk_s, qk_s, qd_isOn h hi, qs, qb_if]
    cases c2 : qs_os (σ 133) s i with
    | false =>
      rw [qcnt_n c2, qm_no (p := fun k => qs_os (σ 133) s k && qs_tr (σ 133) k) (by simp [c2])]
      unfold qs_ln
      rw [c2, if_neg (c := false = true) (by decide), Int32.add_zero]
      cases c : qs_io (σ 133) i with
      | false => rw [if_neg (by decide)]
      | true => rw [if_pos rfl, qd_on hi, qs, if_neg (fun q => by have := (qd_os h hs c).mp q; rw [c2] at this; cases this)]
    | true =>
      have c := qs_os_io c2
      rw [qcnt_y c2, if_pos c, qd_on hi, qs, if_pos ((qd_os h hs c).mpr c2), qd_to hi, qs, qd_from hi, qs, qd_isHindered h hi, qs, qb_if]
      unfold qs_ln
      rw [c2, if_pos (c := true = true) rfl]
      cases c3 : qs_hi (σ 133) i with
      | true => rw [if_pos rfl, qm_y (p := fun k => qs_os (σ 133) s k && qs_tr (σ 133) k) (by omega) (by simp [c2, qs_tr, c3])]
      | false =>
        rw [if_neg (by decide), qd_conflictsOf h hi, qs]
        by_cases c4 : qm 20 (qs_cf (σ 133) i) = 0
        · rw [c4, if_pos nI_0, qm_z i (fun k => qs_os (σ 133) s k && qs_tr (σ 133) k) (by simp [qs_tr, c3, c4])]
        · rw [if_neg (nI_ne0 (by omega) (qm_small _ (by decide))), qm_y (p := fun k => qs_os (σ 133) s k && qs_tr (σ 133) k) (by omega) (by simp [c2, qs_tr, c3, c4])]
  · show X7_ofStays_k0 σ (nI s) w (nI (qcnt 20 (qs_os (σ 133) s))) (qsum 20 (qs_ln (σ 133) (qs_os (σ 133) s))) (nI (qm 20 (fun k => qs_os (σ 133) s k && qs_tr (σ 133) k))) (nI 20) = _
    unfold X7_ofStays_k0
    rw [if_pos qk_e20]
    by_cases c4 : w = 4
    · rw [if_pos c4, if_pos c4]
    · rw [if_neg c4, if_neg c4]
      by_cases c5 : w = 5
      · rw [if_pos c5, if_pos c5]
      · rw [if_neg c5, if_neg c5]
/-- what is summed over the stays -/
def qs_ov (M : Nat → Int32) (w : Int32) (k : Nat) : Int32 :=
  if w = 6 then qs_ln M (qs_is M) k else if w = 3 then (if qs_io M k = true then 1 else 0) else if w = 7 then qs_ln M (qs_io M) k else (if qs_hi M k = true then 1 else 0)
theorem qd_overStays {σ : gS} (h : qs_V (σ 133)) (w : Int32) : X7_overStays σ w = some (qsum 20 (qs_ov (σ 133) w)) := by
  refine qf_for (N := 20) (fun i => (w, qsum i (qs_ov (σ 133) w), nI i)) (fun i hi => ?_) ?_ 0 (by omega)
  · show X7_overStays_k0 σ w (qsum i (qs_ov (σ 133) w)) (nI i) = some (.inl (w, qsum i (qs_ov (σ 133) w) + qs_ov (σ 133) w i, nI (i + 1)))
    unfold X7_overStays_k0
    rw [if_neg (qk_20 hi), qk_s, qd_isStay h hi, qs, qb_if]
    cases c : qs_is (σ 133) i with
    | false =>
      have c2 : qs_io (σ 133) i = false := by unfold qs_io; rw [c, Bool.false_and]
      have c3 : qs_hi (σ 133) i = false := by unfold qs_hi; rw [c2, Bool.false_and]
      have e : qs_ov (σ 133) w i = 0 := by
        unfold qs_ov qs_ln
        rw [c, c2, c3]
        simp
      rw [if_neg (by decide), e, Int32.add_zero]
    | true =>
      rw [if_pos rfl, qd_to hi, qs, qd_from hi, qs]
      unfold qs_ov qs_ln
      by_cases w6 : w = 6
      · rw [if_pos w6, if_pos w6, if_pos c]
      · rw [if_neg w6, if_neg w6, qd_isOn h hi, qs, qb_if]
        cases c2 : qs_io (σ 133) i with
        | false =>
          have c3 : qs_hi (σ 133) i = false := by unfold qs_hi; rw [c2, Bool.false_and]
          rw [if_neg (by decide), c3]
          simp
        | true =>
          rw [if_pos rfl]
          by_cases w3 : w = 3
          · rw [if_pos w3, if_pos w3]; simp
          · rw [if_neg w3, if_neg w3]
            by_cases w7 : w = 7
            · rw [if_pos w7, if_pos w7]; simp
            · rw [if_neg w7, if_neg w7, qd_isHindered h hi, qs, qb_if]
              cases qs_hi (σ 133) i <;> simp
  · show X7_overStays_k0 σ w (qsum 20 (qs_ov (σ 133) w)) (nI 20) = _
    unfold X7_overStays_k0
    rw [if_pos qk_e20]
theorem qsum_cnt (p : Nat → Bool) : ∀ n, qsum n (fun k => if p k = true then 1 else 0) = nI (qcnt n p)
  | 0 => rfl
  | n + 1 => by
    show qsum n (fun k => if p k = true then 1 else 0) + (if p n = true then 1 else 0) = _
    rw [qsum_cnt p n]
    by_cases c : p n = true
    · rw [if_pos c, qcnt_y c, qk_s]
    · rw [if_neg c, qcnt_n (by cases h : p n <;> simp_all), Int32.add_zero]
/-- the second program's loop for the pairs of a stand -/
theorem qd_pairsl {σ : gS} (h : qs_V (σ 133)) {s : Nat} (hs : s < 8) : gr X7_stand_s (nI s, 0, 0, σ) = some (nI (qm (qs_n (σ 133)) (fun j => decide (0 ≤ qs_li (σ 133) s j))), σ) := by
  have h8 := qv_n8 h
  refine qf_for (N := qs_n (σ 133)) (fun i => (nI s, nI (qm i (fun j => decide (0 ≤ qs_li (σ 133) s j))), nI i, σ)) (fun i hi => ?_) ?_ 0 (by omega)
  · show X7_stand_k0 σ (nI s) (nI (qm i (fun j => decide (0 ≤ qs_li (σ 133) s j)))) (nI i) = _
    unfold X7_stand_k0
    rw [qk_z0, qv_n h, if_neg (qk_ge hi (by omega)), qk_s, qd_limit hs (by omega), qs]
    by_cases c : 0 ≤ qs_li (σ 133) s i
    · rw [if_neg (fun q => (qf_lt0 _).mp q c), qm_y (p := fun j => decide (0 ≤ qs_li (σ 133) s j)) (by omega) (decide_eq_true c)]
    · rw [if_pos ((qf_lt0 _).mpr c), qm_z i (fun j => decide (0 ≤ qs_li (σ 133) s j)) (decide_eq_false c)]
  · show X7_stand_k0 σ (nI s) (nI (qm (qs_n (σ 133)) (fun j => decide (0 ≤ qs_li (σ 133) s j)))) (nI (qs_n (σ 133))) = _
    unfold X7_stand_k0
    rw [qk_z0, qv_n h, if_pos (qk_end (by omega))]
