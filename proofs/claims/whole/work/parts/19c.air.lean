/-! ===== the rows' readers, where the rows hold the airport M ===== -/
def qsum : Nat → (Nat → Int32) → Int32
  | 0, _ => 0
  | n + 1, f => qsum n f + f n
theorem qsum_congr : ∀ {n : Nat} {f g : Nat → Int32}, (∀ k, k < n → f k = g k) → qsum n f = qsum n g
  | 0, f, g, h => rfl
  | n + 1, f, g, h => by
    show qsum n f + f n = qsum n g + g n
    rw [qsum_congr (fun k hk => h k (by omega)), h n (by omega)]
/-- a call's turn and stay: there is such a stay -/
def qs_st (M : Nat → Int32) (x1 x2 : Int32) : Bool := ib x1 (qs_t M) && (decide (x2 = 0) || (decide (x2 = 1) && decide (0 ≤ M (96 + 7 * x1.toNatClampNeg))))
theorem qi_of {x : Int32} {n : Nat} (h : ib x n = true) : ∃ j : Nat, j < n ∧ x = nI j := by
  obtain ⟨h1, h2⟩ := of_decide_eq_true h
  have := qf_rng x
  exact ⟨x.toNatClampNeg, by rw [qf_cl]; omega, qf_of h1⟩
theorem qi_nI {j n : Nat} (hj : j < 2 ^ 31) : ib (nI j) n = decide (j < n) := by
  unfold ib
  rw [nI_toInt hj]
  apply decide_eq_decide.mpr
  omega
theorem qs_st_of {M : Nat → Int32} (hV : qs_V M) {x1 x2 : Int32} (h : qs_st M x1 x2 = true) : ∃ t e : Nat, x1 = nI t ∧ x2 = nI e ∧ e < 2 ∧ t < qs_t M ∧ qs_is M (2 * t + e) = true := by
  unfold qs_st at h
  simp only [Bool.and_eq_true, Bool.or_eq_true, decide_eq_true_eq] at h
  obtain ⟨h1, h2⟩ := h
  obtain ⟨t, ht, rfl⟩ := qi_of h1
  have := qv_t10 hV
  rw [qk_c (by omega)] at h2
  rcases h2 with rfl | ⟨rfl, h2⟩
  · exact ⟨t, 0, rfl, rfl, by omega, ht, qv_is0 ht⟩
  · exact ⟨t, 1, rfl, rfl, by omega, ht, by rw [qv_is1 ht]; exact decide_eq_true h2⟩
section QC
variable {σ : gS} {b : Nat} {M : Nat → Int32}
theorem qc_hasStand (h : qr_R (qr_b σ b) M) (x1 : Int32) : X0_hasStand σ b x1 = some (qb (ib x1 (qs_n M))) := by
  have h8 := qv_n8 h.1
  have e0 : (0 : Int32).toInt = 0 := rfl
  have e8 : (8 : Int32).toInt = 8 := rfl
  have en : (nI (qs_n M)).toInt = qs_n M := nI_toInt (by omega)
  unfold X0_hasStand ib
  rw [qr_0 h]
  simp only [qf_lt, qf_le, e0, e8, en]
  by_cases c : 0 ≤ x1.toInt ∧ x1.toInt < qs_n M
  · rw [if_neg (by omega), if_neg (by omega), if_neg (by omega), decide_eq_true c]; rfl
  · rw [decide_eq_false c]
    by_cases c1 : x1.toInt < 0
    · rw [if_pos c1]; rfl
    · rw [if_neg c1, if_pos (by omega)]; rfl
theorem qc_hasTurn (h : qr_R (qr_b σ b) M) (x1 : Int32) : X0_hasTurn σ b x1 = some (qb (ib x1 (qs_t M))) := by
  have h8 := qv_t10 h.1
  have e0 : (0 : Int32).toInt = 0 := rfl
  have e8 : (10 : Int32).toInt = 10 := rfl
  have en : (nI (qs_t M)).toInt = qs_t M := nI_toInt (by omega)
  unfold X0_hasTurn ib
  rw [qr_1 h]
  simp only [qf_lt, qf_le, e0, e8, en]
  by_cases c : 0 ≤ x1.toInt ∧ x1.toInt < qs_t M
  · rw [if_neg (by omega), if_neg (by omega), if_neg (by omega), decide_eq_true c]; rfl
  · rw [decide_eq_false c]
    by_cases c1 : x1.toInt < 0
    · rw [if_pos c1]; rfl
    · rw [if_neg c1, if_pos (by omega)]; rfl
theorem qc_hasTow (h : qr_R (qr_b σ b) M) {t : Nat} (ht : t < qs_t M) : X0_hasTow σ b (nI t) = some (qb (decide (0 ≤ M (96 + 7 * t)))) := by
  have := qv_t10 h.1
  unfold X0_hasTow
  rw [qg_i (by omega) (by decide), qk_c (by omega), qr_tw h ht]
  by_cases c : 0 ≤ M (96 + 7 * t)
  · rw [if_neg (fun q => (qf_lt0 _).mp q c), decide_eq_true c]; rfl
  · rw [if_pos ((qf_lt0 _).mpr c), decide_eq_false c]; rfl
theorem qc_hasStay (h : qr_R (qr_b σ b) M) (x1 x2 : Int32) : X0_hasStay σ b x1 x2 = some (qb (qs_st M x1 x2)) := by
  unfold X0_hasStay qs_st
  rw [qc_hasTurn h, qs]
  cases c : ib x1 (qs_t M) with
  | false => rfl
  | true =>
    obtain ⟨t, ht, rfl⟩ := qi_of c
    have := qv_t10 h.1
    rw [if_neg (by decide), qk_c (by omega)]
    by_cases c1 : x2 = 0
    · rw [if_pos c1]; simp [c1, qb]
    · rw [if_neg c1]
      by_cases c2 : x2 = 1
      · rw [if_pos c2, qc_hasTow h ht, qs]
        cases decide (0 ≤ M (96 + 7 * t)) <;> simp [c2, qb]
      · rw [if_neg c2]; simp [c1, c2, qb]
theorem qc_isOnStand (h : qr_R (qr_b σ b) M) {k : Nat} (hk : k < 20) : X0_isOnStand σ b (nI k) = some (qb (qs_io M k)) := by
  unfold X0_isOnStand
  rw [qg_i hk (by decide), qk_c (by omega)]
  cases c : qs_io M k with
  | true =>
    rw [qr_ony h c]
    have := qv_n8 h.1
    have := (qv_sn h.1 c).2
    rw [if_neg (nI_pos (by omega))]; rfl
  | false => rw [qr_onn h hk c]; rfl
theorem qc_isOpened (h : qr_R (qr_b σ b) M) {s : Nat} (hs : s < qs_n M) : X0_isOpened σ b (nI s) = some (qb (!decide (M (20 + s) = 0))) := by
  unfold X0_isOpened
  by_cases c : M (20 + s) = 0
  · rw [if_pos ((qr_opn h hs).mpr c), decide_eq_true c]; rfl
  · rw [if_neg (fun q => c ((qr_opn h hs).mp q)), decide_eq_false c]; rfl
theorem qc_isLargeEnough (h : qr_R (qr_b σ b) M) {s k : Nat} (hs : s < qs_n M) (hk : qs_is M k = true) : X0_isLargeEnough σ b (nI s) (nI k) = some (qb (!decide (M (12 + s) < qs_sz M k))) := by
  have h1 := qv_n8 h.1
  have h2 := qv_t10 h.1
  have h3 := qv_k h.1 hk
  have h4 := qv_is hk
  unfold X0_isLargeEnough
  rw [qk_h h3, qg_i (by omega) (by decide), qg_i (by omega) (by decide), qk_c (by omega), qk_c (by omega), qr_ss h hs, qr_sz h h4, qb_iten]
  rfl
theorem qc_isHindered (h : qr_R (qr_b σ b) M) {k : Nat} (hk : k < 20) : X0_isHindered σ b (nI k) = some (qb (qs_hi M k)) := by
  unfold X0_isHindered
  rw [qc_isOnStand h hk, qs]
  unfold qs_hi
  cases c : qs_io M k with
  | false => rfl
  | true =>
    have h1 := (qv_sn h.1 c).2
    have h2 := (qv_io c).1
    rw [if_neg (by decide), qg_i hk (by decide), qk_c (by omega), qr_ony h c, qc_isOpened h h1, qs, qb_if, qc_isLargeEnough h h1 h2, qs, qb_if]
    unfold qs_hs
    cases decide (M (20 + qs_sn M k) = 0) <;> cases decide (M (12 + qs_sn M k) < qs_sz M k) <;> rfl
theorem qc_wouldClash (h : qr_R (qr_b σ b) M) {k s o r : Nat} (hk : qs_is M k = true) (hs : s < qs_n M) (ho : qs_is M o = true) (hr : r < qs_n M) : X0_wouldClash σ b (nI k) (nI s) (nI o) (nI r) = some (qb (qs_w M k s o r)) := by
  have h1 := qv_n8 h.1
  have h2 := qv_t10 h.1
  have h3 := qv_k h.1 hk
  have h4 := qv_is hk
  have h5 := qv_k h.1 ho
  have h6 := qv_is ho
  unfold X0_wouldClash qs_w
  by_cases c : s = r
  · subst c
    rw [if_pos rfl, if_pos rfl, qg_i h5 (by decide), qg_i h3 (by decide), qk_c (by omega), qk_c (by omega), qr_fr h hk, qr_fr h ho, qr_to h hk, qr_to h ho, qr_2 h]
    simp only [qf_nle]
    by_cases c1 : qs_fr M o < qs_to M k + M 2 <;> by_cases c2 : qs_fr M k < qs_to M o + M 2 <;> simp [c1, c2, qb]
  · rw [if_neg (fun q => c ((qk_eq (by omega) (by omega)).mp q)), if_neg c, qk_m8, qg_i (by omega) (by decide), qk_c (by omega), qr_li h hs hr, qk_h h3, qk_h h5, qg_i (by omega) (by decide), qg_i (by omega) (by decide), qg_i h5 (by decide), qg_i h3 (by decide), qk_c (by omega), qk_c (by omega), qk_c (by omega), qk_c (by omega), qr_fr h hk, qr_fr h ho, qr_to h hk, qr_to h ho, show σ (b + 4) (k / 2) = qs_sz M k from qr_sz h h4, show σ (b + 4) (o / 2) = qs_sz M o from qr_sz h h6]
    simp only [qf_nle]
    by_cases c0 : qs_li M s r < 0 <;> by_cases c3 : qs_li M s r < qs_sz M k + qs_sz M o <;> by_cases c1 : qs_fr M o < qs_to M k <;> by_cases c2 : qs_fr M k < qs_to M o <;> simp [c0, c1, c2, c3, qb]
theorem qc_clashesOn (h : qr_R (qr_b σ b) M) {k s : Nat} (hk : qs_is M k = true) (hs : s < qs_n M) : X0_clashesOn σ b (nI k) (nI s) = some (nI (qm 20 (qs_cl M k s))) := by
  have h1 := qv_n8 h.1
  have h3 := qv_k h.1 hk
  refine qf_for (N := 20) (fun i => (nI k, nI s, nI (qm i (qs_cl M k s)), nI i)) (fun i hi => ?_) ?_ 0 (by omega)
  · show X0_clashesOn_k0 σ b (nI k) (nI s) (nI (qm i (qs_cl M k s))) (nI i) = _
    unfold X0_clashesOn_k0
    rw [if_neg (qk_20 hi), qg_i hi (by decide), qk_s, qk_c (by omega)]
    by_cases c1 : i = k
    · rw [if_pos (by rw [c1]), qm_no (by unfold qs_cl; simp [c1])]
    · rw [if_neg (fun q => c1 ((qk_eq (by omega) (by omega)).mp q))]
      cases c2 : qs_io M i with
      | false =>
        rw [qr_onn h hi c2, if_pos (by decide), qm_no (by unfold qs_cl; simp [c2])]
      | true =>
        have h4 := qv_sn h.1 c2
        rw [qr_ony h c2, if_neg (nI_pos (by omega)), qc_wouldClash h hk hs (qv_io c2).1 h4.2, qs, qb_if]
        have e : qs_cl M k s i = qs_w M k s i (qs_sn M i) := by unfold qs_cl; simp [c1, c2]
        cases c3 : qs_w M k s i (qs_sn M i) with
        | false => rw [if_neg (by decide), qm_no (by rw [e, c3])]
        | true => rw [if_pos rfl, qm_y (by omega) (by rw [e, c3])]
  · show X0_clashesOn_k0 σ b (nI k) (nI s) (nI (qm 20 (qs_cl M k s))) (nI 20) = _
    unfold X0_clashesOn_k0
    rw [if_pos qk_e20]
theorem qc_conflictsOf (h : qr_R (qr_b σ b) M) {k : Nat} (hk : k < 20) : X0_conflictsOf σ b (nI k) = some (nI (qm 20 (qs_cf M k))) := by
  unfold X0_conflictsOf
  rw [qc_isOnStand h hk, qs, qb_if]
  cases c : qs_io M k with
  | false =>
    rw [if_neg (by decide)]
    have e : qm 20 (qs_cf M k) = 0 := qm_0.mpr (fun i _ => by unfold qs_cf; simp [c])
    rw [e]; rfl
  | true =>
    rw [if_pos rfl, qg_i hk (by decide), qk_c (by omega), qr_ony h c, qc_clashesOn h (qv_io c).1 (qv_sn h.1 c).2, qs]
    congr 2
    exact qm_congr (fun i _ => by unfold qs_cf; simp [c])
/-- hindered or in conflict -/
def qs_tr (M : Nat → Int32) (k : Nat) : Bool := qs_hi M k || !decide (qm 20 (qs_cf M k) = 0)
theorem qc_isTroubled (h : qr_R (qr_b σ b) M) {k : Nat} (hk : k < 20) : X0_isTroubled σ b (nI k) = some (qb (qs_tr M k)) := by
  unfold X0_isTroubled qs_tr
  rw [qc_isHindered h hk, qs, qb_if]
  cases c : qs_hi M k with
  | true => rw [if_pos rfl]; rfl
  | false =>
    rw [if_neg (by decide), qc_conflictsOf h hk, qs]
    by_cases c2 : qm 20 (qs_cf M k) = 0
    · rw [c2, if_pos nI_0]; rfl
    · rw [if_neg (nI_ne0 (by omega) (qm_small _ (by decide)))]; simp [c2, qb]
/-- on the stand s -/
def qs_os (M : Nat → Int32) (s k : Nat) : Bool := qs_io M k && decide (qs_sn M k = s)
theorem qc_os (h : qr_R (qr_b σ b) M) {k s : Nat} (hk : k < 20) (hs : s < 8) : (σ (b + 11) k = nI s) ↔ qs_os M s k = true := by
  unfold qs_os
  have h1 := qv_n8 h.1
  cases c : qs_io M k with
  | true =>
    have h4 := qv_sn h.1 c
    rw [qr_ony h c, qk_eq (by omega) (by omega)]; simp
  | false =>
    rw [qr_onn h hk c]
    constructor
    · intro q
      rw [qf_eq, nI_toInt (by omega), show (-1 : Int32).toInt = -1 by decide] at q
      omega
    · intro q; simp at q
theorem qc_staysOn (h : qr_R (qr_b σ b) M) {s : Nat} (hs : s < 8) : X0_staysOn σ b (nI s) = some (nI (qm 20 (qs_os M s))) := by
  refine qf_for (N := 20) (fun i => (nI s, nI (qm i (qs_os M s)), nI i)) (fun i hi => ?_) ?_ 0 (by omega)
  · show X0_staysOn_k0 σ b (nI s) (nI (qm i (qs_os M s))) (nI i) = _
    unfold X0_staysOn_k0
    rw [if_neg (qk_20 hi), qg_i hi (by decide), qk_s, qk_c (by omega)]
    cases c : qs_os M s i with
    | true => rw [if_pos ((qc_os h hi hs).mpr c), qm_y (by omega) c]
    | false => rw [if_neg (fun q => by have := (qc_os h hi hs).mp q; rw [c] at this; cases this), qm_no c]
  · show X0_staysOn_k0 σ b (nI s) (nI (qm 20 (qs_os M s))) (nI 20) = _
    unfold X0_staysOn_k0
    rw [if_pos qk_e20]
theorem qc_staysOnStands (h : qr_R (qr_b σ b) M) : X0_staysOnStands σ b = some (nI (qm 20 (qs_io M))) := by
  refine qf_for (N := 20) (fun i => (nI (qm i (qs_io M)), nI i)) (fun i hi => ?_) ?_ 0 (by omega)
  · show X0_staysOnStands_k0 σ b (nI (qm i (qs_io M))) (nI i) = _
    unfold X0_staysOnStands_k0
    rw [if_neg (qk_20 hi), qk_s, qc_isOnStand h hi, qs, qb_if]
    cases c : qs_io M i with
    | true => rw [if_pos rfl, qm_y (by omega) c]
    | false => rw [if_neg (by decide), qm_no c]
  · show X0_staysOnStands_k0 σ b (nI (qm 20 (qs_io M))) (nI 20) = _
    unfold X0_staysOnStands_k0
    rw [if_pos qk_e20]
theorem qc_hinderedStays (h : qr_R (qr_b σ b) M) : X0_hinderedStays σ b = some (nI (qm 20 (qs_hi M))) := by
  refine qf_for (N := 20) (fun i => (nI (qm i (qs_hi M)), nI i)) (fun i hi => ?_) ?_ 0 (by omega)
  · show X0_hinderedStays_k0 σ b (nI (qm i (qs_hi M))) (nI i) = _
    unfold X0_hinderedStays_k0
    rw [if_neg (qk_20 hi), qk_s, qc_isHindered h hi, qs, qb_if]
    cases c : qs_hi M i with
    | true => rw [if_pos rfl, qm_y (by omega) c]
    | false => rw [if_neg (by decide), qm_no c]
  · show X0_hinderedStays_k0 σ b (nI (qm 20 (qs_hi M))) (nI 20) = _
    unfold X0_hinderedStays_k0
    rw [if_pos qk_e20]
theorem qc_troubledOn (h : qr_R (qr_b σ b) M) {s : Nat} (hs : s < 8) : X0_troubledOn σ b (nI s) = some (nI (qm 20 (fun k => qs_os M s k && qs_tr M k))) := by
  refine qf_for (N := 20) (fun i => (nI s, nI (qm i (fun k => qs_os M s k && qs_tr M k)), nI i)) (fun i hi => ?_) ?_ 0 (by omega)
  · show X0_troubledOn_k0 σ b (nI s) (nI (qm i (fun k => qs_os M s k && qs_tr M k))) (nI i) = _
    unfold X0_troubledOn_k0
    rw [if_neg (qk_20 hi), qg_i hi (by decide), qk_s, qk_c (by omega)]
    cases c : qs_os M s i with
    | true =>
      rw [if_pos ((qc_os h hi hs).mpr c), qc_isTroubled h hi, qs, qb_if]
      cases c2 : qs_tr M i with
      | true => rw [if_pos rfl, qm_y (p := fun k => qs_os M s k && qs_tr M k) (by omega) (by simp [c, c2])]
      | false => rw [if_neg (by decide), qm_no (p := fun k => qs_os M s k && qs_tr M k) (by simp [c2])]
    | false => rw [if_neg (fun q => by have := (qc_os h hi hs).mp q; rw [c] at this; cases this), qm_no (p := fun k => qs_os M s k && qs_tr M k) (by simp [c])]
  · show X0_troubledOn_k0 σ b (nI s) (nI (qm 20 (fun k => qs_os M s k && qs_tr M k))) (nI 20) = _
    unfold X0_troubledOn_k0
    rw [if_pos qk_e20]
theorem qc_partnersOf (h : qr_R (qr_b σ b) M) {s : Nat} (hs : s < qs_n M) : X0_partnersOf σ b (nI s) = some (nI (qm (qs_n M) (fun j => decide (0 ≤ qs_li M s j)))) := by
  have h8 := qv_n8 h.1
  refine qf_for (N := qs_n M) (fun i => (nI s, nI (qm i (fun j => decide (0 ≤ qs_li M s j))), nI i)) (fun i hi => ?_) ?_ 0 (by omega)
  · show X0_partnersOf_k0 σ b (nI s) (nI (qm i (fun j => decide (0 ≤ qs_li M s j)))) (nI i) = _
    unfold X0_partnersOf_k0
    rw [qr_0 h, if_neg (qk_ge hi (by omega)), qk_m8, qg_i (by omega) (by decide), qk_s, qk_c (by omega), qr_li h hs hi]
    by_cases c : 0 ≤ qs_li M s i
    · rw [if_neg (fun q => (qf_lt0 _).mp q c), qm_y (p := fun j => decide (0 ≤ qs_li M s j)) (by omega) (decide_eq_true c)]
    · rw [if_pos ((qf_lt0 _).mpr c), qm_no (p := fun j => decide (0 ≤ qs_li M s j)) (decide_eq_false c)]
  · show X0_partnersOf_k0 σ b (nI s) (nI (qm (qs_n M) (fun j => decide (0 ≤ qs_li M s j)))) (nI (qs_n M)) = _
    unfold X0_partnersOf_k0
    rw [qr_0 h, if_pos (qk_end (by omega))]
theorem qc_lengthOf (h : qr_R (qr_b σ b) M) {p : Nat → Bool} (hp : ∀ k, k < 20 → p k = true → qs_is M k = true) : X0_lengthOf σ b (nI (qm 20 p)) = some (qsum 20 (fun k => if p k = true then qs_to M k - qs_fr M k else 0)) := by
  refine qf_for (N := 20) (fun i => (nI (qm 20 p), qsum i (fun k => if p k = true then qs_to M k - qs_fr M k else 0), nI i)) (fun i hi => ?_) ?_ 0 (by omega)
  · show X0_lengthOf_k0 σ b (nI (qm 20 p)) (qsum i (fun k => if p k = true then qs_to M k - qs_fr M k else 0)) (nI i) = _
    unfold X0_lengthOf_k0
    rw [if_neg (qk_20 hi), qk_s, qg_i hi (by decide), qk_c (by omega)]
    show _ = some (Sum.inl (nI (qm 20 p), qsum i (fun k => if p k = true then qs_to M k - qs_fr M k else 0) + (if p i = true then qs_to M i - qs_fr M i else 0), nI (i + 1)))
    cases c : p i with
    | true => rw [if_neg (fun q => by have := (qm_b0 (by decide) hi).mp q; rw [c] at this; cases this), if_pos rfl, qr_fr h (hp i hi c), qr_to h (hp i hi c)]
    | false => rw [if_pos ((qm_b0 (by decide) hi).mpr c), if_neg (by decide), Int32.add_zero]
  · show X0_lengthOf_k0 σ b (nI (qm 20 p)) (qsum 20 (fun k => if p k = true then qs_to M k - qs_fr M k else 0)) (nI 20) = _
    unfold X0_lengthOf_k0
    rw [if_pos qk_e20]
/-- there at a minute -/
def qs_th (M : Nat → Int32) (m : Int32) (k : Nat) : Bool := decide (qs_fr M k ≤ m) && decide (m < qs_to M k)
theorem qc_isThere (h : qr_R (qr_b σ b) M) {k : Nat} (hk : qs_is M k = true) (m : Int32) : X0_isThere σ b (nI k) m = some (qb (qs_th M m k)) := by
  have h3 := qv_k h.1 hk
  unfold X0_isThere qs_th
  rw [qg_i h3 (by decide), qk_c (by omega), qr_fr h hk, qr_to h hk]
  simp only [qf_nle]
  by_cases c1 : m < qs_fr M k <;> by_cases c2 : m < qs_to M k <;> simp [c1, c2, qb]
theorem qc_stayAt (h : qr_R (qr_b σ b) M) {s : Nat} (hs : s < 8) (m : Int32) : X0_stayAt σ b (nI s) m = some (match qfi (fun k => qs_os M s k && qs_th M m k) 20 0 with | some j => nI j | none => -1) := by
  refine qf_find (N := 20) (p := fun k => qs_os M s k && qs_th M m k) (out := fun j => nI j) (fun i => (nI s, m, nI i)) (fun i hi hp => ?_) (fun i hi hp => ?_) ?_ 20 0 rfl
  · show X0_stayAt_k0 σ b (nI s) m (nI i) = _
    unfold X0_stayAt_k0
    rw [if_neg (qk_20 hi), qg_i hi (by decide), qk_s, qk_c (by omega)]
    cases c : qs_os M s i with
    | true =>
      have hi2 : qs_is M i = true := by
        unfold qs_os at c
        simp only [Bool.and_eq_true] at c
        exact (qv_io c.1).1
      rw [if_pos ((qc_os h hi hs).mpr c), qc_isThere h hi2, qs, qb_if]
      simp only [c, Bool.true_and] at hp
      rw [hp, if_neg (by decide)]
    | false => rw [if_neg (fun q => by have := (qc_os h hi hs).mp q; rw [c] at this; cases this)]
  · show X0_stayAt_k0 σ b (nI s) m (nI i) = _
    unfold X0_stayAt_k0
    simp only [Bool.and_eq_true] at hp
    have hi2 : qs_is M i = true := by
      have c := hp.1
      unfold qs_os at c
      simp only [Bool.and_eq_true] at c
      exact (qv_io c.1).1
    rw [if_neg (qk_20 hi), qg_i hi (by decide), qk_c (by omega), if_pos ((qc_os h hi hs).mpr hp.1), qc_isThere h hi2, qs, qb_if, hp.2, if_pos rfl]
  · show X0_stayAt_k0 σ b (nI s) m (nI 20) = _
    unfold X0_stayAt_k0
    rw [if_pos qk_e20]
end QC
