/-! ===== stands for a stay, the cheapest one, costs ===== -/
def qs_opt (M : Nat → Int32) (k s : Nat) : Bool := decide (qs_why M k s = 0)
theorem qi_w0 (w : Nat) (h : w < 6) : nI w = 0 ↔ w = 0 := nI_eq (a := w) (b := 0) (by omega) (by decide)
theorem qc_standsFor {σ : gS} {b : Nat} {M : Nat → Int32} (h : qr_R (qr_b σ b) M) {k : Nat} (hk : qs_is M k = true) : X0_standsFor σ b (nI k) = some (nI (qm (qs_n M) (qs_opt M k))) := by
  have h8 := qv_n8 h.1
  refine qf_for (N := qs_n M) (fun i => (nI k, nI (qm i (qs_opt M k)), nI i)) (fun i hi => ?_) ?_ 0 (by omega)
  · show X0_standsFor_k0 σ b (nI k) (nI (qm i (qs_opt M k))) (nI i) = _
    unfold X0_standsFor_k0
    rw [qr_0 h, if_neg (qk_ge hi (by omega)), qk_s, qc_refusal h hk hi, qs]
    by_cases c : qs_why M k i = 0
    · rw [if_pos ((qi_w0 _ (qs_why5 M k i)).mpr c), qm_y (p := qs_opt M k) (by omega) (decide_eq_true c)]
    · rw [if_neg (fun q => c ((qi_w0 _ (qs_why5 M k i)).mp q)), qm_no (p := qs_opt M k) (decide_eq_false c)]
  · show X0_standsFor_k0 σ b (nI k) (nI (qm (qs_n M) (qs_opt M k))) (nI (qs_n M)) = _
    unfold X0_standsFor_k0
    rw [qr_0 h, if_pos (qk_end (by omega))]
theorem qd_optionsOf {σ : gS} (h : qs_V (σ 133)) {k : Nat} (hk : qs_is (σ 133) k = true) : X7_optionsOf σ (nI k) = some (nI (qm (qs_n (σ 133)) (qs_opt (σ 133) k)), σ) := by
  have h8 := qv_n8 h
  refine qf_for (N := qs_n (σ 133)) (fun i => (nI k, nI (qm i (qs_opt (σ 133) k)), nI i, σ)) (fun i hi => ?_) ?_ 0 (by omega)
  · show X7_optionsOf_k0 σ (nI k) (nI (qm i (qs_opt (σ 133) k))) (nI i) = _
    unfold X7_optionsOf_k0
    rw [qk_z0, qv_n h, if_neg (qk_ge hi (by omega)), qk_s, qd_why h hk hi, qs]
    by_cases c : qs_why (σ 133) k i = 0
    · rw [if_pos ((qi_w0 _ (qs_why5 (σ 133) k i)).mpr c), qm_y (p := qs_opt (σ 133) k) (by omega) (decide_eq_true c)]
    · rw [if_neg (fun q => c ((qi_w0 _ (qs_why5 (σ 133) k i)).mp q)), qm_z i (qs_opt (σ 133) k) (decide_eq_false c)]
  · show X7_optionsOf_k0 σ (nI k) (nI (qm (qs_n (σ 133)) (qs_opt (σ 133) k))) (nI (qs_n (σ 133))) = _
    unfold X7_optionsOf_k0
    rw [qk_z0, qv_n h, if_pos (qk_end (by omega))]
/-! the cheapest: by kinds, the lowest number -/
def qs_chk (M : Nat → Int32) (k : Nat) (d : Int32) (i : Nat) : Option Nat := qfi (fun s => qs_opt M k s && decide (M (4 + s) = d)) i 0
def qs_chi (M : Nat → Int32) (k i : Nat) : Option Nat := match qs_chk M k 0 i with
  | some j => some j
  | none => match qs_chk M k 1 i with
    | some j => some j
    | none => qs_chk M k 2 i
def qs_ch (M : Nat → Int32) (k : Nat) : Option Nat := qs_chi M k (qs_n M)
def qo (o : Option Nat) : Int32 := match o with | some j => nI j | none => -1
theorem qfi_snoc {p : Nat → Bool} : ∀ (n i : Nat), qfi p (n + 1) i = match qfi p n i with | some j => some j | none => if p (i + n) = true then some (i + n) else none
  | 0, i => by show (if p i = true then some i else none) = _; rfl
  | n + 1, i => by
    show (if p i = true then some i else qfi p (n + 1) (i + 1)) = match (if p i = true then some i else qfi p n (i + 1)) with | some j => some j | none => _
    by_cases c : p i = true
    · rw [if_pos c, if_pos c]
    · rw [if_neg c, if_neg c, qfi_snoc n (i + 1), show i + 1 + n = i + (n + 1) by omega]
theorem qs_chk_s (M : Nat → Int32) (k : Nat) (d : Int32) (i : Nat) : qs_chk M k d (i + 1) = match qs_chk M k d i with | some j => some j | none => if (qs_opt M k i && decide (M (4 + i) = d)) = true then some i else none := by
  unfold qs_chk
  rw [qfi_snoc, Nat.zero_add]
theorem qs_chk_k {M : Nat → Int32} {k : Nat} {d : Int32} {i j : Nat} (h : qs_chk M k d i = some j) : j < i ∧ M (4 + j) = d ∧ qs_opt M k j = true := by
  obtain ⟨-, h1, h2, -⟩ := qfi_some h
  simp only [Bool.and_eq_true, decide_eq_true_eq] at h2
  exact ⟨by omega, h2.2, h2.1⟩
theorem qs_chi_k {M : Nat → Int32} {k i j : Nat} (h : qs_chi M k i = some j) : j < i ∧ qs_opt M k j = true := by
  unfold qs_chi at h
  split at h
  · rename_i j' e
    cases h
    have := qs_chk_k e
    exact ⟨this.1, this.2.2⟩
  · split at h
    · rename_i j' e
      cases h
      have := qs_chk_k e
      exact ⟨this.1, this.2.2⟩
    · have := qs_chk_k h
      exact ⟨this.1, this.2.2⟩
/-- one stand more -/
theorem qs_chi_s {M : Nat → Int32} (hV : qs_V M) (k : Nat) {i : Nat} (hi : i < qs_n M) : qs_chi M k (i + 1) = match qs_chi M k i with
    | some j => if M (4 + i) < M (4 + j) ∧ qs_opt M k i = true then some i else some j
    | none => if qs_opt M k i = true then some i else none := by
  have e01 : ¬ (0 : Int32) < 0 := by decide
  have e02 : ¬ (1 : Int32) < 0 := by decide
  have e03 : ¬ (2 : Int32) < 0 := by decide
  have e04 : (0 : Int32) < 1 := by decide
  have e05 : ¬ (1 : Int32) < 1 := by decide
  have e06 : ¬ (2 : Int32) < 1 := by decide
  have e07 : (0 : Int32) < 2 := by decide
  have e08 : (1 : Int32) < 2 := by decide
  have e09 : ¬ (2 : Int32) < 2 := by decide
  have f1 : ¬ (0 : Int32) = 1 := by decide
  have f2 : ¬ (0 : Int32) = 2 := by decide
  have f3 : ¬ (1 : Int32) = 0 := by decide
  have f4 : ¬ (1 : Int32) = 2 := by decide
  have f5 : ¬ (2 : Int32) = 0 := by decide
  have f6 : ¬ (2 : Int32) = 1 := by decide
  unfold qs_chi
  rw [qs_chk_s, qs_chk_s, qs_chk_s]
  cases c0 : qs_chk M k 0 i with
  | some j =>
    have := (qs_chk_k c0).2.1
    rcases qv_kd hV hi with q | q | q <;> simp [this, q, e01, e02, e03]
  | none =>
    cases c1 : qs_chk M k 1 i with
    | some j =>
      have := (qs_chk_k c1).2.1
      cases c : qs_opt M k i <;> rcases qv_kd hV hi with q | q | q <;> simp [this, q, e04, e05, e06, f1, f2, f3, f4, f5, f6]
    | none =>
      cases c2 : qs_chk M k 2 i with
      | some j =>
        have := (qs_chk_k c2).2.1
        cases c : qs_opt M k i <;> rcases qv_kd hV hi with q | q | q <;> simp [this, q, e07, e08, e09, f1, f2, f3, f4, f5, f6]
      | none =>
        cases c : qs_opt M k i <;> rcases qv_kd hV hi with q | q | q <;> simp [q, f1, f2, f3, f4, f5, f6]
theorem qc_cheapestFor {σ : gS} {b : Nat} {M : Nat → Int32} (h : qr_R (qr_b σ b) M) {k : Nat} (hk : qs_is M k = true) : X0_cheapestFor σ b (nI k) = some (qo (qs_ch M k)) := by
  have h8 := qv_n8 h.1
  refine qf_for (N := qs_n M) (fun i => (nI k, qo (qs_chi M k i), nI i)) (fun i hi => ?_) ?_ 0 (by omega)
  · show X0_cheapestFor_k0 σ b (nI k) (qo (qs_chi M k i)) (nI i) = some (.inl (nI k, qo (qs_chi M k (i + 1)), nI (i + 1)))
    unfold X0_cheapestFor_k0
    rw [qr_0 h, if_neg (qk_ge hi (by omega)), qk_s, qc_refusal h hk hi, qs, qs_chi_s h.1 k hi]
    have ew : (nI (qs_why M k i) = 0) ↔ qs_opt M k i = true := by
      unfold qs_opt
      rw [qi_w0 _ (qs_why5 M k i), decide_eq_true_eq]
    cases c : qs_chi M k i with
    | none =>
      show (if (-1 : Int32) < 0 then _ else _) = _
      rw [if_pos (by decide)]
      cases c2 : qs_opt M k i with
      | true => rw [if_pos (ew.mpr c2)]; rfl
      | false => rw [if_neg (fun q => by have := ew.mp q; rw [c2] at this; cases this)]; rfl
    | some j =>
      have hj := (qs_chi_k c).1
      show (if nI j < 0 then _ else _) = _
      rw [if_neg (nI_pos (by omega)), qg_i (by omega) (by decide)]
      show gd (ib (nI j) 8) (if σ (b + 1) (nI j).toNatClampNeg ≤ _ then _ else _) = _
      rw [qg_i (by omega) (by decide), qk_c (by omega), qk_c (by omega), qr_kd h hi, qr_kd h (show j < qs_n M by omega)]
      by_cases c3 : M (4 + i) < M (4 + j)
      · rw [if_neg (fun q => (qf_nle _ _).mp q c3)]
        cases c2 : qs_opt M k i with
        | true => rw [if_pos (ew.mpr c2)]; simp [c3, qo]
        | false => rw [if_neg (fun q => by have := ew.mp q; rw [c2] at this; cases this)]; simp [qo]
      · rw [if_pos ((qf_nle _ _).mpr c3)]; simp [c3, qo]
  · show X0_cheapestFor_k0 σ b (nI k) (qo (qs_chi M k (qs_n M))) (nI (qs_n M)) = _
    unfold X0_cheapestFor_k0
    rw [qr_0 h, if_pos (qk_end (by omega))]
    rfl
theorem qd_cheapestOf {σ : gS} (h : qs_V (σ 133)) {k : Nat} (hk : qs_is (σ 133) k = true) : X7_cheapestOf σ (nI k) = some (qo (qs_ch (σ 133) k), σ) := by
  have h8 := qv_n8 h
  unfold X7_cheapestOf
  rw [qd_optionsOf h hk, qs]
  show gr X7_cheapestOf_s (0, nI (qm (qs_n (σ 133)) (qs_opt (σ 133) k)), nI 0, nI 0, σ) = _
  have inner : ∀ (d : Nat) (z : Option (Int32 × gS)), d < 3 → gr X7_cheapestOf_s (0, nI (qm (qs_n (σ 133)) (qs_opt (σ 133) k)), nI (d + 1), 0, σ) = z → ∀ n i, i + n = qs_n (σ 133) → gr X7_cheapestOf_s (1, nI (qm (qs_n (σ 133)) (qs_opt (σ 133) k)), nI d, nI i, σ) = match qfi (fun s => qs_opt (σ 133) k s && decide (σ 133 (4 + s) = nI d)) n i with | some j => some (nI j, σ) | none => z := by
    intro d z hd hz n
    induction n with
    | zero =>
      intro i hi
      rw [gr_eq]
      show (X7_cheapestOf_k1 σ (nI (qm (qs_n (σ 133)) (qs_opt (σ 133) k))) (nI d) (nI i)).bind _ = _
      unfold X7_cheapestOf_k1
      rw [qk_z0, qv_n h, show i = qs_n (σ 133) by omega, if_pos (qk_end (by omega)), qs, qk_s]
      exact hz
    | succ n ih =>
      intro i hi
      have hi2 : i < qs_n (σ 133) := by omega
      rw [gr_eq]
      show (X7_cheapestOf_k1 σ (nI (qm (qs_n (σ 133)) (qs_opt (σ 133) k))) (nI d) (nI i)).bind _ = _
      unfold X7_cheapestOf_k1 qfi
      rw [qk_z0, qv_n h, if_neg (qk_ge hi2 (by omega)), qk_s, qk_4, qg_i (by omega) (by decide), qk_c (by omega)]
      cases c : qs_opt (σ 133) k i with
      | false =>
        rw [if_neg (fun q => by have := (qm_b1 (by omega) hi2).mp q; rw [c] at this; cases this), qs]
        simp only [Bool.false_and]
        rw [if_neg (by decide)]
        exact ih (i + 1) (by omega)
      | true =>
        rw [if_pos ((qm_b1 (by omega) hi2).mpr c)]
        simp only [Bool.true_and]
        by_cases c2 : σ 133 (4 + i) = nI d
        · rw [if_pos c2, if_pos (decide_eq_true c2), qs]
        · rw [if_neg c2, if_neg (by rw [decide_eq_false c2]; decide), qs]
          exact ih (i + 1) (by omega)
  have outer : ∀ d : Nat, d < 3 → gr X7_cheapestOf_s (0, nI (qm (qs_n (σ 133)) (qs_opt (σ 133) k)), nI d, 0, σ) = gr X7_cheapestOf_s (1, nI (qm (qs_n (σ 133)) (qs_opt (σ 133) k)), nI d, nI 0, σ) := by
    intro d hd
    rw [gr_eq]
    show (X7_cheapestOf_k0 σ (nI (qm (qs_n (σ 133)) (qs_opt (σ 133) k))) (nI d)).bind _ = _
    unfold X7_cheapestOf_k0
    rw [if_neg (show ¬ (3 : Int32) ≤ nI d from nI_ge (b := 3) hd (by decide)), qs]
    rfl
  have last : gr X7_cheapestOf_s (0, nI (qm (qs_n (σ 133)) (qs_opt (σ 133) k)), nI 3, 0, σ) = some (-1, σ) := by
    rw [gr_eq]
    show (X7_cheapestOf_k0 σ (nI (qm (qs_n (σ 133)) (qs_opt (σ 133) k))) (nI 3)).bind _ = _
    unfold X7_cheapestOf_k0
    rw [if_pos (show (3 : Int32) ≤ nI 3 from nI_le (a := 3) (b := 3) (by omega) (by decide)), qs]
  show gr X7_cheapestOf_s (0, nI (qm (qs_n (σ 133)) (qs_opt (σ 133) k)), nI 0, 0, σ) = _
  rw [outer 0 (by omega), inner 0 _ (by omega) rfl (qs_n (σ 133)) 0 (by omega), outer 1 (by omega), inner 1 _ (by omega) rfl (qs_n (σ 133)) 0 (by omega), outer 2 (by omega), inner 2 _ (by omega) last (qs_n (σ 133)) 0 (by omega)]
  show (match qs_chk (σ 133) k 0 (qs_n (σ 133)) with
    | some j => some (nI j, σ)
    | none => match qs_chk (σ 133) k 1 (qs_n (σ 133)) with
      | some j => some (nI j, σ)
      | none => match qs_chk (σ 133) k 2 (qs_n (σ 133)) with
        | some j => some (nI j, σ)
        | none => some (-1, σ)) = _
  unfold qs_ch qs_chi
  cases qs_chk (σ 133) k 0 (qs_n (σ 133)) with
  | some j => rfl
  | none =>
    cases qs_chk (σ 133) k 1 (qs_n (σ 133)) with
    | some j => rfl
    | none =>
      cases qs_chk (σ 133) k 2 (qs_n (σ 133)) with
      | some j => rfl
      | none => rfl
/-! costs -/
def qs_rate (x : Int32) : Int32 := if x = 0 then 0 else if x = 1 then 2 else 5
def qs_co (M : Nat → Int32) (k : Nat) : Int32 := (if qs_on M k < 0 then 20 else qs_rate (M (4 + qs_sn M k))) * qs_wt M k
def qs_ct (M : Nat → Int32) (t : Nat) : Int32 := if M (96 + 7 * t) < 0 then qs_co M (2 * t) else qs_co M (2 * t) + qs_co M (2 * t + 1) + 10
theorem qc_costOfStay {σ : gS} {b : Nat} {M : Nat → Int32} (h : qr_R (qr_b σ b) M) {k : Nat} (hk : qs_is M k = true) : X0_costOfStay σ b (nI k) = some (qs_co M k) := by
  have h8 := qv_n8 h.1
  have h10 := qv_t10 h.1
  have h3 := qv_k h.1 hk
  have h4 := qv_is hk
  unfold X0_costOfStay qs_co
  rw [qg_i h3 (by decide), qk_c (by omega), qr_ons h hk, qk_h h3]
  by_cases c : 0 ≤ qs_on M k
  · have hio : qs_io M k = true := by unfold qs_io; rw [hk, decide_eq_true c]; rfl
    have h5 := qv_sn h.1 hio
    rw [if_pos c, if_neg (fun q => (qf_lt0 _).mp q c), h5.1, qg_i (by omega) (by decide), qk_c (by omega), qr_kd h h5.2]
    have er : X0_rateOf σ (M (4 + qs_sn M k)) = some (qs_rate (M (4 + qs_sn M k))) := by
      unfold X0_rateOf qs_rate
      rcases qv_kd h.1 h5.2 with q | q | q <;> rw [q] <;> rfl
    rw [er, qs, qg_i (by omega) (by decide), qk_c (by omega), qr_wt h h4]; rfl
  · rw [if_neg c, if_pos ((qf_lt0 _).mpr c), qg_i (by omega) (by decide), qk_c (by omega), qr_wt h h4]; rfl
theorem qd_costOf {σ : gS} (h : qs_V (σ 133)) {k : Nat} (hk : k / 2 < qs_t (σ 133)) : X7_costOf σ (nI k) = some (qs_co (σ 133) k) := by
  have h8 := qv_n8 h
  have h10 := qv_t10 h
  have h3 : k < 20 := by omega
  unfold X7_costOf qs_co
  rw [qd_on h3, qs, qd_weight h3, qs, qs, qs, qs]
  by_cases c : 0 ≤ qs_on (σ 133) k
  · have h6 := qv_on h hk
    have h7 := qf_of ((qf_le _ _).mp c)
    have h9 : (qs_on (σ 133) k).toNatClampNeg < qs_n (σ 133) := by
      have := (qf_le _ _).mp c
      have e0 : (0 : Int32).toInt = 0 := rfl
      rw [qf_cl]; omega
    rw [if_pos c, if_neg (fun q => (qf_lt0 _).mp q c)]
    unfold qs_sn qs_rate
    rw [h7, qk_4, qk_c (by omega), qg_i (by omega) (by decide), qk_c (by omega)]
    by_cases c0 : σ 133 (4 + (qs_on (σ 133) k).toNatClampNeg) = 0
    · rw [if_pos c0, if_pos c0]
    · rw [if_neg c0, if_neg c0]
      by_cases c1 : σ 133 (4 + (qs_on (σ 133) k).toNatClampNeg) = 1
      · rw [if_pos c1, if_pos c1]
      · rw [if_neg c1, if_neg c1]
  · rw [if_neg c, if_pos ((qf_lt0 _).mpr c)]
theorem qc_costOfTurn {σ : gS} {b : Nat} {M : Nat → Int32} (h : qr_R (qr_b σ b) M) {t : Nat} (ht : t < qs_t M) : X0_costOfTurn σ b (nI t) = some (qs_ct M t) := by
  unfold X0_costOfTurn qs_ct
  rw [qk_m2, qc_costOfStay h (qv_is0 ht), qs, qc_hasTow h ht, qs, qb_if]
  by_cases c : 0 ≤ M (96 + 7 * t)
  · rw [decide_eq_true c, if_pos rfl, if_neg (fun q => (qf_lt0 _).mp q c), qk_s, qc_costOfStay h (by rw [qv_is1 ht]; exact decide_eq_true c), qs]
    congr 1
    rw [Int32.add_assoc, Int32.add_comm 10, ← Int32.add_assoc]
  · rw [decide_eq_false c, if_neg (by decide), if_pos ((qf_lt0 _).mpr c)]
theorem qd_costOfTurn {σ : gS} (h : qs_V (σ 133)) {t : Nat} (ht : t < qs_t (σ 133)) : X7_costOfTurn σ (nI t) = some (qs_ct (σ 133) t) := by
  have h10 := qv_t10 h
  unfold X7_costOfTurn qs_ct
  rw [qd_tow (by omega), qs, qk_m2, qk_s, qd_costOf h (by omega), qs, qs, qd_costOf h (by omega), qs]
  by_cases c : 0 ≤ σ 133 (96 + 7 * t)
  · rw [if_pos c, if_neg (fun q => (qf_lt0 _).mp q c)]
  · rw [if_neg c, if_pos ((qf_lt0 _).mpr c)]
theorem qc_costOfAll {σ : gS} {b : Nat} {M : Nat → Int32} (h : qr_R (qr_b σ b) M) : X0_costOfAll σ b = some (qsum (qs_t M) (qs_ct M)) := by
  have h10 := qv_t10 h.1
  refine qf_for (N := qs_t M) (fun i => (qsum i (qs_ct M), nI i)) (fun i hi => ?_) ?_ 0 (by omega)
  · show X0_costOfAll_k0 σ b (qsum i (qs_ct M)) (nI i) = _
    unfold X0_costOfAll_k0
    rw [qr_1 h, if_neg (qk_ge hi (by omega)), qk_s, qc_costOfTurn h hi, qs]
    rfl
  · show X0_costOfAll_k0 σ b (qsum (qs_t M) (qs_ct M)) (nI (qs_t M)) = _
    unfold X0_costOfAll_k0
    rw [qr_1 h, if_pos (qk_end (by omega))]
theorem qd_cost {σ : gS} (h : qs_V (σ 133)) : X7_cost σ = some (qsum (qs_t (σ 133)) (qs_ct (σ 133))) := by
  have h10 := qv_t10 h
  refine qf_for (N := qs_t (σ 133)) (fun i => (qsum i (qs_ct (σ 133)), nI i)) (fun i hi => ?_) ?_ 0 (by omega)
  · show X7_cost_k0 σ (qsum i (qs_ct (σ 133))) (nI i) = _
    unfold X7_cost_k0
    rw [qk_z1, qv_t h, if_neg (qk_ge hi (by omega)), qk_s, qd_costOfTurn h hi, qs]
    rfl
  · show X7_cost_k0 σ (qsum (qs_t (σ 133)) (qs_ct (σ 133))) (nI (qs_t (σ 133))) = _
    unfold X7_cost_k0
    rw [qk_z1, qv_t h, if_pos (qk_end (by omega))]
