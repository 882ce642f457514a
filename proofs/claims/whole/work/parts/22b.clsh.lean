/-! ===== repairs: the rows' side, the tables of clashes ===== -/
def qz_fit (M : Nat → Int32) (k s : Nat) : Bool := (decide (s < qs_n M) && !decide (s = qs_sn M k)) && !qs_hs M k s
def qx_T (σ : gS) (c : Nat) (M : Nat → Int32) : Prop :=
  σ c 4 = nI (qm 20 (qs_hi M)) ∧ σ c 5 = nI (qs_n M) ∧ σ c 6 = nI (qcnt 20 (qs_io M))
  ∧ (∀ k, k < 20 → qs_io M k = true → σ (c + 4) (qcnt k (qs_io M)) = nI k ∧ σ (c + 3) k = nI (qm 20 (qs_cf M k)) ∧ σ (c + 2) k = nI (qm 8 (qz_fit M k)) ∧ ∀ s, s < 8 → qz_fit M k s = true → σ (c + 1) (k * 8 + s) = nI (qm 20 (qs_cl M k s)))
theorem qz_fit_hi {M : Nat → Int32} {k s : Nat} (h : qs_n M ≤ s) : qz_fit M k s = false := by
  unfold qz_fit
  rw [decide_eq_false (show ¬ s < qs_n M by omega)]; rfl
theorem qx_stay {σ : gS} {c : Nat} {M : Nat → Int32} (hc : g_cla c) (h : qr_R (qr_b σ 24) M) (h5 : σ c 5 = nI (qs_n M)) {k : Nat} (hk : qs_io M k = true) :
    ∃ σ', X1_lookAtStay σ c 24 (nI k) = some σ' ∧ (∀ a, a ≠ c + 1 → a ≠ c + 2 → a ≠ c + 3 → σ' a = σ a) ∧ (∀ j, j ≠ k → σ' (c + 2) j = σ (c + 2) j ∧ σ' (c + 3) j = σ (c + 3) j) ∧ (∀ j, j / 8 ≠ k → σ' (c + 1) j = σ (c + 1) j)
      ∧ σ' (c + 3) k = nI (qm 20 (qs_cf M k)) ∧ σ' (c + 2) k = nI (qm 8 (qz_fit M k)) ∧ ∀ s, s < 8 → qz_fit M k s = true → σ' (c + 1) (k * 8 + s) = nI (qm 20 (qs_cl M k s)) := by
  have hV := h.1
  have h8 := qv_n8 hV
  have his := qs_io_is hk
  have k20 := qv_k hV his
  have hs := (qv_sn hV hk).2
  have c19 : c = 14 ∨ c = 19 := hc
  have eon : σ (24 + 11) k = nI (qs_sn M k) := qr_ony h hk
  have ecf : qm 20 (qs_cl M k (qs_sn M k)) = qm 20 (qs_cf M k) := qm_congr (fun o _ => by unfold qs_cf; rw [hk, Bool.true_and])
  unfold X1_lookAtStay
  rw [qg_i k20 (by decide), qk_c (by omega), eon, qc_clashesOn h his hs, qs, ecf, ql, ql]
  have hl := qf_inv (step := X1_lookAtStay_s c 24) (N := qs_n M) (γ := gS)
    (J := fun i τ => (∀ a, a ≠ c + 1 → a ≠ c + 2 → a ≠ c + 3 → τ a = σ a) ∧ (∀ j, j ≠ k → τ (c + 2) j = σ (c + 2) j ∧ τ (c + 3) j = σ (c + 3) j) ∧ (∀ j, j / 8 ≠ k → τ (c + 1) j = σ (c + 1) j) ∧ τ (c + 3) k = nI (qm 20 (qs_cf M k)) ∧ τ (c + 2) k = nI (qm i (qz_fit M k)) ∧ ∀ s, s < i → qz_fit M k s = true → τ (c + 1) (k * 8 + s) = nI (qm 20 (qs_cl M k s)))
    (Q := fun τ => (∀ a, a ≠ c + 1 → a ≠ c + 2 → a ≠ c + 3 → τ a = σ a) ∧ (∀ j, j ≠ k → τ (c + 2) j = σ (c + 2) j ∧ τ (c + 3) j = σ (c + 3) j) ∧ (∀ j, j / 8 ≠ k → τ (c + 1) j = σ (c + 1) j) ∧ τ (c + 3) k = nI (qm 20 (qs_cf M k)) ∧ τ (c + 2) k = nI (qm 8 (qz_fit M k)) ∧ ∀ s, s < 8 → qz_fit M k s = true → τ (c + 1) (k * 8 + s) = nI (qm 20 (qs_cl M k s)))
    (fun i τ => (nI k, nI (qs_sn M k), nI i, τ)) (fun i τ hi hJ => ?_) (fun τ hJ => ?_) 0 (g_up (g_up σ (c + 3) k (nI (qm 20 (qs_cf M k)))) (c + 2) k 0) (by omega) ?_
  · obtain ⟨τ, h1, h2⟩ := hl
    exact ⟨τ, h1, h2⟩
  · obtain ⟨j1, j2, j3, j4, j5, j6⟩ := hJ
    refine Or.inl ?_
    have hRt : qr_R (qr_b τ 24) M := by rw [qr_bc (σ := σ) (fun a p q => j1 a (by omega) (by omega) (by omega))]; exact h
    have e5 : τ c 5 = nI (qs_n M) := by rw [j1 c (by omega) (by omega) (by omega)]; exact h5
    show ∃ g', X1_lookAtStay_k0 τ c 24 (nI k) (nI (qs_sn M k)) (nI i) = _ ∧ _
    unfold X1_lookAtStay_k0
    rw [e5, if_neg (qk_ge hi (by omega)), qk_s]
    have no : qz_fit M k i = false → ∃ g', some (Sum.inl (nI k, nI (qs_sn M k), nI (i + 1), τ)) = some (Sum.inl (β := gS) (nI k, nI (qs_sn M k), nI (i + 1), g')) ∧ ((∀ a, a ≠ c + 1 → a ≠ c + 2 → a ≠ c + 3 → g' a = σ a) ∧ (∀ j, j ≠ k → g' (c + 2) j = σ (c + 2) j ∧ g' (c + 3) j = σ (c + 3) j) ∧ (∀ j, j / 8 ≠ k → g' (c + 1) j = σ (c + 1) j) ∧ g' (c + 3) k = nI (qm 20 (qs_cf M k)) ∧ g' (c + 2) k = nI (qm (i + 1) (qz_fit M k)) ∧ ∀ s, s < i + 1 → qz_fit M k s = true → g' (c + 1) (k * 8 + s) = nI (qm 20 (qs_cl M k s))) := by
      intro hf
      refine ⟨τ, rfl, j1, j2, j3, j4, by rw [qm_no hf]; exact j5, fun s hs hfs => ?_⟩
      by_cases e : s = i
      · rw [e, hf] at hfs; cases hfs
      · exact j6 s (by omega) hfs
    by_cases c1 : i = qs_sn M k
    · rw [if_pos (by rw [c1])]
      exact no (by unfold qz_fit; rw [decide_eq_true c1]; simp)
    · rw [if_neg (fun q => c1 ((qk_eq (by omega) (by omega)).mp q)), qc_isOpened hRt hi, qs, qb_if]
      by_cases c2 : M (20 + i) = 0
      · rw [decide_eq_true c2, if_neg (by decide)]
        exact no (by unfold qz_fit qs_hs; rw [decide_eq_true c2]; simp)
      · rw [decide_eq_false c2, if_pos (by decide), qc_isLargeEnough hRt hi his, qs, qb_if]
        by_cases c3 : M (12 + i) < qs_sz M k
        · rw [decide_eq_true c3, if_neg (by decide)]
          exact no (by unfold qz_fit qs_hs; rw [decide_eq_true c3]; simp)
        · have hf : qz_fit M k i = true := by
            unfold qz_fit qs_hs
            rw [decide_eq_true hi, decide_eq_false c1, decide_eq_false c2, decide_eq_false c3]; rfl
          have hRu : ∀ v, qr_R (qr_b (g_up τ (c + 2) k v) 24) M := fun v => by rw [qr_bc (σ := τ) (fun a p q => qu_a _ _ (by omega))]; exact hRt
          rw [decide_eq_false c3, if_pos (by decide), qg_i k20 (by decide), qk_c (by omega), j5, qm_y (by omega) hf, ql, qc_clashesOn (hRu _) his hi, qs, qk_m8, qg_i (by omega) (by decide), qk_c (by omega), ql]
          refine ⟨_, rfl, fun a p1 p2 p3 => ?_, fun j p => ⟨?_, ?_⟩, fun j p => ?_, ?_, ?_, fun s hs hfs => ?_⟩
          · rw [qu_a _ _ p1, qu_a _ _ p2]; exact j1 a p1 p2 p3
          · rw [qu_a _ _ (by omega), qu_j _ _ p]; exact (j2 j p).1
          · rw [qu_a _ _ (by omega), qu_a _ _ (by omega)]; exact (j2 j p).2
          · rw [qu_j _ _ (by omega), qu_a _ _ (by omega)]; exact j3 j p
          · rw [qu_a _ _ (by omega), qu_a _ _ (by omega)]; exact j4
          · rw [qu_a _ _ (by omega), qu_at]
          · by_cases e : s = i
            · subst e; rw [qu_at]
            · rw [qu_j _ _ (by omega), qu_a _ _ (by omega)]; exact j6 s (by omega) hfs
  · obtain ⟨j1, j2, j3, j4, j5, j6⟩ := hJ
    have e5 : τ c 5 = nI (qs_n M) := by rw [j1 c (by omega) (by omega) (by omega)]; exact h5
    show ∃ b, X1_lookAtStay_k0 τ c 24 (nI k) (nI (qs_sn M k)) (nI (qs_n M)) = _ ∧ _
    unfold X1_lookAtStay_k0
    rw [e5, if_pos (qk_end (by omega))]
    refine ⟨τ, rfl, j1, j2, j3, j4, ?_, fun s hs hfs => ?_⟩
    · rw [j5]
      have := qm_hi (n := qs_n M) (p := qz_fit M k) (8 - qs_n M) (fun s a _ => qz_fit_hi a)
      rw [show qs_n M + (8 - qs_n M) = 8 by omega] at this
      rw [this]
    · rcases Nat.lt_or_ge s (qs_n M) with q | q
      · exact j6 s q hfs
      · rw [qz_fit_hi q] at hfs; cases hfs
  · refine ⟨fun a p1 p2 p3 => by rw [qu_a _ _ p2, qu_a _ _ p3], fun j p => ⟨by rw [qu_j _ _ p, qu_a _ _ (by omega)], by rw [qu_a _ _ (by omega), qu_j _ _ p]⟩, fun j p => by rw [qu_a _ _ (by omega), qu_a _ _ (by omega)], by rw [qu_a _ _ (by omega), qu_at], by rw [qu_at]; rfl, fun s hs => by omega⟩
theorem qx_look {σ : gS} {c : Nat} {M : Nat → Int32} (hc : g_cla c) (h : qr_R (qr_b σ 24) M) : ∃ σ', X1_lookAt σ c 24 = some σ' ∧ (∀ a, (a < c ∨ c + 5 ≤ a) → σ' a = σ a) ∧ qx_T σ' c M := by
  have hV := h.1
  have h8 := qv_n8 hV
  have c19 : c = 14 ∨ c = 19 := hc
  unfold X1_lookAt
  rw [qc_hinderedStays h, qs, ql, qu_a σ _ (show (24 : Nat) ≠ c by omega), qr_0 h, ql, ql]
  have hl := qf_inv (step := X1_lookAt_s c 24) (N := 20) (γ := gS)
    (J := fun i τ => (∀ a, (a < c ∨ c + 5 ≤ a) → τ a = σ a) ∧ τ c 4 = nI (qm 20 (qs_hi M)) ∧ τ c 5 = nI (qs_n M) ∧ τ c 6 = nI (qcnt i (qs_io M)) ∧ (∀ k, k < i → qs_io M k = true → τ (c + 4) (qcnt k (qs_io M)) = nI k ∧ τ (c + 3) k = nI (qm 20 (qs_cf M k)) ∧ τ (c + 2) k = nI (qm 8 (qz_fit M k)) ∧ ∀ s, s < 8 → qz_fit M k s = true → τ (c + 1) (k * 8 + s) = nI (qm 20 (qs_cl M k s))))
    (Q := fun τ => (∀ a, (a < c ∨ c + 5 ≤ a) → τ a = σ a) ∧ qx_T τ c M)
    (fun i τ => (nI i, τ)) (fun i τ hi hJ => ?_) (fun τ hJ => ?_) 0 (g_up (g_up (g_up σ c 4 (nI (qm 20 (qs_hi M)))) c 5 (nI (qs_n M))) c 6 0) (by omega) ?_
  · obtain ⟨τ, h1, h2, h3⟩ := hl
    exact ⟨τ, h1, h2, h3⟩
  · obtain ⟨j1, j2, j3, j4, j5⟩ := hJ
    refine Or.inl ?_
    have hRt : qr_R (qr_b τ 24) M := by rw [qr_bc (σ := σ) (fun a p q => j1 a (by omega))]; exact h
    have hci := qcnt_le i (qs_io M)
    show ∃ g', X1_lookAt_k0 τ c 24 (nI i) = _ ∧ _
    unfold X1_lookAt_k0
    rw [if_neg (qk_20 hi), qk_s, qc_isOnStand hRt hi, qs, qb_if]
    cases cio : qs_io M i with
    | false =>
      refine ⟨τ, by rw [if_neg (by decide)], j1, j2, j3, by rw [qcnt_n cio]; exact j4, fun k hk hio => ?_⟩
      by_cases e : k = i
      · rw [e, cio] at hio; cases hio
      · exact j5 k (by omega) hio
    | true =>
      rw [if_pos rfl, j4, qg_i (by omega) (by decide), qk_c (by omega), ql, qu_a τ _ (show c ≠ c + 4 by omega), j4, qk_s, ql]
      have hRu : qr_R (qr_b (g_up (g_up τ (c + 4) (qcnt i (qs_io M)) (nI i)) c 6 (nI (qcnt i (qs_io M) + 1))) 24) M := by rw [qr_bc (σ := τ) (fun a p q => by rw [qu_a _ _ (by omega), qu_a _ _ (by omega)])]; exact hRt
      have h5u : (g_up (g_up τ (c + 4) (qcnt i (qs_io M)) (nI i)) c 6 (nI (qcnt i (qs_io M) + 1))) c 5 = nI (qs_n M) := by rw [qu_j _ _ (by decide), qu_a _ _ (by omega)]; exact j3
      obtain ⟨τ', k1, k2, k3, k4, k5, k6, k7⟩ := qx_stay hc hRu h5u cio
      rw [k1, qs]
      refine ⟨τ', rfl, fun a p => ?_, ?_, ?_, ?_, fun k hk hio => ?_⟩
      · rw [k2 a (by omega) (by omega) (by omega), qu_a _ _ (by omega), qu_a _ _ (by omega)]; exact j1 a p
      · rw [k2 c (by omega) (by omega) (by omega), qu_j _ _ (by decide), qu_a _ _ (by omega)]; exact j2
      · rw [k2 c (by omega) (by omega) (by omega)]; exact h5u
      · rw [k2 c (by omega) (by omega) (by omega), qu_at, qcnt_y cio]
      · rw [k2 (c + 4) (by omega) (by omega) (by omega), qu_a _ _ (show c + 4 ≠ c by omega)]
        by_cases e : k = i
        · subst e
          rw [qu_at]
          exact ⟨rfl, k5, k6, k7⟩
        · obtain ⟨m1, m2, m3, m4⟩ := j5 k (by omega) hio
          have hlt : qcnt k (qs_io M) < qcnt i (qs_io M) := by
            have h1 := qcnt_y hio
            have h2 : qcnt (k + 1) (qs_io M) ≤ qcnt i (qs_io M) := by
              have : ∀ d, qcnt (k + 1) (qs_io M) ≤ qcnt (k + 1 + d) (qs_io M) := by
                intro d
                induction d with
                | zero => exact Nat.le_refl _
                | succ d ih =>
                  rw [← Nat.add_assoc]
                  show _ ≤ qcnt (k + 1 + d) (qs_io M) + _
                  omega
              have := this (i - (k + 1))
              rw [show k + 1 + (i - (k + 1)) = i by omega] at this
              exact this
            omega
          rw [qu_j _ _ (by omega), (k3 k (by omega)).1, (k3 k (by omega)).2, qu_a _ _ (show c + 3 ≠ c by omega), qu_a _ _ (show c + 3 ≠ c + 4 by omega), qu_a _ _ (show c + 2 ≠ c by omega), qu_a _ _ (show c + 2 ≠ c + 4 by omega)]
          refine ⟨m1, m2, m3, fun s hs hfs => ?_⟩
          rw [k4 _ (by omega), qu_a _ _ (show c + 1 ≠ c by omega), qu_a _ _ (show c + 1 ≠ c + 4 by omega)]
          exact m4 s hs hfs
  · obtain ⟨j1, j2, j3, j4, j5⟩ := hJ
    show ∃ b, X1_lookAt_k0 τ c 24 (nI 20) = _ ∧ _
    unfold X1_lookAt_k0
    rw [if_pos qk_e20]
    exact ⟨τ, rfl, j1, j2, j3, j4, j5⟩
  · refine ⟨fun a p => by rw [qu_a _ _ (by omega), qu_a _ _ (by omega), qu_a _ _ (by omega)], by rw [qu_j _ _ (by decide), qu_j _ _ (by decide), qu_at], by rw [qu_j _ _ (by decide), qu_at], by rw [qu_at]; rfl, fun k hk => by omega⟩
/-- the stays on stands, in their order: the place of the next one -/
def qz_mv (l : List Nat) (k : Nat) : Bool := decide (k ∈ l)
def qz_r (M : Nat → Int32) (l : List Nat) (k : Nat) : Prop := ∀ a, a < 20 → k ≤ a → qs_io M a = true → qz_mv l a = false → ∀ b, b < 20 → (qs_cf M a b && !(qz_mv l b)) = false
theorem qx_rest {σ : gS} {c : Nat} {M : Nat → Int32} (hV : qs_V M) (hT : qx_T σ c M) (l : List Nat) : X1_isRestSound σ c (nI (qm 20 (qz_mv l))) = some (qb (qz_og M l)) := by
  classical
  obtain ⟨t1, t2, t3, t4⟩ := hT
  unfold X1_isRestSound
  rw [t1, qm_andn (by decide)]
  have og : qz_og M l = true ↔ (∀ k, k < 20 → (qs_hi M k && !(qz_mv l k)) = false) ∧ (∀ a, a < 20 → qs_io M a = true → qz_mv l a = false → ∀ b, b < 20 → (qs_cf M a b && !(qz_mv l b)) = false) := by
    unfold qz_og
    rw [decide_eq_true_eq, qm_0]
    constructor
    · intro h
      constructor
      · intro k hk
        have := h k hk
        cases ch : qs_hi M k with
        | false => rfl
        | true =>
          have cio : qs_io M k = true := by
            unfold qs_hi at ch
            simp only [Bool.and_eq_true] at ch
            exact ch.1
          rw [cio, ch] at this
          show (true && !(decide (k ∈ l))) = false
          cases hm : decide (k ∈ l) with
          | true => rfl
          | false => rw [hm] at this; simp at this
      · intro a ha hio hm b hb
        have := h a ha
        have hm : decide (a ∈ l) = false := hm
        rw [hio, hm] at this
        simp only [Bool.true_and, Bool.not_false, Bool.or_eq_false_iff, Bool.not_eq_false', decide_eq_true_eq] at this
        exact qm_0.mp this.2 b hb
    · rintro ⟨h1, h2⟩ a ha
      cases hio : qs_io M a with
      | false => rfl
      | true =>
        cases hm : decide (a ∈ l) with
        | true => rfl
        | false =>
          have a1 := h1 a ha
          have hm2 : qz_mv l a = false := hm
          rw [hm2] at a1
          have a2 := qm_0.mpr (h2 a ha hio hm2)
          have a1 : qs_hi M a = false := by simpa using a1
          rw [a1]
          show (true && (false || !decide (qm 20 (fun b => qs_cf M a b && !qz_mv l b) = 0))) = false
          rw [decide_eq_true a2]; rfl
  by_cases c0 : nI (qm 20 (fun k => qs_hi M k && !(qz_mv l k))) = 0
  · rw [if_pos c0]
    have h1 := (qm_i0 (by decide)).mp c0
    have loop : ∀ n k, k + n = 20 → gr (X1_isRestSound_s σ c) (nI (qm 20 (qz_mv l)), nI (qcnt k (qs_io M))) = some (qb (decide (qz_r M l k))) := by
      intro n
      induction n with
      | zero =>
        intro k hk
        have e : k = 20 := by omega
        subst e
        rw [gr_eq]
        show (X1_isRestSound_k0 σ c (nI (qm 20 (qz_mv l))) (nI (qcnt 20 (qs_io M)))).bind _ = _
        unfold X1_isRestSound_k0
        rw [t3, if_pos (qk_end (by have := qcnt_le 20 (qs_io M); omega)), qs, decide_eq_true (show qz_r M l 20 from fun a ha hk => by omega)]
        rfl
      | succ n ih =>
        intro k hk
        have k20 : k < 20 := by omega
        have ih2 := ih (k + 1) (by omega)
        cases cio : qs_io M k with
        | false =>
          rw [qcnt_n cio] at ih2
          rw [ih2]
          congr 2
          apply decide_eq_decide.mpr
          constructor
          · intro h a ha hka hio
            by_cases e : a = k
            · rw [e, cio] at hio; cases hio
            · exact h a ha (by omega) hio
          · intro h a ha hka hio
            exact h a ha (by omega) hio
        | true =>
          rw [qcnt_y cio] at ih2
          obtain ⟨m1, m2, m3, m4⟩ := t4 k k20 cio
          have hlt : qcnt k (qs_io M) < qcnt 20 (qs_io M) := by
            have h2 := qcnt_y cio
            have : ∀ d, qcnt (k + 1) (qs_io M) ≤ qcnt (k + 1 + d) (qs_io M) := by
              intro d
              induction d with
              | zero => exact Nat.le_refl _
              | succ d ih =>
                rw [← Nat.add_assoc]
                show _ ≤ qcnt (k + 1 + d) (qs_io M) + _
                omega
            have := this (20 - (k + 1))
            rw [show k + 1 + (20 - (k + 1)) = 20 by omega] at this
            omega
          have hle := qcnt_le 20 (qs_io M)
          rw [gr_eq]
          show (X1_isRestSound_k0 σ c (nI (qm 20 (qz_mv l))) (nI (qcnt k (qs_io M)))).bind _ = _
          unfold X1_isRestSound_k0
          rw [t3, if_neg (qk_ge hlt (by omega)), qg_i (show qcnt k (qs_io M) < 20 by omega) (by decide), qk_c (by omega), m1, qk_s, qg_i k20 (by decide), qk_c (by omega), m2, qm_andn (by decide)]
          cases cm : qz_mv l k with
          | true =>
            rw [if_neg (fun q => by have := (qm_b0 (by decide) k20).mp q; rw [cm] at this; cases this), qs]
            refine ih2.trans ?_
            congr 2
            apply decide_eq_decide.mpr
            constructor
            · intro h a ha hka hio hmv
              by_cases e : a = k
              · rw [e, cm] at hmv; cases hmv
              · exact h a ha (by omega) hio hmv
            · intro h a ha hka hio
              exact h a ha (by omega) hio
          | false =>
            rw [if_pos ((qm_b0 (by decide) k20).mpr cm)]
            by_cases c2 : nI (qm 20 (fun b => qs_cf M k b && !(qz_mv l b))) = 0
            · rw [if_pos c2, qs]
              have h3 := (qm_i0 (by decide)).mp c2
              refine ih2.trans ?_
              congr 2
              apply decide_eq_decide.mpr
              constructor
              · intro h a ha hka hio hmv
                by_cases e : a = k
                · subst e; exact h3
                · exact h a ha (by omega) hio hmv
              · intro h a ha hka hio
                exact h a ha (by omega) hio
            · rw [if_neg c2, qs, decide_eq_false (show ¬ qz_r M l k from fun h => c2 ((qm_i0 (by decide)).mpr (h k k20 (Nat.le_refl k) cio cm)))]
              rfl
    have := loop 20 0 (by omega)
    refine (show gr (X1_isRestSound_s σ c) (nI (qm 20 (qz_mv l)), 0) = _ from this).trans ?_
    congr 2
    rw [Bool.eq_iff_iff, decide_eq_true_eq, og]
    exact ⟨fun h => ⟨h1, fun a ha hio hm => h a ha (Nat.zero_le _) hio hm⟩, fun h a ha _ hio hm => h.2 a ha hio hm⟩
  · rw [if_neg c0]
    have : qz_og M l = false := by
      rw [Bool.eq_false_iff]
      intro q
      exact c0 ((qm_i0 (by decide)).mpr (og.mp q).1)
    rw [this]; rfl
theorem qx_free {σ : gS} {c : Nat} {M : Nat → Int32} (hV : qs_V M) (hT : qx_T σ c M) (l : List Nat) {k : Nat} (k20 : k < 20) (hk : qs_io M k = true) : X1_freeFor σ c (nI k) (nI (qm 20 (qz_mv l))) = some (nI (qm 8 (qz_fr M l k))) := by
  have h8 := qv_n8 hV
  obtain ⟨t1, t2, t3, t4⟩ := hT
  obtain ⟨m1, m2, m3, m4⟩ := t4 k k20 hk
  have e8 : qm 8 (qz_fr M l k) = qm (qs_n M) (qz_fr M l k) := by
    have := qm_hi (n := qs_n M) (p := qz_fr M l k) (8 - qs_n M) (fun s a _ => by unfold qz_fr; rw [decide_eq_false (show ¬ s < qs_n M by omega)]; rfl)
    rw [show qs_n M + (8 - qs_n M) = 8 by omega] at this
    exact this
  rw [e8]
  refine qf_for (N := qs_n M) (fun i => (nI k, nI (qm 20 (qz_mv l)), nI (qm i (qz_fr M l k)), nI i)) (fun i hi => ?_) ?_ 0 (by omega)
  · show X1_freeFor_k0 σ c (nI k) (nI (qm 20 (qz_mv l))) (nI (qm i (qz_fr M l k))) (nI i) = _
    unfold X1_freeFor_k0
    rw [t2, if_neg (qk_ge hi (by omega)), qg_i k20 (by decide), qk_c (by omega), m3, qk_s, qk_m8, qg_i (show k * 8 + i < 160 by omega) (by decide), qk_c (by omega)]
    have ef : qz_fr M l k i = (qz_fit M k i && decide (qm 20 (fun o => qs_cl M k i o && !decide (o ∈ l)) = 0)) := rfl
    cases cf : qz_fit M k i with
    | false =>
      rw [if_pos ((qm_b0 (by decide) (by omega)).mpr cf), qm_no (n := i) (p := qz_fr M l k) (by rw [ef, cf]; rfl)]
    | true =>
      rw [if_neg (fun q => by have := (qm_b0 (by decide) (show i < 8 by omega)).mp q; rw [cf] at this; cases this), m4 i (by omega) cf, qm_andn (by decide)]
      by_cases c2 : qm 20 (fun o => qs_cl M k i o && !(qz_mv l o)) = 0
      · rw [if_pos (by rw [c2]; rfl), qm_y (p := qz_fr M l k) (by omega) (by rw [ef, cf]; exact decide_eq_true c2)]
      · rw [if_neg (nI_ne0 (by omega) (qm_small _ (by decide))), qm_no (p := qz_fr M l k) (by rw [ef, cf]; exact decide_eq_false c2)]
  · show X1_freeFor_k0 σ c (nI k) (nI (qm 20 (qz_mv l))) (nI (qm (qs_n M) (qz_fr M l k))) (nI (qs_n M)) = _
    unfold X1_freeFor_k0
    rw [t2, if_pos (qk_end (by omega))]
