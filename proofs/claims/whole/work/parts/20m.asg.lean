/-! ===== assigning all ===== -/
def qs_ah (M : Nat → Int32) (i j : Nat) : Bool := if qs_fr M i = qs_fr M j then (if qs_wt M i = qs_wt M j then decide (i < j) else decide (qs_wt M j < qs_wt M i)) else decide (qs_fr M i < qs_fr M j)
def qs_nx (M : Nat → Int32) (p : Nat → Bool) : Nat → Option Nat
  | 0 => none
  | i + 1 => if p i = true then (match qs_nx M p i with | none => some i | some j => if qs_ah M i j = true then some i else some j) else qs_nx M p i
theorem qs_nx_k {M : Nat → Int32} {p : Nat → Bool} : ∀ {i j : Nat}, qs_nx M p i = some j → j < i ∧ p j = true
  | 0, j, h => by cases h
  | i + 1, j, h => by
    unfold qs_nx at h
    by_cases c : p i = true
    · rw [if_pos c] at h
      cases e : qs_nx M p i with
      | none =>
        rw [e] at h
        cases h
        exact ⟨by omega, c⟩
      | some j' =>
        rw [e] at h
        have h : (if qs_ah M i j' = true then some i else some j') = some j := h
        have := qs_nx_k e
        by_cases c2 : qs_ah M i j' = true
        · rw [if_pos c2] at h
          cases h
          exact ⟨by omega, c⟩
        · rw [if_neg c2] at h
          cases h
          exact ⟨by omega, this.2⟩
    · rw [if_neg c] at h
      have := qs_nx_k h
      exact ⟨by omega, this.2⟩
theorem qs_nx_n {M : Nat → Int32} {p : Nat → Bool} : ∀ {i : Nat}, qs_nx M p i = none → ∀ k, k < i → p k = false
  | 0, h => fun k hk => by omega
  | i + 1, h => by
    unfold qs_nx at h
    by_cases c : p i = true
    · rw [if_pos c] at h
      exfalso
      cases e : qs_nx M p i with
      | none => rw [e] at h; cases h
      | some j' =>
        rw [e] at h
        have h : (if qs_ah M i j' = true then some i else some j') = none := h
        by_cases c2 : qs_ah M i j' = true
        · rw [if_pos c2] at h; cases h
        · rw [if_neg c2] at h; cases h
    · rw [if_neg c] at h
      intro k hk
      by_cases e : k = i
      · subst e
        cases hq : p k <;> simp_all
      · exact qs_nx_n h k (by omega)
theorem qs_nx_0 {M : Nat → Int32} {p : Nat → Bool} : ∀ {i : Nat}, (∀ k, k < i → p k = false) → qs_nx M p i = none
  | 0, h => rfl
  | i + 1, h => by
    unfold qs_nx
    rw [if_neg (by rw [h i (by omega)]; decide)]
    exact qs_nx_0 (fun k hk => h k (by omega))
theorem qc_comesBefore {σ : gS} {b : Nat} {M : Nat → Int32} (h : qr_R (qr_b σ b) M) {i j : Nat} (hi : qs_is M i = true) (hj : qs_is M j = true) : X0_comesBefore σ b (nI i) (nI j) = some (qb (qs_ah M i j)) := by
  have h10 := qv_t10 h.1
  have i20 := qv_k h.1 hi
  have j20 := qv_k h.1 hj
  have hi2 := qv_is hi
  have hj2 := qv_is hj
  have ew1 : σ (b + 7) (i / 2) = qs_wt M i := qr_wt h hi2
  have ew2 : σ (b + 7) (j / 2) = qs_wt M j := qr_wt h hj2
  unfold X0_comesBefore qs_ah
  rw [qg_i i20 (by decide), qg_i j20 (by decide), qk_c (by omega), qk_c (by omega), qr_fr h hi, qr_fr h hj, qk_h i20, qk_h j20, qg_i (by omega) (by decide), qg_i (by omega) (by decide), qk_c (by omega), qk_c (by omega), ew1, ew2]
  by_cases c1 : qs_fr M i = qs_fr M j
  · rw [if_pos c1, if_pos c1]
    by_cases c2 : qs_wt M i = qs_wt M j
    · rw [if_pos c2, if_pos c2]
      by_cases c3 : i < j
      · rw [if_neg (nI_ge c3 (by omega)), decide_eq_true c3]; rfl
      · rw [if_pos (nI_le (by omega) (by omega)), decide_eq_false c3]; rfl
    · rw [if_neg c2, if_neg c2]
      by_cases c3 : qs_wt M j < qs_wt M i
      · rw [if_neg (fun q => (qf_nle _ _).mp q c3), decide_eq_true c3]; rfl
      · rw [if_pos ((qf_nle _ _).mpr c3), decide_eq_false c3]; rfl
  · rw [if_neg c1, if_neg c1]
    by_cases c3 : qs_fr M i < qs_fr M j
    · rw [if_neg (fun q => (qf_nle _ _).mp q c3), decide_eq_true c3]; rfl
    · rw [if_pos ((qf_nle _ _).mpr c3), decide_eq_false c3]; rfl
theorem qd_isAhead {σ : gS} {i j : Nat} (hi : i < 20) (hj : j < 20) : X7_isAhead σ (nI i) (nI j) = some (qb (qs_ah (σ 133) i j)) := by
  unfold X7_isAhead qs_ah
  rw [qd_from hi, qs, qd_from hj, qs, qd_weight hi, qs, qd_weight hj, qs, qs, qs, qs, qs]
  by_cases c1 : qs_fr (σ 133) i = qs_fr (σ 133) j
  · rw [if_pos c1, if_pos c1]
    by_cases c2 : qs_wt (σ 133) i = qs_wt (σ 133) j
    · rw [if_pos c2, if_pos c2]
      by_cases c3 : i < j
      · rw [if_neg (nI_ge c3 (by omega)), decide_eq_true c3]; rfl
      · rw [if_pos (nI_le (by omega) (by omega)), decide_eq_false c3]; rfl
    · rw [if_neg c2, if_neg c2]
      by_cases c3 : qs_wt (σ 133) j < qs_wt (σ 133) i
      · rw [if_neg (fun q => (qf_nle _ _).mp q c3), decide_eq_true c3]; rfl
      · rw [if_pos ((qf_nle _ _).mpr c3), decide_eq_false c3]; rfl
  · rw [if_neg c1, if_neg c1]
    by_cases c3 : qs_fr (σ 133) i < qs_fr (σ 133) j
    · rw [if_neg (fun q => (qf_nle _ _).mp q c3), decide_eq_true c3]; rfl
    · rw [if_pos ((qf_nle _ _).mpr c3), decide_eq_false c3]; rfl
theorem qc_firstOf {σ : gS} {b : Nat} {M : Nat → Int32} (h : qr_R (qr_b σ b) M) {p : Nat → Bool} (hp : ∀ k, k < 20 → p k = true → qs_is M k = true) : X0_firstOf σ b (nI (qm 20 p)) = some (qo (qs_nx M p 20)) := by
  refine qf_for (N := 20) (fun i => (nI (qm 20 p), qo (qs_nx M p i), nI i)) (fun i hi => ?_) ?_ 0 (by omega)
  · show X0_firstOf_k0 σ b (nI (qm 20 p)) (qo (qs_nx M p i)) (nI i) = some (.inl (nI (qm 20 p), qo (if p i = true then (match qs_nx M p i with | none => some i | some j => if qs_ah M i j = true then some i else some j) else qs_nx M p i), nI (i + 1)))
    unfold X0_firstOf_k0
    rw [if_neg (qk_20 hi), qk_s]
    cases c : p i with
    | false => rw [if_pos ((qm_b0 (by decide) hi).mpr c), if_neg (by decide)]
    | true =>
      rw [if_neg (fun q => by have := (qm_b0 (by decide) hi).mp q; rw [c] at this; cases this), if_pos rfl]
      cases e : qs_nx M p i with
      | none =>
        show (if (-1 : Int32) < 0 then _ else _) = _
        rw [if_pos (by decide)]; rfl
      | some j =>
        have hj := qs_nx_k e
        show (if nI j < (0 : Int32) then _ else _) = _
        rw [if_neg (nI_pos (by omega))]
        show (X0_comesBefore σ b (nI i) (nI j)).bind _ = _
        rw [qc_comesBefore h (hp i hi c) (hp j (by omega) hj.2), qs, qb_if]
        show _ = some (Sum.inl (nI (qm 20 p), qo (if qs_ah M i j = true then some i else some j), nI (i + 1)))
        cases qs_ah M i j <;> rfl
  · show X0_firstOf_k0 σ b (nI (qm 20 p)) (qo (qs_nx M p 20)) (nI 20) = _
    unfold X0_firstOf_k0
    rw [if_pos qk_e20]
def qs_mn (p : Nat → Bool) (k : Nat) : Nat → Bool := fun i => p i && !(decide (i = k))
def qs_as : Nat → (Nat → Bool) → (Nat → Int32) → Nat → Nat × (Nat → Int32)
  | 0, _, M, c => (c, M)
  | f + 1, p, M, c => match qs_nx M p 20 with
    | none => (c, M)
    | some k => match qs_ch M k with
      | none => qs_as f (qs_mn p k) M c
      | some s => qs_as f (qs_mn p k) (qs_pt M k (nI s)) (c + 1)
theorem qs_as_1 {f : Nat} {p : Nat → Bool} {M : Nat → Int32} {c : Nat} (h : qs_nx M p 20 = none) : qs_as (f + 1) p M c = (c, M) := by
  simp only [qs_as, h]
theorem qs_as_2 {f : Nat} {p : Nat → Bool} {M : Nat → Int32} {c k : Nat} (h : qs_nx M p 20 = some k) (h2 : qs_ch M k = none) : qs_as (f + 1) p M c = qs_as f (qs_mn p k) M c := by
  simp only [qs_as, h, h2]
theorem qs_as_3 {f : Nat} {p : Nat → Bool} {M : Nat → Int32} {c k s : Nat} (h : qs_nx M p 20 = some k) (h2 : qs_ch M k = some s) : qs_as (f + 1) p M c = qs_as f (qs_mn p k) (qs_pt M k (nI s)) (c + 1) := by
  simp only [qs_as, h, h2]
theorem qs_as_cut : ∀ (f : Nat) (p : Nat → Bool) (M : Nat → Int32) (c : Nat), qcut M = M → qcut (qs_as f p M c).2 = (qs_as f p M c).2
  | 0, p, M, c, h => h
  | f + 1, p, M, c, h => by
    cases e : qs_nx M p 20 with
    | none => rw [qs_as_1 e]; exact h
    | some k =>
      have hk := (qs_nx_k e).1
      cases e2 : qs_ch M k with
      | none => rw [qs_as_2 e e2]; exact qs_as_cut f _ _ _ h
      | some s =>
        rw [qs_as_3 e e2]
        exact qs_as_cut f _ _ _ (by rw [qpt_qu1]; exact qu1_cut h (by omega) _)
theorem qs_ch_n {M : Nat → Int32} {k s : Nat} (h : qs_ch M k = some s) : s < qs_n M := (qs_chi_k h).1
theorem qs_as_V : ∀ (f : Nat) (p : Nat → Bool) (M : Nat → Int32) (c : Nat), qs_V M → (∀ k, k < 20 → p k = true → qs_is M k = true) → qs_V (qs_as f p M c).2
  | 0, p, M, c, h, hp => h
  | f + 1, p, M, c, h, hp => by
    cases e : qs_nx M p 20 with
    | none => rw [qs_as_1 e]; exact h
    | some k =>
      have hk := qs_nx_k e
      have hp2 : ∀ i, i < 20 → qs_mn p k i = true → qs_is M i = true := fun i hi q => by
        unfold qs_mn at q
        simp only [Bool.and_eq_true] at q
        exact hp i hi q.1
      cases e2 : qs_ch M k with
      | none => rw [qs_as_2 e e2]; exact qs_as_V f _ _ _ h hp2
      | some s =>
        have hs := qs_ch_n e2
        have h8 := qv_n8 h
        rw [qs_as_3 e e2]
        exact qs_as_V f _ _ _ (qpt_V h (hp k hk.1 hk.2) (by rw [nI_toInt (by omega)]; omega) (by rw [nI_toInt (by omega)]; omega)) (fun i hi q => by rw [qpt_is]; exact hp2 i hi q)
theorem qs_as_le : ∀ (f : Nat) (p : Nat → Bool) (M : Nat → Int32) (c : Nat), (qs_as f p M c).1 ≤ c + f
  | 0, p, M, c => Nat.le_refl _
  | f + 1, p, M, c => by
    cases e : qs_nx M p 20 with
    | none => rw [qs_as_1 e]; show c ≤ _; omega
    | some k =>
      cases e2 : qs_ch M k with
      | none => rw [qs_as_2 e e2]; have := qs_as_le f (qs_mn p k) M c; omega
      | some s => rw [qs_as_3 e e2]; have := qs_as_le f (qs_mn p k) (qs_pt M k (nI s)) (c + 1); omega
theorem qc_place {b : Nat} : ∀ (f i : Nat), i + f = 20 → ∀ (p : Nat → Bool) (M : Nat → Int32) (σ : gS) (c : Nat), qr_R (qr_b σ b) M → (∀ k, k < 20 → p k = true → qs_is M k = true) → ∃ σ', gr (X0_placeEverything_s b) (nI (qm 20 p), nI c, nI i, σ) = some (nI (qs_as f p M c).1, σ') ∧ qr_R (qr_b σ' b) (qs_as f p M c).2 ∧ ∀ a, a ≠ b + 11 → σ' a = σ a := by
  intro f
  induction f with
  | zero =>
    intro i hi p M σ c h hp
    have e : i = 20 := by omega
    subst e
    refine ⟨σ, ?_, h, fun a _ => rfl⟩
    rw [gr_eq]
    show (X0_placeEverything_k0 σ b (nI (qm 20 p)) (nI c) (nI 20)).bind _ = _
    unfold X0_placeEverything_k0
    rw [if_pos qk_e20, qs]
    rfl
  | succ f ih =>
    intro i hi p M σ c h hp
    have h8 := qv_n8 h.1
    rw [gr_eq]
    show ∃ σ', (X0_placeEverything_k0 σ b (nI (qm 20 p)) (nI c) (nI i)).bind _ = _ ∧ _
    unfold X0_placeEverything_k0
    rw [if_neg (qk_20 (by omega)), qc_firstOf h hp, qs, qk_s, qk_s]
    cases e : qs_nx M p 20 with
    | none =>
      rw [qs_as_1 e]
      refine ⟨σ, ?_, h, fun a _ => rfl⟩
      show Option.bind (if (0 : Int32) ≤ -1 then _ else _) _ = _
      rw [if_neg (by decide), qs]
    | some k =>
      have hk := qs_nx_k e
      have hki := hp k hk.1 hk.2
      have hp2 : ∀ i, i < 20 → qs_mn p k i = true → qs_is M i = true := fun i hi q => by
        unfold qs_mn at q
        simp only [Bool.and_eq_true] at q
        exact hp i hi q.1
      show ∃ σ', Option.bind (if (0 : Int32) ≤ nI k then Option.bind (X0_cheapestFor σ b (nI k)) _ else _) _ = _ ∧ _
      rw [if_pos (nI_pos' (by omega)), qc_cheapestFor h hki, qs]
      show ∃ σ', Option.bind (if qo (qs_ch M k) < 0 then (some (Sum.inl (nI (qm 20 p) &&& (((1 : Int32) <<< (nI k &&& 31)) ^^^ (-1 : Int32)), nI c, nI (i + 1), σ)) : Option ((Int32 × Int32 × Int32 × gS) ⊕ (Int32 × gS))) else gd (ib (nI k) 20) (lt_ (g_up σ (b + 11) (nI k).toNatClampNeg (qo (qs_ch M k))) fun σ13 => some (Sum.inl (nI (qm 20 p) &&& (((1 : Int32) <<< (nI k &&& 31)) ^^^ (-1 : Int32)), nI (c + 1), nI (i + 1), σ13)))) _ = _ ∧ _
      rw [qm_del (by decide) hk.1]
      cases e2 : qs_ch M k with
      | none =>
        rw [qs_as_2 e e2]
        show ∃ σ', Option.bind (if (-1 : Int32) < 0 then _ else _) _ = _ ∧ _
        rw [if_pos (by decide), qs]
        exact ih (i + 1) (by omega) (qs_mn p k) M σ c h hp2
      | some s =>
        have hs := qs_ch_n e2
        rw [qs_as_3 e e2]
        show ∃ σ', Option.bind (if nI s < (0 : Int32) then _ else _) _ = _ ∧ _
        rw [if_neg (nI_pos (by omega)), qg_i hk.1 (by decide), qk_c (by omega), ql, qs]
        have hR2 := qr_put h hki (v := nI s) (by rw [nI_toInt (by omega)]; omega) (by rw [nI_toInt (by omega)]; omega)
        obtain ⟨σ', q1, q2, q3⟩ := ih (i + 1) (by omega) (qs_mn p k) (qs_pt M k (nI s)) (g_up σ (b + 11) k (nI s)) (c + 1) hR2 (fun i hi q => by rw [qpt_is]; exact hp2 i hi q)
        exact ⟨σ', q1, q2, fun a ha => by rw [q3 a ha, qu_a _ _ ha]⟩
def qs_lf (M : Nat → Int32) (k : Nat) : Bool := qs_is M k && !(qs_io M k)
theorem qc_placeEverything {σ : gS} {b : Nat} {M : Nat → Int32} (h : qr_R (qr_b σ b) M) : ∃ σ', X0_placeEverything σ b = some (nI (qs_as 20 (qs_lf M) M 0).1, σ') ∧ qr_R (qr_b σ' b) (qs_as 20 (qs_lf M) M 0).2 ∧ ∀ a, a ≠ b + 11 → σ' a = σ a := by
  unfold X0_placeEverything
  rw [qc_allStays h, qs, qc_staysOnStands h, qs, qm_andn (by decide)]
  exact qc_place 20 0 (by omega) (qs_lf M) M σ 0 h (fun k _ hk => by
    unfold qs_lf at hk
    simp only [Bool.and_eq_true] at hk
    exact hk.1)
theorem qcnt_del {p : Nat → Bool} {k : Nat} : ∀ {n : Nat}, k < n → p k = true → qcnt n (qs_mn p k) + 1 = qcnt n p
  | 0, h, hk => by omega
  | n + 1, h, hk => by
    by_cases e : k = n
    · subst e
      have e1 : qs_mn p k k = false := by unfold qs_mn; simp
      rw [qcnt_n e1, qcnt_y hk, qcnt_congr (q := p) (fun i hi => by unfold qs_mn; rw [decide_eq_false (by omega)]; simp)]
    · have e1 : qs_mn p k n = p n := by unfold qs_mn; rw [decide_eq_false (by omega)]; simp
      have := qcnt_del (n := n) (by omega) hk
      cases c : p n with
      | true => rw [qcnt_y (by rw [e1]; exact c), qcnt_y c]; omega
      | false => rw [qcnt_n (by rw [e1]; exact c), qcnt_n c]; exact this
theorem qcnt_0 {p : Nat → Bool} : ∀ {n : Nat}, qcnt n p = 0 → ∀ k, k < n → p k = false
  | 0, h => fun k hk => by omega
  | n + 1, h => fun k hk => by
    cases c : p n with
    | true => rw [qcnt_y c] at h; omega
    | false =>
      rw [qcnt_n c] at h
      by_cases e : k = n
      · rw [e]; exact c
      · exact qcnt_0 h k (by omega)
theorem qd_assign1 : ∀ (f : Nat) (p : Nat → Bool) (σ : gS) (c : Nat), qs_V (σ 133) → (∀ k, k < 20 → p k = true → qs_is (σ 133) k = true) → qcnt 20 p ≤ f → gr X7_assign_s (1, nI (qm 20 p), nI c, 0, 0, σ) = some (nI (qs_as f p (σ 133) c).1, g_row σ 133 (qs_as f p (σ 133) c).2) := by
  intro f
  induction f with
  | zero =>
    intro p σ c hV hp hc
    have h0 := qcnt_0 (show qcnt 20 p = 0 by omega)
    rw [gr_eq]
    show (X7_assign_k1 σ (nI (qm 20 p)) (nI c)).bind _ = _
    unfold X7_assign_k1
    rw [if_pos ((qm_i0 (by decide)).mpr h0), qs]
    show some (nI c, σ) = some (nI c, g_row σ 133 (σ 133))
    rw [qrow_self]
  | succ f ih =>
    intro p σ c hV hp hc
    have h8 := qv_n8 hV
    rw [gr_eq]
    show (X7_assign_k1 σ (nI (qm 20 p)) (nI c)).bind _ = _
    unfold X7_assign_k1
    by_cases c0 : nI (qm 20 p) = 0
    · rw [if_pos c0, qs, qs_as_1 (qs_nx_0 ((qm_i0 (by decide)).mp c0))]
      show some (nI c, σ) = some (nI c, g_row σ 133 (σ 133))
      rw [qrow_self]
    · rw [if_neg c0, qs]
      cases e : qs_nx (σ 133) p 20 with
      | none => exact absurd ((qm_i0 (by decide)).mpr (qs_nx_n e)) c0
      | some k =>
        have hk := qs_nx_k e
        have hki := hp k hk.1 hk.2
        have hp2 : ∀ i, i < 20 → qs_mn p k i = true → qs_is (σ 133) i = true := fun i hi q => by
          unfold qs_mn at q
          simp only [Bool.and_eq_true] at q
          exact hp i hi q.1
        have hdel := qcnt_del (n := 20) hk.1 hk.2
        have inner : ∀ n i, i + n = 20 → gr X7_assign_s (2, nI (qm 20 p), nI c, qo (qs_nx (σ 133) p i), nI i, σ) = gr X7_assign_s (2, nI (qm 20 p), nI c, qo (qs_nx (σ 133) p 20), nI 20, σ) := by
          intro n
          induction n with
          | zero =>
            intro i hi
            rw [show i = 20 by omega]
          | succ n ih2 =>
            intro i hi
            rw [← ih2 (i + 1) (by omega), gr_eq]
            show (X7_assign_k2 σ (nI (qm 20 p)) (nI c) (qo (qs_nx (σ 133) p i)) (nI i)).bind _ = gr X7_assign_s (2, nI (qm 20 p), nI c, qo (if p i = true then (match qs_nx (σ 133) p i with | none => some i | some j => if qs_ah (σ 133) i j = true then some i else some j) else qs_nx (σ 133) p i), nI (i + 1), σ)
            unfold X7_assign_k2
            rw [if_neg (qk_20 (by omega)), qk_s]
            cases c1 : p i with
            | false => rw [if_neg (fun q => by have := (qm_b1 (by decide) (by omega)).mp q; rw [c1] at this; cases this), qs, if_neg (by decide)]
            | true =>
              rw [if_pos ((qm_b1 (by decide) (by omega)).mpr c1), if_pos rfl]
              cases e3 : qs_nx (σ 133) p i with
              | none =>
                show Option.bind (if (-1 : Int32) < 0 then _ else _) _ = _
                rw [if_pos (by decide), qs]; rfl
              | some j =>
                have hj := qs_nx_k e3
                show Option.bind (if nI j < (0 : Int32) then _ else Option.bind (X7_isAhead σ (nI i) (nI j)) _) _ = _
                rw [if_neg (nI_pos (by omega)), qd_isAhead (by omega) (by omega), qs, qb_if]
                show _ = gr X7_assign_s (2, nI (qm 20 p), nI c, qo (if qs_ah (σ 133) i j = true then some i else some j), nI (i + 1), σ)
                cases qs_ah (σ 133) i j with
                | false => rw [if_neg (by decide), qs, if_neg (by decide)]
                | true => rw [if_pos rfl, qs, if_pos rfl]; rfl
        have := inner 20 0 (by omega)
        show gr X7_assign_s (2, nI (qm 20 p), nI c, qo (qs_nx (σ 133) p 0), nI 0, σ) = _
        rw [this, e, gr_eq]
        show (X7_assign_k2 σ (nI (qm 20 p)) (nI c) (nI k) (nI 20)).bind _ = _
        unfold X7_assign_k2
        rw [if_pos qk_e20, qd_cheapestOf hV hki, qs, qm_del (by decide) hk.1, qk_s]
        cases e2 : qs_ch (σ 133) k with
        | none =>
          rw [qs_as_2 e e2]
          show Option.bind (if (-1 : Int32) < 0 then _ else _) _ = _
          rw [if_pos (by decide), qs]
          exact ih (qs_mn p k) σ c hV hp2 (by omega)
        | some s =>
          have hs := qs_ch_n e2
          rw [qs_as_3 e e2]
          show Option.bind (if nI s < (0 : Int32) then _ else Option.bind (X7_put σ (nI k) (nI s)) _) _ = _
          rw [if_neg (nI_pos (by omega)), qd_put hk.1, qs, qs]
          have hV2 : qs_V (qp σ k (nI s) 133) := by
            rw [qp_133]
            exact qpt_V hV hki (by rw [nI_toInt (by omega)]; omega) (by rw [nI_toInt (by omega)]; omega)
          have := ih (qs_mn p k) (qp σ k (nI s)) (c + 1) hV2 (fun i hi q => by rw [qp_133, qpt_is]; exact hp2 i hi q) (by omega)
          refine this.trans ?_
          rw [qp_133]
          congr 2
          unfold qp
          rw [qrow_up, qrow_row]
theorem qd_assign {σ : gS} (h : qs_V (σ 133)) : X7_assign σ = some (nI (qs_as 20 (qs_lf (σ 133)) (σ 133) 0).1, g_row σ 133 (qs_as 20 (qs_lf (σ 133)) (σ 133) 0).2) := by
  have inner : ∀ n i, i + n = 20 → gr X7_assign_s (0, nI (qm i (qs_lf (σ 133))), nI i, 0, 0, σ) = gr X7_assign_s (1, nI (qm 20 (qs_lf (σ 133))), 0, 0, 0, σ) := by
    intro n
    induction n with
    | zero =>
      intro i hi
      rw [show i = 20 by omega, gr_eq]
      show (X7_assign_k0 σ (nI (qm 20 (qs_lf (σ 133)))) (nI 20)).bind _ = _
      unfold X7_assign_k0
      rw [if_pos qk_e20, qs]
    | succ n ih =>
      intro i hi
      have hi2 : i < 20 := by omega
      rw [← ih (i + 1) (by omega), gr_eq]
      show (X7_assign_k0 σ (nI (qm i (qs_lf (σ 133)))) (nI i)).bind _ = _
      unfold X7_assign_k0
      rw [if_neg (qk_20 hi2), qk_s, qd_isStay h hi2, qs, qb_if, qd_isOn h hi2, qs, qb_if]
      cases c1 : qs_is (σ 133) i with
      | false => rw [if_neg (by decide), qs, qm_z i (qs_lf (σ 133)) (by unfold qs_lf; rw [c1]; rfl)]
      | true =>
        rw [if_pos rfl]
        cases c2 : qs_io (σ 133) i with
        | false => rw [if_neg (by decide), qs, qm_y (p := qs_lf (σ 133)) (by omega) (by unfold qs_lf; rw [c1, c2]; rfl)]
        | true => rw [if_pos rfl, qs, qm_z i (qs_lf (σ 133)) (by unfold qs_lf; rw [c1, c2]; rfl)]
  have h1 := inner 20 0 (by omega)
  have h2 := qd_assign1 20 (qs_lf (σ 133)) σ 0 h (fun k _ hk => by
    unfold qs_lf at hk
    simp only [Bool.and_eq_true] at hk
    exact hk.1) (qcnt_le 20 _)
  exact h1.trans h2
theorem qo_assignAll : o_assignAll qi := by
  intro σ hI
  have hV := qi_V hI
  obtain ⟨σ1, r1, r2, r3, -⟩ := q_rem hI
  have hR1 : qr_R (qr_b σ1 24) (σ 133) := by rw [q_rb r2]; exact qi_R hI
  obtain ⟨σ', m1, m2, m3⟩ := qc_placeEverything hR1
  obtain ⟨σ2, s1, s2, s3, s4, s5⟩ := r3 σ' (fun a p => m3 a (by omega))
  refine ⟨nI (qs_as 20 (qs_lf (σ 133)) (σ 133) 0).1, σ', g_row σ2 133 (qs_as 20 (qs_lf (σ 133)) (σ 133) 0).2, ?_, ?_, s5 _ (qs_as_cut _ _ _ _ hI.1.2) m2⟩
  · unfold X6_assignAll
    rw [r1, qs, m1, qs]
  · unfold X7_assignAll
    rw [qth_e, s1, qs, qd_assign (by rw [s3]; exact hV), qs, s3]
/-! what a tow would gain -/
def qs_cA (M : Nat → Int32) : Int32 := qsum (qs_t (qs_as 20 (qs_lf M) M 0).2) (qs_ct (qs_as 20 (qs_lf M) M 0).2)
theorem qs_lf_is {M : Nat → Int32} : ∀ k, k < 20 → qs_lf M k = true → qs_is M k = true := fun k _ hk => by
  unfold qs_lf at hk
  simp only [Bool.and_eq_true] at hk
  exact hk.1
theorem qd_costAssigned {σ : gS} (h : qs_V (σ 133)) (hc : qcut (σ 133) = σ 133) : ∃ σ1, X7_costAssigned σ = some (qs_cA (σ 133), σ1) ∧ ∀ a, a ≠ 134 → σ1 a = σ a := by
  have e0 : (g_row σ 134 (va_cpy (σ 133) (σ 134) (0 : Int32).toNatClampNeg (0 : Int32).toNatClampNeg (162 : Int32).toNatClampNeg)) 133 = σ 133 := qw_a _ _ (by decide)
  have hV0 : qs_V ((g_row σ 134 (va_cpy (σ 133) (σ 134) (0 : Int32).toNatClampNeg (0 : Int32).toNatClampNeg (162 : Int32).toNatClampNeg)) 133) := by rw [e0]; exact h
  have hV2 := qs_as_V 20 (qs_lf (σ 133)) (σ 133) 0 h qs_lf_is
  unfold X7_costAssigned
  rw [ql, qd_assign hV0, qs, e0]
  dsimp only
  rw [qd_cost (by rw [qw_at]; exact hV2), qs, qw_at, ql, qw_a _ _ (show (134 : Nat) ≠ 133 by decide), qw_at, if_pos (nI_pos' (by
    have := qs_as_le 20 (qs_lf (σ 133)) (σ 133) 0
    omega))]
  refine ⟨_, rfl, fun a ha => ?_⟩
  rw [qrow_row]
  by_cases c : a = 133
  · subst c
    rw [qw_at, qcpy_z (qs_as_cut _ _ _ _ hc), qcpy_cut, hc]
  · rw [qw_a _ _ c, qw_a _ _ ha]
theorem qo_towGain : o_towGain qi := by
  intro σ hI f x1 x2
  have hV := qi_V hI
  have hR := qi_R hI
  have h10 := qv_t10 hV
  have bad : ∀ w, w ≠ 0 → qs_wt0 (σ 133) x1 x2 = w → w < 4 → X7_towGain σ x1 x2 = some (0, qth σ (nI w)) := by
    intro w w0 hw w4
    unfold X7_towGain
    rw [qd_whyNoTow hV, qs, hw, qth_e, qth_8, if_neg (nI_nle (by omega) (by omega))]
  cases c : ib x1 (qs_t (σ 133)) with
  | false =>
    refine ⟨1, 0, f, σ, qth σ 1, qL_towGain_1 f ?_, bad 1 (by decide) (by unfold qs_wt0; rw [c]; rfl) (by decide), qth_8 _ _, fun q => absurd q (by decide), qth_i hI 1⟩
    unfold X6_towGain
    rw [qc_hasTurn hR, qs, c, if_pos qb_f]
  | true =>
    obtain ⟨t, ht, rfl⟩ := qi_of c
    have ec : (nI t).toNatClampNeg = t := qk_c (by omega)
    cases c2 : qs_tm (σ 133) t x2 with
    | false =>
      refine ⟨2, 0, f, σ, qth σ 2, qL_towGain_2 f ?_, bad 2 (by decide) (by unfold qs_wt0; rw [c, ec, c2]; rfl) (by decide), qth_8 _ _, fun q => absurd q (by decide), qth_i hI 2⟩
      unfold X6_towGain
      rw [qc_hasTurn hR, qs, c, if_neg (show ¬ qb true = 0 by decide), qc_isTowMinute hR ht, qs, c2, if_pos qb_f]
    | true =>
      by_cases c3 : 0 ≤ σ 133 (96 + 7 * t)
      · refine ⟨3, 0, f, σ, qth σ 3, qL_towGain_3 f ?_, bad 3 (by decide) (by unfold qs_wt0; rw [c, ec, c2, if_pos rfl, if_pos rfl, if_pos c3]) (by decide), qth_8 _ _, fun q => absurd q (by decide), qth_i hI 3⟩
        unfold X6_towGain
        rw [qc_hasTurn hR, qs, c, if_neg (show ¬ qb true = 0 by decide), qc_isTowMinute hR ht, qs, c2, if_neg (show ¬ qb true = 0 by decide), qc_hasTow hR ht, qs, decide_eq_true c3, if_neg (show ¬ qb true = 0 by decide)]
      · have w0 : qs_wt0 (σ 133) (nI t) x2 = 0 := by unfold qs_wt0; rw [c, ec, c2, if_pos rfl, if_pos rfl, if_neg c3]
        have hcut : qcut (σ 133) = σ 133 := hI.1.2
        -- the rows' side, on the trial
        have hRa : qr_R (qr_b (qy σ 36 24) 36) (σ 133) := qy_R (by decide) hR
        obtain ⟨σa, a1, a2, a3⟩ := qc_placeEverything hRa
        have hRb0 : qr_R (qr_b σa 24) (σ 133) := by
          rw [qr_bc (σ := σ) (fun a p q => by rw [a3 a (by omega), qy_o σ (by omega)])]; exact hR
        have hRb : qr_R (qr_b (qy σa 36 24) 36) (σ 133) := qy_R (by decide) hRb0
        obtain ⟨b1, b2⟩ := qc_divide hRb ht c2 c3
        obtain ⟨σc, d1, d2, d3⟩ := qc_placeEverything b2
        have oc : ∀ a, (a < 36 ∨ 48 ≤ a) → σc a = σ a := fun a p => by
          rw [d3 a (by omega), qst_a _ (by omega) (by omega), qu_a _ _ (by omega), qy_o _ (by omega), a3 a (by omega), qy_o σ (by omega)]
        -- the second program's side
        have e1 : (qth σc 0) 133 = σ 133 := by rw [qth_133, oc 133 (by decide)]
        have hV1 : qs_V ((qth σc 0) 133) := by rw [e1]; exact hV
        obtain ⟨τ1, t1, t2⟩ := qd_costAssigned hV1 (by rw [e1]; exact hcut)
        have e2 : τ1 133 = σ 133 := by rw [t2 133 (by decide), e1]
        have e3 : (qks τ1) 133 = σ 133 := by rw [qks_a _ (by decide), e2]
        have hV3 : qs_V ((qks τ1) 133) := by rw [e3]; exact hV
        have hT := qs_tow_T hV ht c2
        have hVt : qs_V (qs_tow (σ 133) t x2) := qmt_V hV (qs_tow_m hV ht x2) hT
        have e4 : (g_row (qks τ1) 133 (qs_tow (σ 133) t x2)) 133 = qs_tow (σ 133) t x2 := qw_at _ _ _
        obtain ⟨τ2, u1, u2⟩ := qd_costAssigned (σ := g_row (qks τ1) 133 (qs_tow (σ 133) t x2)) (by rw [e4]; exact hVt) (by rw [e4]; exact qs_tow_cut hcut (by omega) _)
        have e5 : va_cpy (τ2 135) (τ2 133) (0 : Int32).toNatClampNeg (0 : Int32).toNatClampNeg (162 : Int32).toNatClampNeg = σ 133 := by
          rw [u2 133 (by decide), e4, qcpy_z (qs_tow_cut hcut (by omega) _), u2 135 (by decide), qw_a _ _ (by decide), qks_cut, e2, hcut]
        refine ⟨0, qs_cA (σ 133) - qs_cA (qs_tow (σ 133) t x2), _, σc, g_row τ2 133 (σ 133), qL_towGain_r f (r := qs_cA (σ 133) - qs_cA (qs_tow (σ 133) t x2)) ?_, ?_, ?_, fun _ => qup0 _ _, ?_⟩
        · unfold X6_towGain
          rw [qc_hasTurn hR, qs, c, if_neg (show ¬ qb true = 0 by decide), qc_isTowMinute hR ht, qs, c2, if_neg (show ¬ qb true = 0 by decide), qc_hasTow hR ht, qs, decide_eq_false c3, if_pos qb_f, qy_eq, qs, a1, qs, qc_costOfAll a2, qs, qy_eq, qs, b1, qs, d1, qs, qc_costOfAll d2, qs]
          rfl
        · unfold X7_towGain
          rw [qd_whyNoTow (by rw [oc 133 (by decide)]; exact hV), qs, oc 133 (by decide), w0, qth_e, show nI 0 = 0 from rfl, qth_y, t1, qs, qks_eq, qs, qd_doTow hV3, qs, e3, w0, if_pos rfl, ec, u1, qs, ql, e5, if_pos (show nI 0 ≤ 0 by decide), e1, e4]
        · rw [qw_a _ _ (by decide), u2 132 (by decide), qw_a _ _ (by decide), qks_a _ (by decide), t2 132 (by decide), qth_8]
        · have of : ∀ a, (a < 36 ∨ 48 ≤ a) → a ≠ 132 → a ≠ 134 → a ≠ 135 → (g_row τ2 133 (σ 133)) a = σ a := fun a p1 p2 p3 p4 => by
            by_cases ca : a = 133
            · rw [ca, qw_at]
            · rw [qw_a _ _ ca, u2 a p3, qw_a _ _ ca, qks_a _ p4, t2 a p3, qth_a _ _ p2, oc a p1]
          refine qi_c hI (fun a p => of a (by omega) (by omega) (by omega) (by omega)) (fun j p => by rw [of 0 (by decide) (by decide) (by decide) (by decide)]) (by rw [of 4 (by decide) (by decide) (by decide) (by decide)]) (fun j p => ?_)
          rw [qw_a _ _ (by decide), u2 132 (by decide), qw_a _ _ (by decide), qks_a _ (by decide), t2 132 (by decide), qth_j _ _ (by omega), oc 132 (by decide)]
