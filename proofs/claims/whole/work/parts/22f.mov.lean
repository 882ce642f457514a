/-! ===== repairs: a move, and all of them ===== -/
theorem qrp_k {M : Nat → Int32} {L T : List Nat} (c : qrp M = some (L, T)) : L.length < 4 ∧ T.length = L.length ∧ (∀ k, k ∈ L → k < 20 ∧ qs_io M k = true) ∧ L.Nodup ∧ qz_ok M L T := by
  obtain ⟨k, k1, k2, k3⟩ := qfs_some c
  have := qlg_k k 0 [] L T (qz_asc0 _) k3
  refine ⟨?_, this.2⟩
  have h := this.1
  simp at h; omega
theorem qz_ix3 {x : Int32} {n : Nat} (hn : n < 4) : (decide (0 ≤ x) && decide (x ≤ nI n - 1)) = decide (¬ x < 0 ∧ x < nI n) := by
  have e : (nI n - 1).toInt = (n : Int) - 1 := by
    have e1 : (1 : Int32).toInt = 1 := rfl
    rw [qf_sub (by rw [nI_toInt (by omega), e1]; omega) (by rw [nI_toInt (by omega), e1]; omega), nI_toInt (by omega), e1]
  rw [Bool.eq_iff_iff]
  simp only [Bool.and_eq_true, decide_eq_true_eq]
  rw [qf_lt0, qf_le x, e, qf_lt x, nI_toInt (by omega)]
  constructor
  · rintro ⟨h1, h2⟩
    exact ⟨fun q => q h1, by omega⟩
  · rintro ⟨h1, h2⟩
    exact ⟨Classical.not_not.mp h1, by omega⟩
theorem qz_ixo {x : Int32} {n : Nat} (hn : n < 4) (h1 : ¬ x < 0) (h2 : x < nI n) : ∃ j, j < n ∧ x = nI j := by
  have h0 := (qf_le _ _).mp (qf_nneg h1)
  have e0 : (0 : Int32).toInt = 0 := rfl
  rw [e0] at h0
  rw [qf_lt, nI_toInt (by omega)] at h2
  exact ⟨x.toNatClampNeg, by rw [qf_cl]; omega, qf_of h0⟩
theorem qo_moveOf : o_moveOf qi := by
  intro σ hI f x1 x2
  have hV := qi_V hI
  obtain ⟨σ1, a1, a2, a3⟩ := qc_find (qi_R hI)
  have e133 : σ1 133 = σ 133 := a2 133 (by omega)
  obtain ⟨v, σ2, b1, b2, b3, b4, b5⟩ := qd_findRepair (σ := σ1) (by rw [e133]; exact hV)
  rw [e133] at b3 b4 b5
  have hI2 : qi σ2 := qz_i hI (fun a p q z => by rw [b2 a q z, a2 a p])
  cases c : qrp (σ 133) with
  | none =>
    rw [c] at a1
    have hin : (decide (0 ≤ x1) && decide (x1 ≤ v - 1)) = false := by
      rw [b4 c, Bool.eq_false_iff]
      intro q
      simp only [Bool.and_eq_true, decide_eq_true_eq] at q
      have q1 := (qf_le _ _).mp q.1
      have q2 := (qf_le _ _).mp q.2
      have e0 : (0 : Int32).toInt = 0 := rfl
      have e1 : ((-1 : Int32) - 1).toInt = -2 := by decide
      omega
    refine ⟨1, 0, f, σ1, qth σ2 1, qL_moveOf_1 f (σ1 := σ1) ?_, ?_, qth_8 _ _, fun q => absurd q (by decide), qth_i hI2 1⟩
    · unfold X6_moveOf
      rw [a1, qs]; rfl
    · unfold X7_moveOf
      rw [b1, qs]
      dsimp only
      rw [qd_in, qs, hin, if_pos qb_f, qth_e, qth_1]
  | some x =>
    obtain ⟨L, T⟩ := x
    rw [c] at a1
    obtain ⟨n1, n2, n3⟩ := a3 L T c
    obtain ⟨m1, m2⟩ := b3 L T c
    obtain ⟨hl, ht, -, -, -⟩ := qrp_k c
    by_cases cc : ¬ x1 < 0 ∧ x1 < nI L.length
    · obtain ⟨j, hj, rfl⟩ := qz_ixo hl cc.1 cc.2
      have hin : (decide (0 ≤ nI j) && decide (nI j ≤ v - 1)) = true := by rw [b5 L T c, qz_ix3 hl]; exact decide_eq_true cc
      refine ⟨0, nI (if bx x2 = 0 then L.getD j 0 else T.getD j 0), _, σ1, qth σ2 0, qL_moveOf_r f (σ1 := σ1) (r := nI (if bx x2 = 0 then L.getD j 0 else T.getD j 0)) ?_, ?_, qth_8 _ _, fun _ => qup0 _ _, qth_i hI2 0⟩
      · unfold X6_moveOf
        rw [a1, qs]
        show (if (1 : Int32) = 0 then _ else (if nI j < 0 then _ else (if nI j < σ1 7 4 then _ else _))) = _
        rw [if_neg (by decide), if_neg cc.1, n1, if_pos cc.2, qg_i (show j < 3 by omega) (by decide), qg_i (show j < 3 by omega) (by decide), qk_c (by omega)]
        by_cases e : bx x2 = 0
        · rw [if_pos e, if_pos e, ← n2 j hj]
        · rw [if_neg e, if_neg e, ← n3 j (by omega)]
      · unfold X7_moveOf
        rw [b1, qs]
        dsimp only
        rw [qd_in, qs, hin, if_neg (show ¬ qb true = 0 by decide), qth_e, qth_y, qg_i (show j < 3 by omega) (by decide), qg_i (show j < 3 by omega) (by decide), qk_c (by omega), qth_a _ _ (by decide), qth_a _ _ (by decide)]
        by_cases e : bx x2 = 0
        · rw [if_pos e, if_pos e, m1 j hj]
        · rw [if_neg e, if_neg e, m2 j (by omega)]
    · have hin : (decide (0 ≤ x1) && decide (x1 ≤ v - 1)) = false := by rw [b5 L T c, qz_ix3 hl]; exact decide_eq_false cc
      refine ⟨1, 0, f, σ1, qth σ2 1, qL_moveOf_1 f (σ1 := σ1) ?_, ?_, qth_8 _ _, fun q => absurd q (by decide), qth_i hI2 1⟩
      · unfold X6_moveOf
        rw [a1, qs]
        show (if (1 : Int32) = 0 then _ else (if x1 < 0 then _ else (if x1 < σ1 7 4 then _ else _))) = _
        rw [if_neg (by decide), n1]
        by_cases e : x1 < 0
        · rw [if_pos e]
        · rw [if_neg e, if_neg (fun q => cc ⟨e, q⟩)]
      · unfold X7_moveOf
        rw [b1, qs]
        dsimp only
        rw [qd_in, qs, hin, if_pos qb_f, qth_e, qth_1]
/-- as the first kind, with the search between -/
theorem q_rem3 {σ : gS} (hI : qi σ) : ∃ σ1, X4_remember σ 24 = some σ1 ∧ (∀ a, a ≠ 2 → (a < 60 ∨ 132 ≤ a) → σ1 a = σ a) ∧
    (∀ σ1' : gS, (∀ a, (a < 24 ∨ 36 ≤ a) → a ≠ 138 → a ≠ 139 → σ1' a = σ1 a) → ∃ σ2, X7_changes (qth σ1' 0) = some σ2 ∧ (∀ a, a ≠ 132 → a ≠ 135 → a ≠ 137 → σ2 a = σ1' a) ∧ σ2 133 = σ 133 ∧ (∀ M', g_row σ2 133 M' 132 8 = 0) ∧ ∀ M', qcut M' = M' → qr_R (qr_b σ1' 24) M' → qi (g_row σ2 133 M')) := by
  have hR := qi_R hI
  have hcut : qcut (σ 133) = σ 133 := hI.1.2
  obtain ⟨ms, c, hC, hM⟩ := hI.2.1
  obtain ⟨σ1, r1, r2, r3⟩ := qc_remember hC hR
  refine ⟨σ1, r1, r2, fun σ1' ho => ?_⟩
  have e133 : (qth σ1' 0) 133 = σ 133 := by rw [qth_133, ho 133 (by decide) (by decide) (by decide), r2 133 (by decide) (by decide)]
  have hM2 : qh_M (qth σ1' 0) ms c := qh_Mc hM (by rw [qth_j _ _ (by decide), ho 132 (by decide) (by decide) (by decide), r2 132 (by decide) (by decide)]) (by rw [qth_a _ _ (by decide), ho 137 (by decide) (by decide) (by decide), r2 137 (by decide) (by decide)])
  obtain ⟨σ2, d1, d2, d3, d4⟩ := qd_changes hC.1 hM2 (by rw [e133, hcut])
  rw [e133] at d4
  have o : ∀ a, a ≠ 132 → a ≠ 135 → a ≠ 137 → σ2 a = σ1' a := fun a p q r => by rw [d2 a p q r, qth_a _ _ p]
  have hI3 : qi (g_row (g_row σ 138 (σ1' 138)) 139 (σ1' 139)) := qz_i hI (fun a _ q z => by rw [qw_a _ _ z, qw_a _ _ q])
  refine ⟨σ2, d1, o, ?_, fun M' => ?_, fun M' m1 m2 => ?_⟩
  · rw [d2 133 (by decide) (by decide) (by decide), e133]
  · rw [qw_a _ _ (by decide), d3 8 (by decide), qth_8]
  · refine qi_mut (ms := ms) (σ1 := σ1') (ms' := qps ms c (σ 133)) (c' := qpc c) hI3 (fun a p q => ?_) (qh_Cc r3 (fun a p q => ho a (by omega) (by omega) (by omega)) (ho 2 (by decide) (by decide) (by decide))) (by rw [qw_at]; exact m2) (by rw [qw_at]; exact m1) (fun a p => ?_) (fun j p q => ?_) (qh_Mc d4 (by rw [qw_a _ _ (by decide)]) (qw_a _ _ (by decide)))
    · by_cases e1 : a = 139
      · rw [e1, qw_at]
      · by_cases e2 : a = 138
        · rw [e2, qw_a _ _ (by decide), qw_at]
        · rw [qw_a _ _ e1, qw_a _ _ e2, ho a (by omega) e2 e1, r2 a p (by omega)]
    · rw [qw_a _ _ (by omega), o a (by omega) (by omega) (by omega)]
    · rw [qw_a _ _ (by decide), d3 j p, qth_j _ _ q]
theorem qr_mv {σ : gS} {M : Nat → Int32} (h : qr_R (qr_b σ 24) M) (v : Int32) : qr_R (qr_b (g_up σ 24 3 v) 24) (qu1 M 3 v) := by
  obtain ⟨⟨a1, a2, a3, a4, a5, a6⟩, ⟨b0, b1, b2, b3⟩, w, b5, b6, b7, b8, b9⟩ := h
  have hne : ∀ j, j ≠ 3 → qu1 M 3 v j = M j := fun j hj => qu1_ne _ _ hj
  have hA : ∀ r j, (r ≠ 0 ∨ j ≠ 3) → qr_b (g_up σ 24 3 v) 24 r j = qr_b σ 24 r j := by
    intro r j hrj
    unfold qr_b
    by_cases hr : r < 12
    · rw [if_pos hr, if_pos hr]
      by_cases h0 : r = 0
      · subst h0
        exact qu_j _ _ (by omega)
      · rw [qu_a _ _ (by omega)]
    · rw [if_neg hr, if_neg hr]
  have hn : qs_n (qu1 M 3 v) = qs_n M := by unfold qs_n; rw [hne 0 (by decide)]
  have ht : qs_t (qu1 M 3 v) = qs_t M := by unfold qs_t; rw [hne 1 (by decide)]
  have his : ∀ k, qs_is (qu1 M 3 v) k = qs_is M k := fun k => by unfold qs_is; rw [ht, hne _ (by omega)]
  have hon : ∀ k, qs_on (qu1 M 3 v) k = qs_on M k := fun k => by unfold qs_on; rw [hne _ (by omega)]
  refine ⟨⟨?_, ?_, ?_, fun i hi => ?_, fun i j hi hj => ?_, fun i hi => ?_⟩, ⟨?_, ?_, ?_, ?_⟩, ?_, fun i hi => ?_, fun i j hi hj => ?_, fun i hi => ?_, fun k hk hs => ?_, fun k hk => ?_⟩
  · rw [hn, hne 0 (by decide)]; exact a1
  · rw [ht, hne 1 (by decide)]; exact a2
  · rw [hne 2 (by decide)]; exact a3
  · rw [hn] at hi
    rw [hne _ (by omega), hne _ (by omega)]; exact a4 i hi
  · rw [hn]
    unfold qs_li
    rw [hne _ (by omega), hne _ (by omega)]; exact a5 i j hi hj
  · rw [ht] at hi
    unfold qs_T
    rw [hn, hne _ (by omega), hne _ (by omega), hne _ (by omega), hne _ (by omega), hne _ (by omega), hne _ (by omega)]; exact a6 i hi
  · rw [hA 0 0 (by decide), hne 0 (by decide)]; exact b0
  · rw [hA 0 1 (by decide), hne 1 (by decide)]; exact b1
  · rw [hA 0 2 (by decide), hne 2 (by decide)]; exact b2
  · rw [qu1_at]
    exact qu_at σ 24 3 v
  · obtain ⟨w, w1, w2, w3⟩ := w
    refine ⟨w, w1, by rw [hA 0 4 (by decide)]; exact w2, fun i hi => ?_⟩
    rw [hn] at hi
    rw [hne _ (by omega)]; exact w3 i hi
  · rw [hn] at hi
    rw [hA 1 i (Or.inl (by decide)), hA 2 i (Or.inl (by decide)), hne _ (by omega), hne _ (by omega)]; exact b5 i hi
  · rw [hn] at hi hj
    unfold qs_li
    rw [hA 3 _ (Or.inl (by decide)), hne _ (by omega)]; exact b6 i j hi hj
  · rw [ht] at hi
    rw [hA 4 i (Or.inl (by decide)), hA 5 i (Or.inl (by decide)), hA 6 i (Or.inl (by decide)), hA 7 i (Or.inl (by decide)), hA 8 i (Or.inl (by decide)), hne _ (by omega), hne _ (by omega), hne _ (by omega), hne _ (by omega), hne _ (by omega)]; exact b7 i hi
  · rw [his] at hs
    rw [hA 9 k (Or.inl (by decide)), hA 10 k (Or.inl (by decide))]
    unfold qs_fr qs_to
    rw [hne _ (by omega), hne _ (by omega), hne _ (by omega)]; exact b8 k hk hs
  · rw [hA 11 k (Or.inl (by decide))]
    unfold qs_io
    rw [his, hon]; exact b9 k hk
/-- the moves, done one after another -/
def qz_N (M : Nat → Int32) (L T : List Nat) : Nat → (Nat → Int32)
  | 0 => M
  | i + 1 => qs_pt (qz_N M L T i) (L.getD i 0) (nI (T.getD i 0))
theorem qz_Nis (M : Nat → Int32) (L T : List Nat) (o : Nat) : ∀ i, qs_is (qz_N M L T i) o = qs_is M o
  | 0 => rfl
  | i + 1 => (qpt_is o).trans (qz_Nis M L T o i)
theorem qz_Nn (M : Nat → Int32) (L T : List Nat) : ∀ i, qs_n (qz_N M L T i) = qs_n M
  | 0 => rfl
  | i + 1 => qpt_n.trans (qz_Nn M L T i)
theorem qz_Nc {M : Nat → Int32} {L T : List Nat} (hc : qcut M = M) (hL : ∀ k, k ∈ L → k < 20) : ∀ i, i ≤ L.length → qcut (qz_N M L T i) = qz_N M L T i
  | 0, _ => hc
  | i + 1, h => by
    have h2 := hL _ (qz_mem (l := L) (j := i) (by omega))
    show qcut (qs_pt (qz_N M L T i) (L.getD i 0) (nI (T.getD i 0))) = qs_pt (qz_N M L T i) (L.getD i 0) (nI (T.getD i 0))
    rw [qpt_qu1]
    exact qu1_cut (qz_Nc hc hL i (by omega)) (by omega) _
theorem qo_repair : o_repair qi := by
  intro σ hI f
  have hV := qi_V hI
  obtain ⟨σ1, a1, a2, a3⟩ := qc_find (qi_R hI)
  have e133 : σ1 133 = σ 133 := a2 133 (by omega)
  have hI1 : qi σ1 := qz_i hI (fun a p _ _ => a2 a p)
  cases c : qrp (σ 133) with
  | none =>
    obtain ⟨v, σ2, b1, b2, b3, b4, b5⟩ := qd_findRepair (σ := σ1) (by rw [e133]; exact hV)
    rw [e133] at b3 b4 b5
    have hI2 : qi σ2 := qz_i hI (fun a p q z => by rw [b2 a q z, a2 a p])
    rw [c] at a1
    refine ⟨1, 0, f, σ1, qth σ2 1, qL_repair_1 f (σ1 := σ1) ?_, ?_, qth_8 _ _, fun q => absurd q (by decide), qth_i hI2 1⟩
    · unfold X6_repair
      rw [a1, qs]; rfl
    · unfold X7_repair
      rw [b1, qs, b4 c]
      show (if (0 : Int32) ≤ -1 then _ else _) = _
      rw [if_neg (by decide), qth_e, qth_1]
  | some x =>
    obtain ⟨L, T⟩ := x
    rw [c] at a1
    obtain ⟨n1, n2, n3⟩ := a3 L T c
    obtain ⟨hl, ht, hio, hnd, hok⟩ := qrp_k c
    have n8 := qv_n8 hV
    have htn : ∀ i, i < L.length → T.getD i 0 < qs_n (σ 133) := fun i hi => qz_frn (hok i (by omega)).1
    obtain ⟨σ3, r1, r2, r3⟩ := q_rem3 hI1
    have hR3 : qr_R (qr_b σ3 24) (σ 133) := by
      rw [q_rb r2, ← e133]; exact qi_R hI1
    -- the class
    have loop : ∀ n i (τ : gS), i + n = L.length → (∀ a, (a < 24 ∨ 36 ≤ a) → τ a = σ3 a) → qr_R (qr_b τ 24) (qz_N (σ 133) L T i) → ∃ σ4, gr X6_repair_s (nI i, τ) = some (.inr (nI L.length), σ4) ∧ (∀ a, (a < 24 ∨ 36 ≤ a) → σ4 a = σ3 a) ∧ qr_R (qr_b σ4 24) (qu1 (qz_N (σ 133) L T L.length) 3 (qz_N (σ 133) L T L.length 3 + nI L.length)) := by
      intro n
      induction n with
      | zero =>
        intro i τ hi o1 hR
        have e : i = L.length := by omega
        subst e
        have e7 : τ 7 4 = nI L.length := by rw [o1 7 (by decide), r2 7 (by decide) (by decide), n1]
        have e3 := qr_3 hR
        refine ⟨g_up τ 24 3 (qz_N (σ 133) L T L.length 3 + nI L.length), ?_, fun a p => by rw [qu_a _ _ (by omega)]; exact o1 a p, qr_mv hR _⟩
        rw [gr_eq]
        show (X6_repair_k0 τ (nI L.length)).bind _ = _
        unfold X6_repair_k0
        rw [e7, if_pos (qk_end (by omega)), ql, e3, qu_a _ _ (show (7 : Nat) ≠ 24 by decide), e7, qs]
      | succ n ih =>
        intro i τ hi o1 hR
        have hi2 : i < L.length := by omega
        have hk := hio _ (qz_mem hi2)
        have e7 : τ 7 4 = nI L.length := by rw [o1 7 (by decide), r2 7 (by decide) (by decide), n1]
        have e9 : τ 9 i = nI (L.getD i 0) := by rw [o1 9 (by decide), r2 9 (by decide) (by decide)]; exact n2 i hi2
        have e10 : τ 10 i = nI (T.getD i 0) := by rw [o1 10 (by decide), r2 10 (by decide) (by decide)]; exact n3 i (by omega)
        have hs := htn i hi2
        have hR2 : qr_R (qr_b (g_up τ (24 + 11) (L.getD i 0) (nI (T.getD i 0))) 24) (qz_N (σ 133) L T (i + 1)) := qr_put hR (by rw [qz_Nis]; exact qs_io_is hk.2) (by rw [nI_toInt (by omega)]; omega) (by rw [nI_toInt (by omega), qz_Nn]; omega)
        rw [gr_eq]
        show ∃ σ4, (X6_repair_k0 τ (nI i)).bind _ = _ ∧ _
        unfold X6_repair_k0
        rw [e7, if_neg (nI_ge hi2 (by omega)), qg_i (show i < 3 by omega) (by decide), qk_c (by omega), e9, e10, qg_i hk.1 (by decide), qk_c (by omega), ql, qs, qk_s]
        exact ih (i + 1) _ (by omega) (fun a p => by rw [qu_a _ _ (by omega)]; exact o1 a p) hR2
    obtain ⟨σ4, c1, c2, c3⟩ := loop L.length 0 σ3 (by omega) (fun a _ => rfl) hR3
    have e4 : σ4 133 = σ 133 := by rw [c2 133 (by decide), r2 133 (by decide) (by decide), e133]
    obtain ⟨v, σ5, b1, b2, b3, b4, b5⟩ := qd_findRepair (σ := σ4) (by rw [e4]; exact hV)
    rw [e4] at b3 b4 b5
    obtain ⟨m1, m2⟩ := b3 L T c
    obtain ⟨σ6, s1, s2, s3, s4, s5⟩ := r3 σ5 (fun a p q z => by rw [b2 a q z, c2 a p])
    have s3 : σ6 133 = σ 133 := s3.trans e133
    have hb5 : qr_b σ5 24 = qr_b σ4 24 := qr_bc (fun a p q => b2 a (by omega) (by omega))
    have loopd : ∀ n i, i + n = L.length → gr X7_repair_s (nI L.length, nI i, g_row σ6 133 (qz_N (σ 133) L T i)) = some (nI L.length, g_row σ6 133 (qu1 (qz_N (σ 133) L T L.length) 3 (qz_N (σ 133) L T L.length 3 + nI L.length))) := by
      intro n
      induction n with
      | zero =>
        intro i hi
        have e : i = L.length := by omega
        subst e
        rw [gr_eq]
        show (X7_repair_k0 (g_row σ6 133 (qz_N (σ 133) L T L.length)) (nI L.length) (nI L.length)).bind _ = _
        unfold X7_repair_k0
        rw [if_pos (qk_end (by omega)), ql, qk_z3, qw_at, qrow_up2, qs]
      | succ n ih =>
        intro i hi
        have hi2 : i < L.length := by omega
        have hk := hio _ (qz_mem hi2)
        rw [gr_eq]
        show (X7_repair_k0 (g_row σ6 133 (qz_N (σ 133) L T i)) (nI L.length) (nI i)).bind _ = _
        unfold X7_repair_k0
        rw [if_neg (nI_ge hi2 (by omega)), qg_i (show i < 3 by omega) (by decide), qk_c (by omega), qw_a _ _ (show (138 : Nat) ≠ 133 by decide), qw_a _ _ (show (139 : Nat) ≠ 133 by decide), s2 138 (by decide) (by decide) (by decide), s2 139 (by decide) (by decide) (by decide), m1 i hi2, m2 i (by omega), qd_put hk.1, qs, qp_qp, qrow_row, qw_at, qs, qk_s]
        exact ih (i + 1) (by omega)
    have hd := loopd L.length 0 (by omega)
    have e0 : g_row σ6 133 (qz_N (σ 133) L T 0) = σ6 := by
      show g_row σ6 133 (σ 133) = σ6
      rw [← s3, qrow_self]
    rw [e0] at hd
    refine ⟨0, nI L.length, _, σ4, _, qL_repair_r f (σ1 := σ4) (r := nI L.length) ?_, ?_, s4 (qu1 (qz_N (σ 133) L T L.length) 3 (qz_N (σ 133) L T L.length 3 + nI L.length)), fun _ => qup0 _ _, s5 _ (qu1_cut (qz_Nc hI.1.2 (fun k hk => (hio k hk).1) L.length (Nat.le_refl _)) (by decide) _) (by rw [hb5]; exact c3)⟩
    · unfold X6_repair
      rw [a1, qs]
      show (if (1 : Int32) = 0 then _ else (X4_remember σ1 24).bind _) = _
      rw [if_neg (by decide), r1, qs]
      exact c1
    · unfold X7_repair
      rw [b1, qs, b5 L T c]
      show (if (0 : Int32) ≤ nI L.length then _ else _) = _
      rw [if_pos (show (0 : Int32) ≤ nI L.length from (show nI 0 ≤ nI L.length from nI_le (Nat.zero_le _) (by omega))), qth_e, qth_y]
      dsimp only
      rw [s1, qs]
      exact hd
