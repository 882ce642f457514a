/-! ===== repairs: both programs' whole search ===== -/
def qd_res (σ : gS) (o : Option (List Nat × List Nat)) : Prop := ∀ L T, o = some (L, T) → qz_L σ 138 L ∧ qz_L σ 139 T
theorem qd_finds {m : Nat} (hm3 : m ≤ 3) : ∀ (r a : Nat) (l : List Nat) (d : Nat) (σ : gS), r + 1 ≤ d → l.length + r = m → a ≤ 20 → qs_V (σ 133) → qz_asc (σ 133) l a → qz_L σ 138 l →
    ∃ σ', X7_finds d σ (nI l.length) (nI m) (nI a) = some (qb (qlg (σ 133) r a l).isSome, σ') ∧ (∀ a, a ≠ 138 → a ≠ 139 → σ' a = σ a) ∧ (∀ j, j < l.length → σ' 138 j = σ 138 j) ∧ qd_res σ' (qlg (σ 133) r a l) := by
  intro r
  induction r with
  | zero =>
    intro a l d σ hd hlen ha hV hasc h138
    obtain ⟨d', rfl⟩ : ∃ d', d = d' + 1 := ⟨d - 1, by omega⟩
    have hlm : l.length = m := by omega
    have hio : ∀ k, k ∈ l → k < 20 ∧ qs_io (σ 133) k = true := fun k hk => (hasc.1 k hk).2
    show ∃ σ', X7_finds_e (X7_finds d') σ (nI l.length) (nI m) (nI a) = some (qb ((qlf (σ 133) l).map (fun t => (l, t))).isSome, σ') ∧ _ ∧ _ ∧ qd_res σ' ((qlf (σ 133) l).map (fun t => (l, t)))
    unfold X7_finds_e
    rw [← hlm, if_pos rfl, qd_othersGood hV (by omega) h138 (fun k hk => (hio k hk).1), qs, qb_if]
    cases og : qz_og (σ 133) l with
    | false =>
      have e : qlf (σ 133) l = none := by unfold qlf; rw [og]; rfl
      rw [e, if_neg (by decide)]
      exact ⟨σ, rfl, fun a _ _ => rfl, fun j _ => rfl, fun L T e => by cases e⟩
    | true =>
      have el : qlf (σ 133) l = qtm (σ 133) l l.length [] := by unfold qlf; rw [og, if_pos rfl, qtm_tg hV]
      obtain ⟨σ2, s1, s2, s3, s4⟩ := qd_fits hV (l := l) (by omega) hasc.2 hio l.length [] 4 σ (by omega) (by simp) hV (qz_P_0 _ _) (fun i hi => by simp at hi) h138 (fun j hj => by simp at hj)
      have s1 : X7_fits 4 σ 0 (nI l.length) = some (qb (qtm (σ 133) l l.length []).isSome, σ2) := s1
      rw [if_pos rfl, s1, qs, el]
      show ∃ σ', (if qb (qtm (σ 133) l l.length []).isSome = 0 then _ else _) = _ ∧ _
      rw [qb_if]
      have o : ∀ a, a ≠ 138 → a ≠ 139 → σ2 a = σ a := fun a _ q => s2 a q
      have o2 : ∀ j, j < l.length → σ2 138 j = σ 138 j := fun j _ => by rw [s2 138 (by decide)]
      cases cq : qtm (σ 133) l l.length [] with
      | none =>
        rw [if_neg (by decide)]
        exact ⟨σ2, rfl, o, o2, fun L T e => by cases e⟩
      | some T0 =>
        rw [if_pos (show (some T0).isSome = true from rfl)]
        refine ⟨σ2, rfl, o, o2, fun L T e => ?_⟩
        have e3 : (l, T0) = (L, T) := Option.some.inj e
        have e4 : l = L := congrArg Prod.fst e3
        have e5 : T0 = T := congrArg Prod.snd e3
        rw [← e4, ← e5]
        exact ⟨qz_L_c h138 o2, s4 T0 cq⟩
  | succ r ih =>
    intro a l d σ hd hlen ha hV hasc h138
    obtain ⟨d', rfl⟩ : ∃ d', d = d' + 1 := ⟨d - 1, by omega⟩
    have hlm : l.length < m := by omega
    have loop : ∀ n k (τ : gS), k + n = 20 → a ≤ k → (∀ a, a ≠ 138 → a ≠ 139 → τ a = σ a) → (∀ j, j < l.length → τ 138 j = σ 138 j) → ∃ σ', gr (X7_finds_s (X7_finds d')) (nI l.length, nI m, nI k, τ) = some (qb (qfs (fun k => if qs_io (σ 133) k = true then qlg (σ 133) r (k + 1) (l ++ [k]) else none) n k).isSome, σ') ∧ (∀ a, a ≠ 138 → a ≠ 139 → σ' a = σ a) ∧ (∀ j, j < l.length → σ' 138 j = σ 138 j) ∧ qd_res σ' (qfs (fun k => if qs_io (σ 133) k = true then qlg (σ 133) r (k + 1) (l ++ [k]) else none) n k) := by
      intro n
      induction n with
      | zero =>
        intro k τ hk hak o1 o2
        refine ⟨τ, ?_, o1, o2, fun L T e => by cases e⟩
        rw [show k = 20 by omega, gr_eq]
        show (X7_finds_k0 (X7_finds d') τ (nI l.length) (nI m) (nI 20)).bind _ = _
        unfold X7_finds_k0
        rw [if_pos qk_e20, qs]; rfl
      | succ n ihn =>
        intro k τ hk hak o1 o2
        have k20 : k < 20 := by omega
        have e133 : τ 133 = σ 133 := o1 133 (by decide) (by decide)
        rw [gr_eq]
        show ∃ σ', (X7_finds_k0 (X7_finds d') τ (nI l.length) (nI m) (nI k)).bind _ = _ ∧ _
        unfold X7_finds_k0
        rw [if_neg (qk_20 k20), qd_isOn (by rw [e133]; exact hV) k20, qs, qb_if, e133, qk_s, qk_s]
        cases cio : qs_io (σ 133) k with
        | false =>
          rw [if_neg (by decide), qs, qfs_n (by rw [cio]; rfl)]
          exact ihn (k + 1) τ (by omega) (by omega) o1 o2
        | true =>
          have h138t : qz_L τ 138 l := qz_L_c h138 o2
          rw [if_pos rfl, qg_i (show l.length < 3 by omega) (by decide), qk_c (by omega), ql]
          have e133u : (g_up τ 138 l.length (nI k)) 133 = σ 133 := by rw [qu_a _ _ (by decide)]; exact e133
          obtain ⟨σ2, j1, j2, j3, j4⟩ := ih (k + 1) (l ++ [k]) d' (g_up τ 138 l.length (nI k)) (by omega) (by simp; omega) (by omega) (by rw [e133u]; exact hV) (by rw [e133u]; exact qz_asc_s hasc hak k20 cio) (qz_L_s h138t)
          rw [e133u] at j1 j4
          have el : (l ++ [k]).length = l.length + 1 := by simp
          rw [el] at j1 j3
          have o1' : ∀ a, a ≠ 138 → a ≠ 139 → σ2 a = σ a := fun a p q => by rw [j2 a p q, qu_a _ _ p, o1 a p q]
          have o2' : ∀ j, j < l.length → σ2 138 j = σ 138 j := fun j hj => by rw [j3 j (by omega), qu_j _ _ (by omega), o2 j hj]
          rw [j1, qs]
          show ∃ σ', Option.bind (if qb (qlg (σ 133) r (k + 1) (l ++ [k])).isSome = 0 then _ else _) _ = _ ∧ _
          rw [qb_if]
          cases cq : qlg (σ 133) r (k + 1) (l ++ [k]) with
          | none =>
            rw [if_neg (by decide), qs, qfs_n (by rw [cio]; exact cq)]
            exact ihn (k + 1) σ2 (by omega) (by omega) o1' o2'
          | some x =>
            rw [if_pos (show (some x).isSome = true from rfl), qs, qfs_s (x := x) (by rw [cio]; exact cq)]
            exact ⟨σ2, rfl, o1', o2', by rw [cq] at j4; exact j4⟩
    obtain ⟨σ', k1, k2, k3, k4⟩ := loop (20 - a) a σ (by omega) (Nat.le_refl a) (fun a _ _ => rfl) (fun j _ => rfl)
    refine ⟨σ', ?_, k2, k3, k4⟩
    show X7_finds_e (X7_finds d') σ (nI l.length) (nI m) (nI a) = _
    unfold X7_finds_e
    rw [if_neg (fun q => by have := (qk_eq (by omega) (by omega)).mp q; omega)]
    exact k1
theorem qz_asc0 (M : Nat → Int32) : qz_asc M [] 0 := ⟨fun k hk => (by cases hk), List.nodup_nil⟩
theorem qk_n3 : ∀ c, c < 4 → ¬ (3 : Int32) < nI c := by decide +kernel
theorem qd_findRepair {σ : gS} (hV : qs_V (σ 133)) : ∃ v σ', X7_findRepair σ = some (v, σ') ∧ (∀ a, a ≠ 138 → a ≠ 139 → σ' a = σ a) ∧ qd_res σ' (qrp (σ 133)) ∧ (qrp (σ 133) = none → v = -1) ∧ ∀ L T, qrp (σ 133) = some (L, T) → v = nI L.length := by
  have loop : ∀ n c (τ : gS), c + n = 4 → (∀ a, a ≠ 138 → a ≠ 139 → τ a = σ a) → ∃ v σ', gr X7_findRepair_s (nI c, τ) = some (v, σ') ∧ (∀ a, a ≠ 138 → a ≠ 139 → σ' a = σ a) ∧ qd_res σ' (qfs (fun c => qlg (σ 133) c 0 []) n c) ∧ (qfs (fun c => qlg (σ 133) c 0 []) n c = none → v = -1) ∧ ∀ L T, qfs (fun c => qlg (σ 133) c 0 []) n c = some (L, T) → v = nI L.length := by
    intro n
    induction n with
    | zero =>
      intro c τ hc o1
      refine ⟨-1, τ, ?_, o1, fun L T e => (by cases e), fun _ => rfl, fun L T e => (by cases e)⟩
      rw [show c = 4 by omega, gr_eq]
      show (X7_findRepair_k0 τ (nI 4)).bind _ = _
      unfold X7_findRepair_k0
      rw [if_pos (show (3 : Int32) < nI 4 by decide), qs]
    | succ n ih =>
      intro c τ hc o1
      have e133 : τ 133 = σ 133 := o1 133 (by decide) (by decide)
      obtain ⟨σ2, s1, s2, s3, s4⟩ := qd_finds (m := c) (by omega) c 0 [] 4 τ (by omega) (by simp) (by omega) (by rw [e133]; exact hV) (by rw [e133]; exact qz_asc0 _) (fun j hj => by simp at hj)
      rw [e133] at s1 s4
      have s1 : X7_finds 4 τ 0 (nI c) 0 = some (qb (qlg (σ 133) c 0 []).isSome, σ2) := s1
      have o1' : ∀ a, a ≠ 138 → a ≠ 139 → σ2 a = σ a := fun a p q => by rw [s2 a p q, o1 a p q]
      rw [gr_eq]
      show ∃ v σ', (X7_findRepair_k0 τ (nI c)).bind _ = _ ∧ _
      unfold X7_findRepair_k0
      rw [if_neg (qk_n3 c (by omega)), s1, qs, qk_s]
      show ∃ v σ', Option.bind (if qb (qlg (σ 133) c 0 []).isSome = 0 then _ else _) _ = _ ∧ _
      rw [qb_if]
      cases cq : qlg (σ 133) c 0 [] with
      | none =>
        rw [if_neg (by decide), qs, qfs_n cq]
        exact ih (c + 1) σ2 (by omega) o1'
      | some x =>
        rw [if_pos (show (some x).isSome = true from rfl), qs, qfs_s (x := x) cq]
        refine ⟨nI c, σ2, rfl, o1', by rw [cq] at s4; exact s4, fun e => (by cases e), fun L T e => ?_⟩
        have e2 : x = (L, T) := Option.some.inj e
        rw [e2] at cq
        have := (qlg_k c 0 [] L T (qz_asc0 _) cq).1
        rw [this]; simp
  exact loop 4 0 σ (by omega) (fun a _ _ => rfl)
theorem qc_isSound {σ : gS} {b : Nat} {M : Nat → Int32} (h : qr_R (qr_b σ b) M) : X0_isSound σ b = some (qb (qz_og M [])) := by
  have step : ∀ i, i < 20 → X0_isSound_k0 σ b (nI i) = if qs_tr M i = true then some (.inr 0) else some (.inl (nI (i + 1))) := by
    intro i hi
    unfold X0_isSound_k0
    rw [if_neg (qk_20 hi), qc_isTroubled h hi, qs, qb_if, qk_s]
  have hl2 := qf_find (step := X0_isSound_s σ b) (N := 20) (p := qs_tr M) (out := fun _ => (0 : Int32)) (b := 1) (fun i => nI i) (fun i hi hp => by
      show X0_isSound_k0 σ b (nI i) = _
      rw [step i hi, hp]; rfl) (fun i hi hp => by
      show X0_isSound_k0 σ b (nI i) = _
      rw [step i hi, hp]; rfl) (by
      show X0_isSound_k0 σ b (nI 20) = _
      unfold X0_isSound_k0
      rw [if_pos qk_e20]) 20 0 (by omega)
  refine hl2.trans ?_
  have em : qz_og M [] = decide (qm 20 (qs_tr M) = 0) := by
    unfold qz_og
    congr 2
    refine qm_congr (fun a _ => ?_)
    unfold qs_tr
    have e : qm 20 (fun b => qs_cf M a b && !decide (b ∈ ([] : List Nat))) = qm 20 (qs_cf M a) := qm_congr (fun o _ => by simp)
    rw [e]
    cases cio : qs_io M a with
    | true => simp
    | false =>
      have e1 : qs_hi M a = false := by unfold qs_hi; rw [cio, Bool.false_and]
      have e2 : qm 20 (qs_cf M a) = 0 := qm_0.mpr (fun o _ => by unfold qs_cf; rw [cio, Bool.false_and])
      rw [e1, decide_eq_true e2]; rfl
  rw [em]
  cases e : qfi (qs_tr M) 20 0 with
  | none => rw [decide_eq_true (qm_0.mpr (fun j hj => qfi_none e j (Nat.zero_le _) (by omega)))]; rfl
  | some j =>
    obtain ⟨-, e1, e2, -⟩ := qfi_some e
    rw [decide_eq_false (fun q => by have := qm_0.mp q j (by omega); rw [e2] at this; cases this)]; rfl
theorem qc_find {σ : gS} {M : Nat → Int32} (h : qr_R (qr_b σ 24) M) : ∃ σ', X3_find σ 24 = some (qb (qrp M).isSome, σ') ∧ (∀ a, (a < 7 ∨ (10 < a ∧ a < 14) ∨ 19 ≤ a) → σ' a = σ a) ∧ ∀ L T, qrp M = some (L, T) → σ' 7 4 = nI L.length ∧ qz_L σ' 9 L ∧ qz_L σ' 10 T := by
  have hb : qr_b (g_up σ 7 4 0) 24 = qr_b σ 24 := qr_bc (fun a p q => qu_a _ _ (by omega))
  have h1 : qr_R (qr_b (g_up σ 7 4 0) 24) M := by rw [hb]; exact h
  unfold X3_find
  rw [ql, qc_isSound h1, qs, qb_if]
  cases og : qz_og M [] with
  | true =>
    have e : qrp M = some ([], []) := by
      unfold qrp
      refine qfs_s (n := 3) ?_
      show (qlf M []).map _ = _
      unfold qlf
      rw [og]; rfl
    rw [if_pos rfl, e]
    refine ⟨_, rfl, fun a p => qu_a _ _ (by omega), fun L T e => ?_⟩
    have e2 : (([] : List Nat), ([] : List Nat)) = (L, T) := Option.some.inj e
    have e3 : [] = L := congrArg Prod.fst e2
    have e4 : [] = T := congrArg Prod.snd e2
    rw [← e3, ← e4]
    exact ⟨qu_at _ _ _ _, fun j hj => by simp at hj, fun j hj => by simp at hj⟩
  | false =>
    have e0 : qlg M 0 0 [] = none := by
      show (qlf M []).map _ = none
      unfold qlf
      rw [og]; rfl
    have e : qrp M = qfs (fun c => qlg M c 0 []) 3 1 := by
      unfold qrp
      exact qfs_n (n := 3) e0
    rw [if_neg (by decide), e]
    obtain ⟨σ1, t1, t2, t3⟩ := qx_look (c := 14) g_cla14 h1
    rw [t1, qs]
    have loop : ∀ n c (τ : gS), c + n = 4 → (∀ a, (a < 7 ∨ (10 < a ∧ a < 14) ∨ 19 ≤ a) → τ a = σ a) → qx_T τ 14 M → ∃ σ', gr (X3_find_s 24) (nI c, τ) = some (qb (qfs (fun c => qlg M c 0 []) n c).isSome, σ') ∧ (∀ a, (a < 7 ∨ (10 < a ∧ a < 14) ∨ 19 ≤ a) → σ' a = σ a) ∧ ∀ L T, qfs (fun c => qlg M c 0 []) n c = some (L, T) → σ' 7 4 = nI L.length ∧ qz_L σ' 9 L ∧ qz_L σ' 10 T := by
      intro n
      induction n with
      | zero =>
        intro c τ hc o1 hT
        refine ⟨τ, ?_, o1, fun L T e => by cases e⟩
        rw [show c = 4 by omega, gr_eq]
        show (X3_find_k0 τ 24 (nI 4)).bind _ = _
        unfold X3_find_k0
        rw [if_pos (show (3 : Int32) < nI 4 by decide), qs]; rfl
      | succ n ih =>
        intro c τ hc o1 hT
        obtain ⟨σ2, s1, s2, s3, s4⟩ := qc_stays (M := M) (m := c) (by omega) c 0 [] 4 (g_up τ 7 4 (nI c)) (by omega) (by simp) (by omega) (qz_asc0 _) (by rw [qr_bc (σ := σ) (fun a p q => by rw [qu_a _ _ (by omega)]; exact o1 a (by omega))]; exact h) (qz_tt hT (fun a p q => qu_a _ _ (by omega))) (qu_at _ _ _ _) (fun j hj => by simp at hj)
        have s1 : X3_chooseStays 4 (g_up τ 7 4 (nI c)) 24 0 0 = some (qb (qlg M c 0 []).isSome, σ2) := s1
        have o1' : ∀ a, (a < 7 ∨ (10 < a ∧ a < 14) ∨ 19 ≤ a) → σ2 a = σ a := fun a p => by rw [s2 a (by omega) (by omega) (by omega), qu_a _ _ (by omega), o1 a p]
        have hT' : qx_T σ2 14 M := qz_tt hT (fun a p q => by rw [s2 a (by omega) (by omega) (by omega), qu_a _ _ (by omega)])
        rw [gr_eq]
        show ∃ σ', (X3_find_k0 τ 24 (nI c)).bind _ = _ ∧ _
        unfold X3_find_k0
        rw [if_neg (qk_n3 c (by omega)), ql, s1, qs, qk_s]
        show ∃ σ', Option.bind (if qb (qlg M c 0 []).isSome = 0 then _ else _) _ = _ ∧ _
        rw [qb_if]
        cases cq : qlg M c 0 [] with
        | none =>
          rw [if_neg (by decide), qs, qfs_n cq]
          exact ih (c + 1) σ2 (by omega) o1' hT'
        | some x =>
          rw [if_pos (show (some x).isSome = true from rfl), qs, qfs_s (x := x) cq]
          refine ⟨σ2, rfl, o1', fun L T e => ?_⟩
          have e2 : x = (L, T) := Option.some.inj e
          rw [e2] at cq
          have := (qlg_k c 0 [] L T (qz_asc0 _) cq).1
          refine ⟨?_, s4 L T cq⟩
          rw [s2 7 (by decide) (by decide) (by decide), qu_at, this]; simp
    exact loop 3 1 σ1 (by omega) (fun a p => by rw [t2 a (by omega), qu_a _ _ (by omega)]) t3
/-- the search leaves what both programs keep -/
theorem qz_i {σ σ' : gS} (hI : qi σ) (o : ∀ a, (a < 7 ∨ (10 < a ∧ a < 14) ∨ 19 ≤ a) → a ≠ 138 → a ≠ 139 → σ' a = σ a) : qi σ' :=
  qi_c hI (fun a p => o a (by omega) (by omega) (by omega)) (fun j _ => by rw [o 0 (by omega) (by decide) (by decide)]) (by rw [o 4 (by omega) (by decide) (by decide)]) (fun j _ => by rw [o 132 (by omega) (by decide) (by decide)])
theorem qo_leastMoves : o_leastMoves qi := by
  intro σ hI f
  have hV := qi_V hI
  obtain ⟨σ1, a1, a2, a3⟩ := qc_find (qi_R hI)
  have e133 : σ1 133 = σ 133 := a2 133 (by omega)
  obtain ⟨v, σ2, b1, b2, b3, b4, b5⟩ := qd_findRepair (σ := σ1) (by rw [e133]; exact hV)
  rw [e133] at b3 b4 b5
  have hI2 : qi σ2 := qz_i hI (fun a p q z => by rw [b2 a q z, a2 a p])
  cases c : qrp (σ 133) with
  | none =>
    rw [c] at a1
    refine ⟨1, 0, f, σ1, qth σ2 1, qL_leastMoves_1 f (σ1 := σ1) ?_, ?_, qth_8 _ _, fun q => absurd q (by decide), qth_i hI2 1⟩
    · unfold X6_leastMoves
      rw [a1, qs]; rfl
    · unfold X7_leastMoves
      rw [b1, qs, b4 c]
      show (if (0 : Int32) ≤ -1 then _ else _) = _
      rw [if_neg (by decide), qth_e, qth_1]
  | some x =>
    obtain ⟨L, T⟩ := x
    rw [c] at a1
    obtain ⟨n1, -, -⟩ := a3 L T c
    have hl : L.length < 4 := by
      obtain ⟨k, k1, k2, k3⟩ := qfs_some c
      have := (qlg_k k 0 [] L T (qz_asc0 _) k3).1
      simp at this; omega
    refine ⟨0, nI L.length, _, σ1, qth σ2 0, qL_leastMoves_r f (σ1 := σ1) (r := nI L.length) ?_, ?_, qth_8 _ _, fun _ => qup0 _ _, qth_i hI2 0⟩
    · unfold X6_leastMoves
      rw [a1, qs]
      show (if (1 : Int32) = 0 then _ else some (Sum.inr (σ1 7 4), σ1)) = _
      rw [if_neg (by decide), n1]
    · unfold X7_leastMoves
      rw [b1, qs, b5 L T c]
      show (if (0 : Int32) ≤ nI L.length then _ else _) = _
      rw [if_pos (show (0 : Int32) ≤ nI L.length from (show nI 0 ≤ nI L.length from nI_le (Nat.zero_le _) (by omega))), qth_e, qth_y]
