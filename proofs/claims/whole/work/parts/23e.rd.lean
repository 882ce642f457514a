/-! ===== a text read: the passes ===== -/
section RD
variable {g : Nat → Nat} {L : Nat}
def qP (g : Nat → Nat) (L : Nat) : Nat → Nat
  | 0 => 0
  | i + 1 => (qE g L (qP g L i)).2.2
theorem qP_end (h0 : 0 < L) (hL : L ≤ 60) : ∃ e, e < 60 ∧ (∀ j, j < e → (qE g L (qP g L j)).2.1 = false) ∧ (∀ j, j ≤ e → qP g L j < L) ∧ ((qE g L (qP g L e)).2.1 = true ∨ ((qE g L (qP g L e)).2.1 = false ∧ qP g L (e + 1) = L)) := by
  have key : ∀ n, n ≤ 60 → (∀ j, j < n → ((qE g L (qP g L j)).2.1 || decide (L ≤ qP g L (j + 1))) = false) → n ≤ qP g L n ∧ (∀ j, j ≤ n → qP g L j < L) ∧ ∀ j, j < n → (qE g L (qP g L j)).2.1 = false := by
    intro n
    induction n with
    | zero =>
      intro _ _
      exact ⟨Nat.le_refl _, fun j hj => by rw [show j = 0 by omega]; exact h0, fun j hj => by omega⟩
    | succ n ih =>
      intro hn h
      obtain ⟨i1, i2, i3⟩ := ih (by omega) (fun j hj => h j (by omega))
      have hb := h n (by omega)
      simp only [Bool.or_eq_false_iff, decide_eq_false_iff_not] at hb
      obtain ⟨g1, g2, g3⟩ := qE_ge g L (qP g L n) (i2 n (Nat.le_refl n))
      have e : qP g L (n + 1) = (qE g L (qP g L n)).2.2 := rfl
      have g4 := g3 hb.1
      refine ⟨by omega, fun j hj => ?_, fun j hj => ?_⟩
      · by_cases q : j = n + 1
        · rw [q]; omega
        · exact i2 j (by omega)
      · by_cases q : j = n
        · rw [q]; exact hb.1
        · exact i3 j (by omega)
  cases e : qfi (fun j => (qE g L (qP g L j)).2.1 || decide (L ≤ qP g L (j + 1))) 60 0 with
  | none =>
    exfalso
    obtain ⟨i1, i2, -⟩ := key 60 (Nat.le_refl _) (fun j hj => qfi_none e j (Nat.zero_le _) (by omega))
    have := i2 60 (Nat.le_refl _)
    omega
  | some x =>
    obtain ⟨-, x1, x2, x3⟩ := qfi_some e
    obtain ⟨i1, i2, i3⟩ := key x (by omega) (fun j hj => x3 j (Nat.zero_le _) hj)
    refine ⟨x, by omega, i3, i2, ?_⟩
    cases w : (qE g L (qP g L x)).2.1 with
    | true => exact Or.inl rfl
    | false =>
      refine Or.inr ⟨rfl, ?_⟩
      have x2 : ((qE g L (qP g L x)).2.1 || decide (L ≤ qP g L (x + 1))) = true := x2
      rw [w, Bool.false_or, decide_eq_true_eq] at x2
      have : qP g L (x + 1) ≤ L := (qE_ge g L (qP g L x) (i2 x (Nat.le_refl x))).2.1
      omega
/-! the first program, first pass -/
theorem qt_wrong {σ : gS} {e : Nat} (h0 : 0 < L) (hT : qTx g L σ) (he : e < 60) (hok : ∀ j, j < e → (qE g L (qP g L j)).2.1 = false) (hlt : ∀ j, j ≤ e → qP g L j < L) (hend : (qE g L (qP g L e)).2.1 = true ∨ ((qE g L (qP g L e)).2.1 = false ∧ qP g L (e + 1) = L)) :
    ∃ σ', X5_wrongPosition σ = some (if (qE g L (qP g L e)).2.1 = true then nI (qP g L (e + 1)) else -1, σ') ∧ (∀ a, a ≠ 4 → a ≠ 6 → σ' a = σ a) ∧ σ' 4 3 = σ 4 3 := by
  have hL := hT.1
  have loop : ∀ n i (τ : gS), i + n = e → (∀ a, a ≠ 4 → a ≠ 6 → τ a = σ a) → τ 4 3 = σ 4 3 → τ 4 4 = nI (qP g L i) → ∃ σ', gr X5_wrongPosition_s (nI i, τ) = some (if (qE g L (qP g L e)).2.1 = true then nI (qP g L (e + 1)) else -1, σ') ∧ (∀ a, a ≠ 4 → a ≠ 6 → σ' a = σ a) ∧ σ' 4 3 = σ 4 3 := by
    intro n
    induction n with
    | zero =>
      intro i τ hi o1 o2 h4
      have ei : i = e := by omega
      subst ei
      have hTt : qTx g L τ := qTx_c hT o2 (o1 5 (by decide) (by decide))
      have e3t : τ 4 3 = nI L := o2.trans hT.2.2.1
      obtain ⟨σ1, s1, s2, s3, s4, s5, s6⟩ := qt_entry hTt (hlt i (Nat.le_refl i)) h4
      have hlti := hlt i (Nat.le_refl i)
      rw [gr_eq]
      show ∃ σ', (X5_wrongPosition_k0 τ (nI i)).bind _ = _ ∧ _
      unfold X5_wrongPosition_k0
      rw [if_neg (show ¬ (60 : Int32) ≤ nI i from nI_ge (b := 60) he (by decide)), e3t, h4, if_neg (nI_ge hlti (by omega)), s1, qs, qb_if]
      rcases hend with w | ⟨w, wl⟩
      · rw [w, if_neg (show ¬ (!true) = true by decide), qs, if_pos rfl]
        exact ⟨σ1, (show some (σ1 4 4, σ1) = some (nI (qP g L (i + 1)), σ1) by rw [show σ1 4 4 = nI (qP g L (i + 1)) from s4]), fun a p q => by rw [s2 a p q, o1 a p q], by rw [s3, o2]⟩
      · have s4 : σ1 4 4 = nI (qP g L (i + 1)) := s4
        rw [w, if_pos (show (!false) = true from rfl), qs, if_neg (show ¬ false = true by decide), qk_s]
        refine ⟨σ1, ?_, fun a p q => by rw [s2 a p q, o1 a p q], by rw [s3, o2]⟩
        show gr X5_wrongPosition_s (nI (i + 1), σ1) = _
        rw [gr_eq]
        show (X5_wrongPosition_k0 σ1 (nI (i + 1))).bind _ = _
        unfold X5_wrongPosition_k0
        by_cases c : (60 : Int32) ≤ nI (i + 1)
        · rw [if_pos c, qs]
        · rw [if_neg c, s3, e3t, s4, wl, if_pos (qk_end (by omega)), qs]
    | succ n ih =>
      intro i τ hi o1 o2 h4
      have hTt : qTx g L τ := qTx_c hT o2 (o1 5 (by decide) (by decide))
      have e3t : τ 4 3 = nI L := o2.trans hT.2.2.1
      have hlti := hlt i (by omega)
      obtain ⟨σ1, s1, s2, s3, s4, s5, s6⟩ := qt_entry hTt hlti h4
      rw [gr_eq]
      show ∃ σ', (X5_wrongPosition_k0 τ (nI i)).bind _ = _ ∧ _
      unfold X5_wrongPosition_k0
      rw [if_neg (show ¬ (60 : Int32) ≤ nI i from nI_ge (b := 60) (by omega) (by decide)), e3t, h4, if_neg (nI_ge hlti (by omega)), s1, qs, qb_if, hok i (by omega), if_pos (show (!false) = true from rfl), qs, qk_s]
      exact ih (i + 1) σ1 (by omega) (fun a p q => by rw [s2 a p q, o1 a p q]) (by rw [s3, o2]) s4
  unfold X5_wrongPosition X5_goToStart
  rw [ql, qs, qu_j σ _ (show (3 : Nat) ≠ 4 by decide), hT.2.2.1, if_neg (fun q => by have := (qk_eq (a := L) (b := 0) (by omega) (by decide)).mp q; omega)]
  obtain ⟨σ', k1, k2, k3⟩ := loop e 0 (g_up σ 4 4 0) (by omega) (fun a p _ => qu_a _ _ p) (qu_j _ _ (by decide)) (qu_at _ _ _ _)
  exact ⟨σ', k1, k2, by rw [k3]; exact hT.2.2.1⟩
/-! the second program, first pass -/
def qRec (g : Nat → Nat) (L : Nat) (τ : gS) (i : Nat) : Prop := ∀ j, j ≤ i → τ 141 j = nI (g (qP g L j)) ∧ ((qE g L (qP g L j)).2.1 = false → ∀ v, v < (qE g L (qP g L j)).1.length → τ 142 (3 * j + v) = nI ((qE g L (qP g L j)).1.getD v 0))
def qfin (τ : gS) (w : Bool) (q : Nat) : gS := qks (g_up (g_up (g_up τ 132 12 0) 132 15 (if w = true then nI q else τ 132 15)) 132 8 (qb w))
theorem qm_fin {τ : gS} {w : Bool} {q : Nat} (h : qMS g L τ (w, q)) (hq : w = true ∨ L ≤ q) : X7_read_k0 τ = some (.inl (1, 0, qfin τ w q)) := by
  obtain ⟨hL, hg, h1, h2, h3, h4, h5⟩ := h
  have a14 : (g_up τ 132 12 0) 132 14 = qb w := by rw [qu_j _ _ (by decide)]; exact h4
  have b14 : ∀ v, (g_up (g_up τ 132 12 0) 132 15 v) 132 14 = qb w := fun v => by rw [qu_j _ _ (by decide)]; exact a14
  have a15 : (g_up τ 132 12 0) 132 15 = τ 132 15 := qu_j _ _ (by decide)
  have a13 : (g_up τ 132 12 0) 132 13 = nI q := by rw [qu_j _ _ (by decide)]; exact h3
  unfold X7_read_k0
  rw [h4]
  cases w with
  | true =>
    rw [if_neg (show ¬ qb (true, q).1 = 0 from (show ¬ qb true = 0 by decide)), ql, a14, if_neg (show ¬ qb true = 0 by decide), a13, ql, b14, if_neg (show ¬ qb true = 0 by decide), ql, qks_eq, qs]
    rfl
  | false =>
    have hq : L ≤ q := hq.elim (fun z => by cases z) id
    rw [if_pos (show qb (false, q).1 = 0 from rfl), h1, h3, if_pos (show nI L ≤ nI q from nI_le hq (by have : q ≤ L := h5; omega)), ql, a14, if_pos (show qb false = 0 from rfl), a15, ql, b14, if_pos (show qb false = 0 from rfl), ql, qks_eq, qs]
    rfl
theorem qm_pass {τ0 : gS} {e : Nat} (hS : qMS g L τ0 (false, 0)) (h18 : τ0 132 18 = nI 0) (he : e < 60) (hok : ∀ j, j < e → (qE g L (qP g L j)).2.1 = false) (hlt : ∀ j, j ≤ e → qP g L j < L) (hend : (qE g L (qP g L e)).2.1 = true ∨ ((qE g L (qP g L e)).2.1 = false ∧ qP g L (e + 1) = L)) :
    ∃ τ', (X7_readEntry τ0).bind (fun σ5 => gr X7_read_s (0, 0, σ5)) = gr X7_read_s (1, 0, qfin τ' (qE g L (qP g L e)).2.1 (qP g L (e + 1))) ∧ qMg τ0 τ' ∧ τ' 132 18 = nI (e + 1) ∧ qRec g L τ' e := by
  have loop : ∀ n i (τ : gS), i + n = e → qMS g L τ (qE g L (qP g L i)).2 → τ 132 18 = nI (i + 1) → qMg τ0 τ → qRec g L τ i → ∃ τ', gr X7_read_s (0, 0, τ) = gr X7_read_s (1, 0, qfin τ' (qE g L (qP g L e)).2.1 (qP g L (e + 1))) ∧ qMg τ0 τ' ∧ τ' 132 18 = nI (e + 1) ∧ qRec g L τ' e := by
    intro n
    induction n with
    | zero =>
      intro i τ hi hS h18 hG hR
      have ei : i = e := by omega
      subst ei
      refine ⟨τ, ?_, hG, h18, hR⟩
      rw [gr_eq]
      show (X7_read_k0 τ).bind _ = _
      rw [qm_fin (w := (qE g L (qP g L i)).2.1) (q := qP g L (i + 1)) hS (by
        rcases hend with w | ⟨-, w⟩
        · exact Or.inl w
        · exact Or.inr (by omega)), qs]
    | succ n ih =>
      intro i τ hi hS h18 hG hR
      have hw := hok i (by omega)
      have hlt1 := hlt (i + 1) (by omega)
      have hS1 : qMS g L τ (false, qP g L (i + 1)) := by
        have : (qE g L (qP g L i)).2 = (false, qP g L (i + 1)) := Prod.ext hw rfl
        rw [← this]; exact hS
      obtain ⟨τ1, r1, r2, r3, r4, r5, r6, r7, r8⟩ := qm_entry hS1 hlt1 (e := i + 1) (by omega) h18
      have hL := hS.1
      obtain ⟨τ', k1, k2, k3, k4⟩ := ih (i + 1) τ1 (by omega) r2 r4 (qMg_t hG r3) (fun j hj => by
        by_cases ej : j = i + 1
        · subst ej
          exact ⟨r5, r8⟩
        · obtain ⟨x1, x2⟩ := hR j (by omega)
          refine ⟨by rw [r6 j ej]; exact x1, fun w v hv => ?_⟩
          have := (qE_n w).1
          rw [r7 _ (by omega)]
          exact x2 w v hv)
      refine ⟨τ', ?_, k2, k3, k4⟩
      rw [gr_eq]
      show (X7_read_k0 τ).bind _ = _
      unfold X7_read_k0
      rw [hS1.2.2.2.2.2.1, if_pos (show qb (false, qP g L (i + 1)).1 = 0 from rfl), hS1.2.2.1, hS1.2.2.2.2.1, if_neg (show ¬ nI L ≤ nI (false, qP g L (i + 1)).2 from nI_ge hlt1 (by omega)), r1, qs, qs]
      exact k1
  obtain ⟨τ1, r1, r2, r3, r4, r5, r6, r7, r8⟩ := qm_entry hS (hlt 0 (Nat.zero_le _)) (e := 0) (by decide) h18
  rw [r1, qs]
  exact loop e 0 τ1 (by omega) r2 r4 r3 (fun j hj => by
    rw [show j = 0 by omega]
    exact ⟨r5, r8⟩)
/-! both programs, second pass -/
def qSim (σ0 σ' τ0 τ' : gS) : Prop := (∀ a, a ≠ 0 → a ≠ 2 → a ≠ 4 → a ≠ 6 → (a < 24 ∨ (48 ≤ a ∧ a < 60) ∨ 132 ≤ a) → σ' a = σ0 a) ∧ (∀ j, j ≠ 9 → σ' 0 j = σ0 0 j) ∧ σ' 4 3 = 0 ∧ (∀ a, a ≠ 132 → a ≠ 133 → a ≠ 137 → τ' a = τ0 a) ∧ (∀ j, j ≠ 6 → j ≠ 7 → j ≠ 8 → τ' 132 j = τ0 132 j) ∧ σ' 0 9 = τ' 132 7
theorem q_sim {σ0 τ0 : gS} {N : Nat} {M : Nat → Int32} {ms : Nat → Nat → Int32} {c : Nat} (hC : qh_C σ0 ms c) (hM : qh_M τ0 ms c) (hR : qr_R (qr_b σ0 24) M) (hT : qTx g L σ0) (hN : N ≤ 60) (hok : ∀ j, j < N → (qE g L (qP g L j)).2.1 = false ∧ qP g L j < L) (hend : qP g L N = L) (h18 : τ0 132 18 = nI N) (hrec : ∀ j, j < N → τ0 141 j = nI (g (qP g L j)) ∧ ∀ v, v < (qE g L (qP g L j)).1.length → τ0 142 (3 * j + v) = nI ((qE g L (qP g L j)).1.getD v 0)) (h135 : qcut (τ0 135) = M) :
    ∀ n i (σ τ : gS), i + n = N → (∀ a, a ≠ 0 → a ≠ 4 → a ≠ 6 → (a < 36 ∨ 48 ≤ a) → σ a = σ0 a) → (∀ j, j ≠ 9 → σ 0 j = σ0 0 j) → σ 4 3 = nI L → σ 4 4 = nI (qP g L i) → qr_R (qr_b σ 36) (τ 133) → qcut (τ 133) = τ 133 → σ 0 9 = τ 132 7 → (∀ a, a ≠ 132 → a ≠ 133 → τ a = τ0 a) → (∀ j, j ≠ 7 → j ≠ 8 → τ 132 j = τ0 132 j) → τ 132 8 = 0 →
    ∃ σ' τ', qSim σ0 σ' τ0 τ' ∧ ((gr X6_read_s (nI i, 1, σ) = some (.inr (nI N), σ') ∧ gr X7_read_s (1, nI i, τ) = some (nI N, τ') ∧ τ' 132 8 = 0 ∧ qr_R (qr_b σ' 24) (τ' 133) ∧ qcut (τ' 133) = τ' 133 ∧ qh_C σ' (qps ms c M) (qpc c) ∧ qh_M τ' (qps ms c M) (qpc c))
      ∨ (gr X6_read_s (nI i, 1, σ) = some (.inl "java/lang/IllegalStateException", σ') ∧ gr X7_read_s (1, nI i, τ) = some (0, τ') ∧ τ' 132 8 = 2 ∧ τ' 133 = M ∧ (∀ a, (a = 2 ∨ (24 ≤ a ∧ a < 36) ∨ 60 ≤ a) → σ' a = σ0 a) ∧ τ' 132 6 = τ0 132 6 ∧ τ' 137 = τ0 137)) := by
  have hL := hT.1
  intro n
  induction n with
  | zero =>
    intro i σ τ hi o1 o2 h3 h4 hRt hct h9 p1 p2 p8
    have ei : i = N := by omega
    subst ei
    have hCe : qh_C (g_up σ 4 3 0) ms c := qh_Cc hC (fun a p q => by rw [qu_a _ _ (by omega)]; exact o1 a (by omega) (by omega) (by omega) (by omega)) (by rw [qu_a _ _ (by decide)]; exact o1 2 (by decide) (by decide) (by decide) (by decide))
    have hRe : qr_R (qr_b (g_up σ 4 3 0) 24) M := by rw [qr_bc (σ := σ0) (fun a p q => by rw [qu_a _ _ (by omega)]; exact o1 a (by omega) (by omega) (by omega) (by omega))]; exact hR
    obtain ⟨σ1, r1, r2, r3⟩ := qc_remember hCe hRe
    have hR36 : qr_R (qr_b σ1 36) (τ 133) := by rw [qr_bc (σ := σ) (fun a p q => by rw [r2 a (by omega) (by omega), qu_a _ _ (by omega)])]; exact hRt
    have hy : qr_R (qr_b (qy σ1 24 36) 24) (τ 133) := qy_R (by decide) hR36
    have hMt : qh_M τ ms c := qh_Mc hM (p2 6 (by decide) (by decide)) (p1 137 (by decide) (by decide))
    obtain ⟨τ1, t1, t2, t3, t4⟩ := qd_change hC.1 hMt
    have e135 : qcut (τ 135) = M := by rw [p1 135 (by decide) (by decide)]; exact h135
    rw [e135] at t4
    have e133 : τ1 133 = τ 133 := t2 133 (by decide) (by decide)
    have e18 : τ1 132 18 = nI i := by rw [t3 18 (by decide), p2 18 (by decide) (by decide)]; exact h18
    have oy : ∀ a, (a < 24 ∨ 36 ≤ a) → qy σ1 24 36 a = σ1 a := fun a p => qy_o σ1 (by omega)
    have oo : ∀ a, a ≠ 2 → (a < 24 ∨ (36 ≤ a ∧ a < 60) ∨ 132 ≤ a) → qy σ1 24 36 a = (g_up σ 4 3 0) a := fun a p q => by rw [oy a (by omega), r2 a p (by omega)]
    refine ⟨qy σ1 24 36, τ1, ⟨fun a q0 q2 q4 q6 q => ?_, fun j q => ?_, ?_, fun a a1 a2 a3 => ?_, fun j j1 j2 j3 => ?_, ?_⟩, Or.inl ⟨?_, ?_, ?_, ?_, ?_, ?_, t4⟩⟩
    · rw [oo a q2 (by omega), qu_a _ _ q4]; exact o1 a q0 q4 q6 (by omega)
    · rw [oo 0 (by decide) (by decide), qu_a _ _ (by decide)]; exact o2 j q
    · rw [oo 4 (by decide) (by decide), qu_at]
    · rw [t2 a a1 a3]; exact p1 a a1 a2
    · rw [t3 j j1]; exact p2 j j2 j3
    · rw [oo 0 (by decide) (by decide), qu_a _ _ (by decide), t3 7 (by decide)]; exact h9
    · rw [gr_eq]
      show (X6_read_k0 σ (nI i) 1).bind _ = _
      unfold X6_read_k0 X5_makeEmpty
      rw [if_neg (show ¬ (1 : Int32) = 0 by decide), ql, qs, r1, qs, qy_eq, qs]
      by_cases c1 : (60 : Int32) ≤ nI i
      · rw [if_pos c1, qs]
      · rw [if_neg c1, h3, h4, hend, if_pos (qk_end (by omega)), qs]
    · rw [gr_eq]
      show (X7_read_k1 τ (nI i)).bind _ = _
      unfold X7_read_k1
      rw [p2 18 (by decide) (by decide), h18, if_pos (qk_end (by omega)), p8, if_pos (show (0 : Int32) ≤ 0 by decide), t1, qs, e18, qs]
    · rw [t3 8 (by decide)]; exact p8
    · rw [e133]; exact hy
    · rw [e133]; exact hct
    · exact qh_Cc r3 (fun a p q => oy a (by omega)) (oy 2 (by decide))
  | succ n ih =>
    intro i σ τ hi o1 o2 h3 h4 hRt hct h9 p1 p2 p8
    have hiN : i < N := by omega
    obtain ⟨w, hlt⟩ := hok i hiN
    obtain ⟨z1, z2⟩ := hrec i hiN
    obtain ⟨n1, n2, n3, n4⟩ := qE_n w
    have hTt : qTx g L σ := qTx_c hT (by rw [h3]; exact hT.2.2.1.symm) (o1 5 (by decide) (by decide) (by decide) (by decide))
    obtain ⟨σ1, s1, s2, s3, s4, s5, s6⟩ := qt_entry hTt hlt h4
    have s6 := s6 w
    have hR1 : qr_R (qr_b σ1 36) (τ 133) := by rw [qr_bc (σ := σ) (fun a p q => s2 a (by omega) (by omega))]; exact hRt
    have h91 : σ1 0 9 = τ 132 7 := by rw [s2 0 (by decide) (by decide)]; exact h9
    have m1 : τ 141 i = nI (g (qP g L i)) := by rw [p1 141 (by decide) (by decide)]; exact z1
    have m2 : ∀ v, v < (qE g L (qP g L i)).1.length → σ1 6 v = τ 142 (3 * i + v) := fun v hv => by rw [s6 v hv, p1 142 (by decide) (by decide), z2 v hv]
    obtain ⟨o, σ2, τ2, d1, d2, dd⟩ := q_doEntry hR1 hct h91 (i := i) (by omega) n2 s5 m1 (fun q => m2 0 (by have := n3 q; omega)) (fun q => m2 1 (by have := n3 q; omega)) (fun q => m2 2 (by have := n4 q; omega))
    obtain ⟨f1, f2, f3, f4, f5, f6, f7⟩ := dd
    have stepC : X6_read_k0 σ (nI i) 1 = some (.inl (nI (i + 1), qb o, σ2)) := by
      unfold X6_read_k0
      rw [if_neg (show ¬ (1 : Int32) = 0 by decide), if_neg (show ¬ (60 : Int32) ≤ nI i from nI_ge (b := 60) (by omega) (by decide)), h3, h4, if_neg (nI_ge hlt (by omega)), s1, qs, qb_if, w, if_pos (show (!false) = true from rfl), d1, qs, qb_if, qk_s]
      cases o <;> rfl
    have ob : ∀ a, a ≠ 0 → a ≠ 4 → a ≠ 6 → (a < 36 ∨ 48 ≤ a) → σ2 a = σ0 a := fun a q0 q4 q6 q => by rw [f1 a q0 q, s2 a q4 q6, o1 a q0 q4 q6 q]
    have ob0 : ∀ j, j ≠ 9 → σ2 0 j = σ0 0 j := fun j q => by rw [f2 j q, s2 0 (by decide) (by decide), o2 j q]
    have pb : ∀ a, a ≠ 132 → a ≠ 133 → τ2 a = τ0 a := fun a q0 q => by rw [f3 a q0 q, p1 a q0 q]
    have pb2 : ∀ j, j ≠ 7 → j ≠ 8 → τ2 132 j = τ0 132 j := fun j q0 q => by rw [f4 j q0, p2 j q0 q]
    have pb8 : τ2 132 8 = 0 := by rw [f4 8 (by decide)]; exact p8
    have e4 : σ2 4 = σ1 4 := f1 4 (by decide) (by decide)
    cases o with
    | true =>
      have stepM : X7_read_k1 τ (nI i) = some (.inl (1, nI (i + 1), τ2)) := by
        unfold X7_read_k1
        rw [p2 18 (by decide) (by decide), h18, if_neg (nI_ge hiN (by omega)), p8, if_pos rfl, d2, qs, if_pos (show qb (!true) = 0 from rfl), qk_s]
      obtain ⟨σ', τ', k1, k2⟩ := ih (i + 1) σ2 τ2 (by omega) ob ob0 (by rw [e4, s3]; exact h3) (by rw [e4]; exact s4) (f7 rfl) f6 f5 pb pb2 pb8
      have eC : gr X6_read_s (nI i, 1, σ) = gr X6_read_s (nI (i + 1), 1, σ2) := by
        rw [gr_eq]
        show (X6_read_k0 σ (nI i) 1).bind _ = _
        rw [stepC, qs]; rfl
      have eM : gr X7_read_s (1, nI i, τ) = gr X7_read_s (1, nI (i + 1), τ2) := by
        rw [gr_eq]
        show (X7_read_k1 τ (nI i)).bind _ = _
        rw [stepM, qs]
      rw [eC, eM]
      exact ⟨σ', τ', k1, k2⟩
    | false =>
      have e135 : τ2 135 = τ0 135 := pb 135 (by decide) (by decide)
      have ez : va_cpy (τ2 135) (τ2 133) (0 : Int32).toNatClampNeg (0 : Int32).toNatClampNeg (162 : Int32).toNatClampNeg = M := by rw [qcpy_z f6, e135]; exact h135
      have stepM : X7_read_k1 τ (nI i) = some (.inl (1, nI (i + 1), g_row (g_up τ2 132 8 2) 133 M)) := by
        unfold X7_read_k1
        rw [p2 18 (by decide) (by decide), h18, if_neg (nI_ge hiN (by omega)), p8, if_pos rfl, d2, qs, if_neg (show ¬ qb (!false) = 0 by decide), ql, ql, qk_s]
        show some (Sum.inl (1, nI (i + 1), g_row (g_up τ2 132 8 2) 133 (va_cpy ((g_up τ2 132 8 2) 135) ((g_up τ2 132 8 2) 133) (0 : Int32).toNatClampNeg (0 : Int32).toNatClampNeg (162 : Int32).toNatClampNeg))) = _
        rw [qu_a _ _ (show (135 : Nat) ≠ 132 by decide), qu_a _ _ (show (133 : Nat) ≠ 132 by decide), ez]
      have q8 : (g_row (g_up τ2 132 8 2) 133 M) 132 8 = 2 := by rw [qw_a _ _ (by decide), qu_at]
      refine ⟨g_up σ2 4 3 0, g_row (g_up τ2 132 8 2) 133 M, ⟨fun a q0 q2 q4 q6 q => by rw [qu_a _ _ q4]; exact ob a q0 q4 q6 (by omega), fun j q => by rw [qu_a _ _ (by decide)]; exact ob0 j q, qu_at _ _ _ _, fun a a1 a2 _ => by rw [qw_a _ _ a2, qu_a _ _ a1]; exact pb a a1 a2, fun j _ j2 j3 => by rw [qw_a _ _ (by decide), qu_j _ _ j3]; exact pb2 j j2 j3, by rw [qu_a _ _ (by decide), qw_a _ _ (by decide), qu_j _ _ (by decide)]; exact f5⟩, Or.inr ⟨?_, ?_, q8, qw_at _ _ _, fun a q => by rw [qu_a _ _ (by omega)]; exact ob a (by omega) (by omega) (by omega) (by omega), ?_, ?_⟩⟩
      · rw [gr_eq]
        show (X6_read_k0 σ (nI i) 1).bind _ = _
        rw [stepC, qs]
        show gr X6_read_s (nI (i + 1), 0, σ2) = _
        rw [gr_eq]
        show (X6_read_k0 σ2 (nI (i + 1)) 0).bind _ = _
        unfold X6_read_k0 X5_makeEmpty
        rw [if_pos rfl, ql, qs, qs]
      · rw [gr_eq]
        show (X7_read_k1 τ (nI i)).bind _ = _
        rw [stepM, qs]
        show gr X7_read_s (1, nI (i + 1), g_row (g_up τ2 132 8 2) 133 M) = _
        rw [gr_eq]
        show (X7_read_k1 (g_row (g_up τ2 132 8 2) 133 M) (nI (i + 1))).bind _ = _
        unfold X7_read_k1
        rw [q8, if_neg (show ¬ (2 : Int32) ≤ 0 by decide), if_neg (show ¬ (2 : Int32) = 0 by decide)]
        by_cases c1 : (g_row (g_up τ2 132 8 2) 133 M) 132 18 ≤ nI (i + 1)
        · rw [if_pos c1, qs]
        · rw [if_neg c1, qs]
      · rw [qw_a _ _ (by decide), qu_j _ _ (by decide)]; exact pb2 6 (by decide) (by decide)
      · rw [qw_a _ _ (by decide), qu_a _ _ (by decide)]; exact pb 137 (by decide) (by decide)
end RD
