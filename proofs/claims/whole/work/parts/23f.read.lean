/-! ===== read ===== -/
def q3 (σ : gS) : gS := g_up (g_up (g_up σ 132 13 0) 132 14 0) 132 18 0
theorem q3_a (σ : gS) {a : Nat} (h : a ≠ 132) : q3 σ a = σ a := by
  unfold q3
  rw [qu_a _ _ h, qu_a _ _ h, qu_a _ _ h]
theorem q3_j (σ : gS) {j : Nat} (h1 : j ≠ 13) (h2 : j ≠ 14) (h3 : j ≠ 18) : q3 σ 132 j = σ 132 j := by
  unfold q3
  rw [qu_j _ _ h3, qu_j _ _ h2, qu_j _ _ h1]
theorem qfin_k {σ τ : gS} (w : Bool) (q : Nat) (hG : qMg (q3 σ) τ) : (∀ a, a ≠ 132 → a ≠ 135 → a ≠ 141 → a ≠ 142 → qfin τ w q a = σ a) ∧ (∀ j, j ≠ 8 → j ≠ 12 → j ≠ 13 → j ≠ 14 → j ≠ 15 → j ≠ 18 → qfin τ w q 132 j = σ 132 j) ∧ qfin τ w q 132 12 = 0 ∧ qfin τ w q 132 15 = (if w = true then nI q else σ 132 15) ∧ qfin τ w q 132 8 = qb w ∧ qfin τ w q 132 18 = τ 132 18 ∧ qfin τ w q 141 = τ 141 ∧ qfin τ w q 142 = τ 142 ∧ qcut (qfin τ w q 135) = qcut (σ 133) := by
  have o : ∀ a, a ≠ 132 → a ≠ 135 → qfin τ w q a = τ a := fun a p r => by
    unfold qfin
    rw [qks_a _ r, qu_a _ _ p, qu_a _ _ p, qu_a _ _ p]
  have o2 : ∀ j, j ≠ 8 → j ≠ 12 → j ≠ 15 → qfin τ w q 132 j = τ 132 j := fun j p r z => by
    unfold qfin
    rw [qks_a _ (by decide), qu_j _ _ p, qu_j _ _ z, qu_j _ _ r]
  refine ⟨fun a p r s t => by rw [o a p r, hG.1 a p s t, q3_a σ p], fun j a b c d e f => by rw [o2 j a b e, hG.2 j c d f, q3_j σ c d f], ?_, ?_, ?_, o2 18 (by decide) (by decide) (by decide), o 141 (by decide) (by decide), o 142 (by decide) (by decide), ?_⟩
  · unfold qfin
    rw [qks_a _ (by decide), qu_j _ _ (by decide), qu_j _ _ (by decide), qu_at]
  · unfold qfin
    rw [qks_a _ (by decide), qu_j _ _ (by decide), qu_at, hG.2 15 (by decide) (by decide) (by decide), q3_j σ (by decide) (by decide) (by decide)]
  · unfold qfin
    rw [qks_a _ (by decide), qu_at]
  · unfold qfin
    rw [qks_cut, qu_a _ _ (by decide), qu_a _ _ (by decide), qu_a _ _ (by decide), hG.1 133 (by decide) (by decide) (by decide), q3_a σ (by decide)]
theorem q3_S {g : Nat → Nat} {L : Nat} {σ : gS} (hL : L ≤ 60) (hg : ∀ p, p < L → g p < 127) (h12 : σ 132 12 = nI L) (h140 : ∀ p, p < L → σ 140 p = nI (g p)) : qMS g L (q3 σ) (false, 0) ∧ q3 σ 132 18 = nI 0 := by
  refine ⟨⟨hL, hg, by rw [q3_j σ (by decide) (by decide) (by decide)]; exact h12, fun p hp => by rw [q3_a σ (by decide)]; exact h140 p hp, ?_, ?_, Nat.zero_le _⟩, qu_at _ _ _ _⟩
  · unfold q3
    rw [qu_j _ _ (by decide), qu_j _ _ (by decide), qu_at]; rfl
  · unfold q3
    rw [qu_j _ _ (by decide), qu_at]; rfl
/-- a wrong text: the second program's end -/
theorem qm_wend {τ : gS} {q : Nat} : gr X7_read_s (1, 0, qfin τ true q) = some (0, qfin τ true q) := by
  have h8 : qfin τ true q 132 8 = 1 := by
    unfold qfin
    rw [qks_a _ (by decide), qu_at]; rfl
  rw [gr_eq]
  show (X7_read_k1 (qfin τ true q) 0).bind _ = _
  unfold X7_read_k1
  rw [h8, if_neg (show ¬ (1 : Int32) ≤ 0 by decide), if_neg (show ¬ (1 : Int32) = 0 by decide)]
  by_cases c : qfin τ true q 132 18 ≤ 0
  · rw [if_pos c, qs]
  · rw [if_neg c, qs]
theorem qi_wend {σ σc τ : gS} {q : Nat} (hI : qi σ) (o : ∀ a, a ≠ 0 → a ≠ 4 → a ≠ 6 → σc a = σ a) (o0 : ∀ j, j ≠ 10 → σc 0 j = σ 0 j) (h10 : σc 0 10 = nI q) (h43 : σc 4 3 = 0) (hG : qMg (q3 σc) τ) : qi (qfin τ true q) := by
  obtain ⟨a1, a2, a3, a4, -⟩ := hI
  obtain ⟨k1, k2, k3, k4, k5, k6, k7, k8, k9⟩ := qfin_k (σ := σc) true q hG
  have e : ∀ a, a ≠ 0 → a ≠ 4 → a ≠ 6 → a ≠ 132 → a ≠ 135 → a ≠ 141 → a ≠ 142 → qfin τ true q a = σ a := fun a p0 p4 p6 p1 p2 p3 p5 => by rw [k1 a p1 p2 p3 p5, o a p0 p4 p6]
  have e0 : ∀ j, j ≠ 10 → qfin τ true q 0 j = σ 0 j := fun j p => by rw [k1 0 (by decide) (by decide) (by decide) (by decide), o0 j p]
  have e2 : ∀ j, j ≠ 8 → j ≠ 12 → j ≠ 13 → j ≠ 14 → j ≠ 15 → j ≠ 18 → qfin τ true q 132 j = σ 132 j := fun j p1 p2 p3 p4 p5 p6 => by rw [k2 j p1 p2 p3 p4 p5 p6, o 132 (by decide) (by decide) (by decide)]
  refine ⟨qi_1c a1 (fun a p r => e a (by omega) (by omega) (by omega) (by omega) (by omega) (by omega) (by omega)) (e 133 (by decide) (by decide) (by decide) (by decide) (by decide) (by decide) (by decide)), qi_2c a2 (fun a p r => e a (by omega) (by omega) (by omega) (by omega) (by omega) (by omega) (by omega)) (e 2 (by decide) (by decide) (by decide) (by decide) (by decide) (by decide) (by decide)) (e2 6 (by decide) (by decide) (by decide) (by decide) (by decide) (by decide)) (e 137 (by decide) (by decide) (by decide) (by decide) (by decide) (by decide) (by decide)), qi_3c a3 (e0 8 (by decide)) (e2 4 (by decide) (by decide) (by decide) (by decide) (by decide) (by decide)) (fun a p r => e a (by omega) (by omega) (by omega) (by omega) (by omega) (by omega) (by omega)) (e 136 (by decide) (by decide) (by decide) (by decide) (by decide) (by decide) (by decide)), ⟨?_, ?_⟩, ⟨0, Nat.zero_le _, ?_, k3, fun i hi => by omega⟩⟩
  · rw [e0 9 (by decide), e2 7 (by decide) (by decide) (by decide) (by decide) (by decide) (by decide)]; exact a4.1
  · rw [k1 0 (by decide) (by decide) (by decide) (by decide), k4, if_pos rfl]; exact h10
  · rw [k1 4 (by decide) (by decide) (by decide) (by decide)]; exact h43
theorem X7_read_3 (σ : gS) : X7_read σ = (X7_readEntry (q3 σ)).bind (fun σ5 => gr X7_read_s (0, 0, σ5)) := rfl
theorem qo_read : o_read qi := by
  intro σ hI f
  have hI0 := hI
  obtain ⟨a1, a2, a3, a4, ⟨L, l1, l2, l3, l4⟩⟩ := hI
  obtain ⟨g, hgd⟩ : ∃ g : Nat → Nat, g = fun p => (σ 5 p).toNatClampNeg := ⟨_, rfl⟩
  have hgk : ∀ p, p < L → g p < 127 ∧ σ 5 p = nI (g p) ∧ σ 140 p = nI (g p) := by
    intro p hp
    obtain ⟨e1, ch, h1, h2⟩ := l4 p hp
    have e : g p = ch := by
      rw [hgd]
      show (σ 5 p).toNatClampNeg = ch
      rw [h2, qk_c (by omega)]
    rw [e]
    exact ⟨h1, h2, by rw [← e1]; exact h2⟩
  have hg : ∀ p, p < L → g p < 127 := fun p hp => (hgk p hp).1
  have hT : qTx g L σ := ⟨l1, hg, l2, fun p hp => (hgk p hp).2.1⟩
  by_cases c0 : L = 0
  · subst c0
    -- the empty text
    obtain ⟨σc, ec⟩ : ∃ σc, σc = g_up (g_up (g_up σ 4 4 0) 0 10 0) 4 3 0 := ⟨_, rfl⟩
    have o : ∀ a, a ≠ 0 → a ≠ 4 → a ≠ 6 → σc a = σ a := fun a p r _ => by rw [ec, qu_a _ _ r, qu_a _ _ p, qu_a _ _ r]
    obtain ⟨s1, s2⟩ := q3_S (g := g) (L := 0) (σ := σc) l1 hg (by rw [o 132 (by decide) (by decide) (by decide)]; exact l3) (fun p hp => by omega)
    obtain ⟨τ1, r1, r2⟩ := qm_entry0 s1 s2
    refine ⟨1, 0, f, σc, qfin τ1 true 0, qL_read_1 f ?_, ?_, (qfin_k (σ := σc) true 0 r2.2.1).2.2.2.2.1, fun q => absurd q (by decide), qi_wend hI0 o (fun j p => by rw [ec, qu_a _ _ (by decide), qu_j _ _ p, qu_a _ _ (by decide)]) (by rw [ec, qu_a _ _ (by decide), qu_at]; rfl) (by rw [ec, qu_at]) r2.2.1⟩
    · unfold X6_read X5_wrongPosition X5_goToStart X5_makeEmpty
      rw [ql, qs, qu_j σ _ (show (3 : Nat) ≠ 4 by decide), l2, if_pos (show nI 0 = 0 from rfl), qs, if_neg (show ¬ (0 : Int32) < 0 by decide), ql, ql, qs, ec]
    · rw [X7_read_3, r1, qs, gr_eq]
      show (X7_read_k0 τ1).bind _ = _
      rw [qm_fin (w := true) (q := 0) r2.1 (Or.inl rfl), qs]
      exact qm_wend
  · obtain ⟨e, e1, e2, e3, e4⟩ := qP_end (g := g) (L := L) (by omega) l1
    obtain ⟨σ1, w1, w2, w3⟩ := qt_wrong (by omega) hT e1 e2 e3 e4
    rcases e4 with w | ⟨w, wl⟩
    · -- a wrong text
      rw [if_pos w] at w1
      have hq : qP g L (e + 1) ≤ L := (qE_ge g L (qP g L e) (e3 e (Nat.le_refl e))).2.1
      obtain ⟨σc, ec⟩ : ∃ σc, σc = g_up (g_up σ1 0 10 (nI (qP g L (e + 1)))) 4 3 0 := ⟨_, rfl⟩
      have o : ∀ a, a ≠ 0 → a ≠ 4 → a ≠ 6 → σc a = σ a := fun a p r s => by rw [ec, qu_a _ _ r, qu_a _ _ p, w2 a r s]
      obtain ⟨s1, s2⟩ := q3_S (g := g) (L := L) (σ := σc) l1 hg (by rw [o 132 (by decide) (by decide) (by decide)]; exact l3) (fun p hp => by rw [o 140 (by decide) (by decide) (by decide)]; exact (hgk p hp).2.2)
      obtain ⟨τ1, r1, r2, r3, r4⟩ := qm_pass s1 s2 e1 e2 e3 (Or.inl w)
      rw [w] at r1
      refine ⟨1, 0, f, σc, qfin τ1 true (qP g L (e + 1)), qL_read_1 f ?_, ?_, (qfin_k (σ := σc) true (qP g L (e + 1)) r2).2.2.2.2.1, fun q => absurd q (by decide), qi_wend hI0 o (fun j p => by rw [ec, qu_a _ _ (by decide), qu_j _ _ p, w2 0 (by decide) (by decide)]) (by rw [ec, qu_a _ _ (by decide), qu_at]) (by rw [ec, qu_at]) r2⟩
      · unfold X6_read X5_makeEmpty
        rw [w1, qs]
        show (if nI (qP g L (e + 1)) < 0 then _ else _) = _
        rw [if_neg (nI_pos (by omega)), ql, ql, qs, ec]
      · rw [X7_read_3, r1]
        exact qm_wend
    · -- the entries are done
      rw [if_neg (by rw [w]; decide)] at w1
      obtain ⟨ms, c, hC, hM⟩ := a2
      obtain ⟨σ0, es⟩ : ∃ σ0, σ0 = g_up (qy σ1 36 24) 4 4 0 := ⟨_, rfl⟩
      have o : ∀ a, a ≠ 4 → a ≠ 6 → (a < 36 ∨ 48 ≤ a) → σ0 a = σ a := fun a p r q => by rw [es, qu_a _ _ p, qy_o σ1 (by omega), w2 a p r]
      have o43 : σ0 4 3 = nI L := by rw [es, qu_j _ _ (by decide), qy_o σ1 (by decide), w3]; exact l2
      have hR1 : qr_R (qr_b σ1 24) (σ 133) := by rw [qr_bc (σ := σ) (fun a p q => w2 a (by omega) (by omega))]; exact a1.1
      have hR0 : qr_R (qr_b σ0 24) (σ 133) := by rw [qr_bc (σ := σ) (fun a p q => o a (by omega) (by omega) (by omega))]; exact a1.1
      have hR36 : qr_R (qr_b σ0 36) (σ 133) := by
        rw [qr_bc (σ := qy σ1 36 24) (fun a p q => by rw [es, qu_a _ _ (by omega)])]
        exact qy_R (by decide) hR1
      have hC0 : qh_C σ0 ms c := qh_Cc hC (fun a p q => o a (by omega) (by omega) (by omega)) (o 2 (by decide) (by decide) (by decide))
      have hT0 : qTx g L σ0 := qTx_c hT (by rw [o43]; exact l2.symm) (o 5 (by decide) (by decide) (by decide))
      have hok : ∀ j, j < e + 1 → (qE g L (qP g L j)).2.1 = false ∧ qP g L j < L := fun j hj => ⟨by
        by_cases q : j = e
        · rw [q]; exact w
        · exact e2 j (by omega), e3 j (by omega)⟩
      have go : ∀ σc : gS, (∀ a, 132 ≤ a → σc a = σ a) → ∃ τ1 σ' τ', qMg (q3 σc) τ1 ∧ qSim σ0 σ' (qfin τ1 false (qP g L (e + 1))) τ' ∧ ((gr X6_read_s (0, 1, σ0) = some (.inr (nI (e + 1)), σ') ∧ X7_read σc = some (nI (e + 1), τ') ∧ τ' 132 8 = 0 ∧ qr_R (qr_b σ' 24) (τ' 133) ∧ qcut (τ' 133) = τ' 133 ∧ qh_C σ' (qps ms c (σ 133)) (qpc c) ∧ qh_M τ' (qps ms c (σ 133)) (qpc c))
          ∨ (gr X6_read_s (0, 1, σ0) = some (.inl "java/lang/IllegalStateException", σ') ∧ X7_read σc = some (0, τ') ∧ τ' 132 8 = 2 ∧ τ' 133 = σ 133 ∧ (∀ a, (a = 2 ∨ (24 ≤ a ∧ a < 36) ∨ 60 ≤ a) → σ' a = σ0 a) ∧ τ' 132 6 = (qfin τ1 false (qP g L (e + 1))) 132 6 ∧ τ' 137 = (qfin τ1 false (qP g L (e + 1))) 137)) := by
        intro σc hc
        obtain ⟨s1, s2⟩ := q3_S (g := g) (L := L) (σ := σc) l1 hg (by rw [hc 132 (by decide)]; exact l3) (fun p hp => by rw [hc 140 (by decide)]; exact (hgk p hp).2.2)
        obtain ⟨τ1, r1, r2, r3, r4⟩ := qm_pass s1 s2 e1 e2 e3 (Or.inr ⟨w, wl⟩)
        rw [w] at r1
        obtain ⟨k1, k2, k3, k4, k5, k6, k7, k8, k9⟩ := qfin_k (σ := σc) false (qP g L (e + 1)) r2
        have e133 : qfin τ1 false (qP g L (e + 1)) 133 = σ 133 := by rw [k1 133 (by decide) (by decide) (by decide) (by decide), hc 133 (by decide)]
        obtain ⟨σ', τ', z1, z2⟩ := q_sim (g := g) (L := L) (σ0 := σ0) (τ0 := qfin τ1 false (qP g L (e + 1))) (N := e + 1) (M := σ 133) (ms := ms) (c := c) hC0
          (qh_Mc hM (by rw [k2 6 (by decide) (by decide) (by decide) (by decide) (by decide) (by decide), hc 132 (by decide)]) (by rw [k1 137 (by decide) (by decide) (by decide) (by decide), hc 137 (by decide)]))
          hR0 hT0 (by omega) hok wl (by rw [k6]; exact r3) (fun j hj => by
            obtain ⟨x1, x2⟩ := r4 j (by omega)
            exact ⟨by rw [k7]; exact x1, fun v hv => by rw [k8]; exact x2 (hok j hj).1 v hv⟩) (by rw [k9, hc 133 (by decide)]; exact a1.2)
          (e + 1) 0 σ0 (qfin τ1 false (qP g L (e + 1))) (by omega) (fun _ _ _ _ _ => rfl) (fun _ _ => rfl) o43 (by rw [es, qu_at]; rfl) (by rw [e133]; exact hR36) (by rw [e133]; exact a1.2) (by rw [o 0 (by decide) (by decide) (by decide), k2 7 (by decide) (by decide) (by decide) (by decide) (by decide) (by decide), hc 132 (by decide)]; exact a4.1) (fun _ _ _ => rfl) (fun _ _ _ => rfl) k5
        have eM : X7_read σc = gr X7_read_s (1, nI 0, qfin τ1 false (qP g L (e + 1))) := by rw [X7_read_3, r1]; rfl
        rw [eM]
        exact ⟨τ1, σ', τ', r2, z1, z2⟩
      obtain ⟨τa, σc, τb, v1, v2, v3⟩ := go σ (fun _ _ => rfl)
      have hc : ∀ a, 132 ≤ a → σc a = σ a := fun a p => by rw [v2.1 a (by omega) (by omega) (by omega) (by omega) (by omega), o a (by omega) (by omega) (by omega)]
      obtain ⟨τ1, σ', τ', y1, y2, y3⟩ := go σc hc
      have eX : X6_read σ = gr X6_read_s (0, 1, σ0) := by
        unfold X6_read X5_goToStart
        rw [w1, qs]
        show (if (-1 : Int32) < 0 then _ else _) = _
        rw [if_pos (by decide), qy_eq, qs, ql, qs, ← es]
      have hsame : σ' = σc := by
        rcases v3 with v3 | v3 <;> rcases y3 with y3 | y3
        · have h := v3.1.symm.trans y3.1
          exact (congrArg Prod.snd (Option.some.inj h)).symm
        · have h := v3.1.symm.trans y3.1
          have h2 := congrArg Prod.fst (Option.some.inj h)
          cases h2
        · have h := v3.1.symm.trans y3.1
          have h2 := congrArg Prod.fst (Option.some.inj h)
          cases h2
        · have h := v3.1.symm.trans y3.1
          exact (congrArg Prod.snd (Option.some.inj h)).symm
      rw [hsame] at y2 y3
      obtain ⟨k1, k2, k3, k4, k5, k6, k7, k8, k9⟩ := qfin_k (σ := σc) false (qP g L (e + 1)) y1
      obtain ⟨f1, f2, f3, f4, f5, f6⟩ := y2
      have t : ∀ a, a ≠ 132 → a ≠ 133 → a ≠ 135 → a ≠ 137 → a ≠ 141 → a ≠ 142 → τ' a = σc a := fun a p1 p2 p3 p4 p5 p6 => by rw [f4 a p1 p2 p4, k1 a p1 p3 p5 p6]
      have t2 : ∀ j, j ≠ 6 → j ≠ 7 → j ≠ 8 → j ≠ 12 → j ≠ 13 → j ≠ 14 → j ≠ 15 → j ≠ 18 → τ' 132 j = σ 132 j := fun j p1 p2 p3 p4 p5 p6 p7 p8 => by rw [f5 j p1 p2 p3, k2 j p3 p4 p5 p6 p7 p8, hc 132 (by decide)]
      have u : ∀ a, a ≠ 0 → a ≠ 2 → a ≠ 4 → a ≠ 6 → (a < 24 ∨ (48 ≤ a ∧ a < 60) ∨ 132 ≤ a) → σc a = σ a := fun a p0 p2 p4 p6 q => by rw [f1 a p0 p2 p4 p6 q, o a p4 p6 (by omega)]
      have u0 : ∀ j, j ≠ 9 → σc 0 j = σ 0 j := fun j p => by rw [f2 j p, o 0 (by decide) (by decide) (by decide)]
      have i3 : qi_3 τ' := qi_3c a3 (by rw [t 0 (by decide) (by decide) (by decide) (by decide) (by decide) (by decide), u0 8 (by decide)]) (t2 4 (by decide) (by decide) (by decide) (by decide) (by decide) (by decide) (by decide) (by decide)) (fun a p q => by rw [t a (by omega) (by omega) (by omega) (by omega) (by omega) (by omega), u a (by omega) (by omega) (by omega) (by omega) (by omega)]) (by rw [t 136 (by decide) (by decide) (by decide) (by decide) (by decide) (by decide), hc 136 (by decide)])
      have i4 : qi_4 τ' := by
        refine ⟨?_, ?_⟩
        · rw [t 0 (by decide) (by decide) (by decide) (by decide) (by decide) (by decide)]; exact f6
        · rw [t 0 (by decide) (by decide) (by decide) (by decide) (by decide) (by decide), u0 10 (by decide), f5 15 (by decide) (by decide) (by decide), k4, if_neg (by decide), hc 132 (by decide)]; exact a4.2
      have i5 : qi_5 τ' := ⟨0, Nat.zero_le _, by rw [t 4 (by decide) (by decide) (by decide) (by decide) (by decide) (by decide)]; exact f3, by rw [f5 12 (by decide) (by decide) (by decide)]; exact k3, fun i hi => by omega⟩
      have tb : qr_b τ' 24 = qr_b σc 24 := qr_bc (fun a p q => t a (by omega) (by omega) (by omega) (by omega) (by omega) (by omega))
      rcases y3 with ⟨z1, z2, z3, z4, z5, z6, z7⟩ | ⟨z1, z2, z3, z4, z5, z6, z7⟩
      · refine ⟨0, nI (e + 1), _, σc, τ', qL_read_r f (r := nI (e + 1)) (eX.trans z1), z2, z3, fun _ => qup0 _ _, ⟨⟨by rw [tb]; exact z4, z5⟩, ⟨_, _, qh_Cc z6 (fun a p q => t a (by omega) (by omega) (by omega) (by omega) (by omega) (by omega)) (t 2 (by decide) (by decide) (by decide) (by decide) (by decide) (by decide)), z7⟩, i3, i4, i5⟩⟩
      · refine ⟨2, 0, f, σc, τ', qL_read_2 f (eX.trans z1), z2, z3, fun q => absurd q (by decide), ⟨⟨?_, by rw [z4]; exact a1.2⟩, ⟨ms, c, qh_Cc hC0 (fun a p q => by rw [t a (by omega) (by omega) (by omega) (by omega) (by omega) (by omega), z5 a (by omega)]) (by rw [t 2 (by decide) (by decide) (by decide) (by decide) (by decide) (by decide), z5 2 (by omega)]), qh_Mc hM ?_ ?_⟩, i3, i4, i5⟩⟩
        · rw [tb, z4, qr_bc (σ := σ0) (fun a p q => z5 a (by omega))]; exact hR0
        · rw [z6, k2 6 (by decide) (by decide) (by decide) (by decide) (by decide) (by decide), hc 132 (by decide)]
        · rw [z7, k1 137 (by decide) (by decide) (by decide) (by decide), hc 137 (by decide)]
