/-! ===== a text read: an entry on the second program's side ===== -/
section ENS
variable {g : Nat → Nat} {L : Nat}
def qMw (g : Nat → Nat) (L : Nat) (τ τ' : gS) (S : Bool × Nat) (j : Nat) (v : Int32) : Prop := qMS g L τ' S ∧ qMg τ τ' ∧ τ' 132 18 = τ 132 18 ∧ τ' 141 = τ 141 ∧ τ' 142 j = v ∧ ∀ i, i ≠ j → τ' 142 i = τ 142 i
theorem qMw_of {τ τ1 : gS} {S : Bool × Nat} (hf : qMf τ τ1) (hS : qMS g L τ1 S) (j : Nat) (v : Int32) : qMw g L τ (g_up τ1 142 j v) S j v :=
  ⟨qMS_o hS (qu_a _ _ (by decide)) (qu_a _ _ (by decide)), qMg_t (qMg_f hf) (qMg_w τ1 j v), by rw [qu_a _ _ (by decide), hf.2 18 (by decide) (by decide)], by rw [qu_a _ _ (by decide), hf.1 141 (by decide)], qu_at _ _ _ _, fun i hi => by rw [qu_j _ _ hi, hf.1 142 (by decide)]⟩
theorem qm_k2 {τ : gS} {q e : Nat} {c : Int32} (h : qMS g L τ (false, q)) (he : e < 60) (hc : c ≠ 97) : ∃ τ', gr X7_readEntry_s (2, nI (3 * e), c, τ) = gr X7_readEntry_s (3, nI (3 * e), c, τ') ∧ qMw g L τ τ' (qnm g L 1 (false, q)).2 (3 * e) (nI (qnm g L 1 (false, q)).1) := by
  obtain ⟨τ1, a1, a2, a3⟩ := qm_number h (m := 1) (by decide) (by decide)
  have a1 : X7_number τ 1 = some (nI (qnm g L 1 (false, q)).1, τ1) := a1
  refine ⟨_, ?_, qMw_of a3 a2 (3 * e) _⟩
  rw [gr_eq]
  show (X7_readEntry_k2 τ (nI (3 * e)) c).bind _ = _
  unfold X7_readEntry_k2
  rw [h.2.2.2.2.2.1, if_pos (show qb (false, q).1 = 0 from rfl), if_neg hc, a1, qs, qg_i (show 3 * e < 180 by omega) (by decide), qk_c (by omega), ql, qs]
theorem qm_k3 {τ : gS} {S : Bool × Nat} {e : Nat} {c : Int32} (h : qMS g L τ S) (he : e < 60) (hc : c = 112 ∨ c = 108) : ∃ τ', gr X7_readEntry_s (3, nI (3 * e), c, τ) = gr X7_readEntry_s (4, nI (3 * e), c, τ') ∧ qMw g L τ τ' (qnm g L 1 (qsg g L 46 S)).2 (3 * e + 1) (nI (qnm g L 1 (qsg g L 46 S)).1) := by
  obtain ⟨τ1, a1, a2, a3⟩ := qm_behind h (c := 46) (m := 1) (by decide) (by decide) (by decide)
  have a1 : X7_behind τ 46 1 = some (nI (qnm g L 1 (qsg g L 46 S)).1, τ1) := a1
  refine ⟨_, ?_, qMw_of a3 a2 (3 * e + 1) _⟩
  rw [gr_eq]
  show (X7_readEntry_k3 τ (nI (3 * e)) c).bind _ = _
  unfold X7_readEntry_k3
  rw [a1, qk_s, qk_c (show 3 * e + 1 < 2 ^ 31 by omega)]
  rcases hc with rfl | rfl
  · rw [if_pos rfl, qs, qg_i (show 3 * e + 1 < 180 by omega) (by decide), ql, qs]
  · rw [if_neg (by decide), if_pos rfl, qs, qg_i (show 3 * e + 1 < 180 by omega) (by decide), ql, qs]
theorem qm_k3n {τ : gS} {x1 c : Int32} (h1 : c ≠ 112) (h2 : c ≠ 108) : gr X7_readEntry_s (3, x1, c, τ) = gr X7_readEntry_s (4, x1, c, τ) := by
  rw [gr_eq]
  show (X7_readEntry_k3 τ x1 c).bind _ = _
  unfold X7_readEntry_k3
  rw [if_neg h1, if_neg h2, qs]
theorem qm_k4p {τ : gS} {S : Bool × Nat} {e : Nat} (h : qMS g L τ S) (he : e < 60) : ∃ τ', gr X7_readEntry_s (4, nI (3 * e), 112, τ) = gr X7_readEntry_s (5, 0, 0, τ') ∧ qMw g L τ τ' (qnm g L 1 (qsg g L 64 S)).2 (3 * e + 2) (nI (qnm g L 1 (qsg g L 64 S)).1) := by
  obtain ⟨τ1, a1, a2, a3⟩ := qm_behind h (c := 64) (m := 1) (by decide) (by decide) (by decide)
  have a1 : X7_behind τ 64 1 = some (nI (qnm g L 1 (qsg g L 64 S)).1, τ1) := a1
  refine ⟨_, ?_, qMw_of a3 a2 (3 * e + 2) _⟩
  rw [gr_eq]
  show (X7_readEntry_k4 τ (nI (3 * e)) 112).bind _ = _
  unfold X7_readEntry_k4
  rw [if_pos rfl, a1, qs, show nI (3 * e) + (2 : Int32) = nI (3 * e + 2) from nI_add (3 * e) 2, qg_i (show 3 * e + 2 < 180 by omega) (by decide), qk_c (show 3 * e + 2 < 2 ^ 31 by omega), ql, qs]
theorem qm_k4d {τ : gS} {S : Bool × Nat} {e : Nat} (h : qMS g L τ S) (he : e < 60) : ∃ τ', gr X7_readEntry_s (4, nI (3 * e), 100, τ) = gr X7_readEntry_s (5, 0, 0, τ') ∧ qMw g L τ τ' (qnm g L 4 (qsg g L 43 S)).2 (3 * e + 1) (nI (qnm g L 4 (qsg g L 43 S)).1) := by
  obtain ⟨τ1, a1, a2, a3⟩ := qm_behind h (c := 43) (m := 4) (by decide) (by decide) (by decide)
  have a1 : X7_behind τ 43 4 = some (nI (qnm g L 4 (qsg g L 43 S)).1, τ1) := a1
  refine ⟨_, ?_, qMw_of a3 a2 (3 * e + 1) _⟩
  rw [gr_eq]
  show (X7_readEntry_k4 τ (nI (3 * e)) 100).bind _ = _
  unfold X7_readEntry_k4
  rw [if_neg (show ¬ (100 : Int32) = 112 by decide), if_pos rfl, a1, qs, qk_s, qg_i (show 3 * e + 1 < 180 by omega) (by decide), qk_c (show 3 * e + 1 < 2 ^ 31 by omega), ql, qs]
theorem qm_k4t {τ : gS} {S : Bool × Nat} {e : Nat} (h : qMS g L τ S) (he : e < 60) : ∃ τ', gr X7_readEntry_s (4, nI (3 * e), 116, τ) = gr X7_readEntry_s (5, 0, 0, τ') ∧ qMw g L τ τ' (qnm g L 4 (qsg g L 64 S)).2 (3 * e + 1) (nI (qnm g L 4 (qsg g L 64 S)).1) := by
  obtain ⟨τ1, a1, a2, a3⟩ := qm_behind h (c := 64) (m := 4) (by decide) (by decide) (by decide)
  have a1 : X7_behind τ 64 4 = some (nI (qnm g L 4 (qsg g L 64 S)).1, τ1) := a1
  refine ⟨_, ?_, qMw_of a3 a2 (3 * e + 1) _⟩
  rw [gr_eq]
  show (X7_readEntry_k4 τ (nI (3 * e)) 116).bind _ = _
  unfold X7_readEntry_k4
  rw [if_neg (show ¬ (116 : Int32) = 112 by decide), if_neg (show ¬ (116 : Int32) = 100 by decide), if_pos rfl, a1, qs, qk_s, qg_i (show 3 * e + 1 < 180 by omega) (by decide), qk_c (show 3 * e + 1 < 2 ^ 31 by omega), ql, qs]
theorem qm_k4n {τ : gS} {x1 c : Int32} (h1 : c ≠ 112) (h2 : c ≠ 100) (h3 : c ≠ 116) : gr X7_readEntry_s (4, x1, c, τ) = gr X7_readEntry_s (5, 0, 0, τ) := by
  rw [gr_eq]
  show (X7_readEntry_k4 τ x1 c).bind _ = _
  unfold X7_readEntry_k4
  rw [if_neg h1, if_neg h2, if_neg h3, qs]
/-- an entry's reading: what comes out -/
def qMe (g : Nat → Nat) (L : Nat) (τ τ' : gS) (e : Nat) (c : Int32) (R : List Nat × (Bool × Nat)) : Prop := qMS g L τ' R.2 ∧ qMg τ τ' ∧ τ' 132 18 = nI (e + 1) ∧ τ' 141 e = c ∧ (∀ j, j ≠ e → τ' 141 j = τ 141 j) ∧ (∀ j, j < 3 * e → τ' 142 j = τ 142 j) ∧ (R.2.1 = false → ∀ j, j < R.1.length → τ' 142 (3 * e + j) = nI (R.1.getD j 0))
theorem qm_unk {τ : gS} {p e : Nat} {c : Int32} (h : qMS g L τ (false, p)) (he : e < 60) (h18 : τ 132 18 = nI e) (hn : vp_nar .char c = c) (c1 : c ≠ 112) (c2 : c ≠ 108) (c3 : c ≠ 100) (c4 : c ≠ 116) (c5 : c ≠ 97) : ∃ τ', gr X7_readEntry_s (0, nI (3 * e), c, τ) = some τ' ∧ qMe g L τ τ' e c ([], (true, p)) := by
  have ez : nI p + (0 : Int32) = nI p := nI_add p 0
  have hw : qMS g L (g_up τ 141 e c) (false, p) := qMS_o h (qu_a _ _ (by decide)) (qu_a _ _ (by decide))
  obtain ⟨u1, u2⟩ := qMS_u hw true h.2.2.2.2.2.2
  have w1 : qMS g L (g_up (g_up (g_up (g_up τ 141 e c) 132 14 1) 132 13 (nI p)) 142 (3 * e) 0) (true, p) := qMS_o u1 (qu_a _ _ (by decide)) (qu_a _ _ (by decide))
  have w18 : (g_up (g_up (g_up (g_up τ 141 e c) 132 14 1) 132 13 (nI p)) 142 (3 * e) 0) 132 18 = nI e := by rw [qu_a _ _ (by decide), qu_j _ _ (by decide), qu_j _ _ (by decide), qu_a _ _ (by decide)]; exact h18
  obtain ⟨τ', k1, k2, k3, k4, k5, k6⟩ := qm_k5 w1 w18 0 0
  refine ⟨τ', ?_, k2, ?_, k4, ?_, fun j hj => ?_, fun j hj => ?_, fun q => by cases q⟩
  · rw [gr_eq]
    show (X7_readEntry_k0 τ (nI (3 * e)) c).bind _ = _
    unfold X7_readEntry_k0
    rw [h18, qg_i he (by decide), qk_c (by omega), hn, ql, if_neg c1, if_neg c2, if_neg c3, if_neg c4, if_neg c5, ql, qs]
    show gr X7_readEntry_s (1, nI (3 * e), c, g_up (g_up τ 141 e c) 132 14 1) = _
    rw [gr_eq]
    show (X7_readEntry_k1 (g_up (g_up τ 141 e c) 132 14 1) (nI (3 * e)) c).bind _ = _
    unfold X7_readEntry_k1
    rw [qu_at, if_neg (by decide), qu_j _ _ (show (13 : Nat) ≠ 14 by decide), qu_a _ _ (show (132 : Nat) ≠ 141 by decide), h.2.2.2.2.1, ql, qs]
    show gr X7_readEntry_s (2, nI (3 * e), c, g_up (g_up (g_up τ 141 e c) 132 14 1) 132 13 (nI p + 0)) = _
    rw [ez, gr_eq]
    show (X7_readEntry_k2 (g_up (g_up (g_up τ 141 e c) 132 14 1) 132 13 (nI p)) (nI (3 * e)) c).bind _ = _
    unfold X7_readEntry_k2
    rw [qu_j _ _ (show (14 : Nat) ≠ 13 by decide), qu_at, if_neg (by decide), qg_i (show 3 * e < 180 by omega) (by decide), qk_c (by omega), ql, qs]
    show gr X7_readEntry_s (3, nI (3 * e), c, g_up (g_up (g_up (g_up τ 141 e c) 132 14 1) 132 13 (nI p)) 142 (3 * e) 0) = _
    rw [qm_k3n c1 c2, qm_k4n c1 c3 c4, k1]
  · exact qMg_t ⟨fun a p q r => by rw [qu_a _ _ r, qu_a _ _ p, qu_a _ _ p, qu_a _ _ q], fun j p q r => by rw [qu_a _ _ (by decide), qu_j _ _ p, qu_j _ _ q, qu_a _ _ (by decide)]⟩ k3
  · rw [k5, qu_a _ _ (by decide), qu_a _ _ (by decide), qu_a _ _ (by decide), qu_at]
  · rw [k5, qu_a _ _ (by decide), qu_a _ _ (by decide), qu_a _ _ (by decide), qu_j _ _ hj]
  · rw [k6, qu_j _ _ (by omega), qu_a _ _ (by decide), qu_a _ _ (by decide), qu_a _ _ (by decide)]
theorem qE_of {p k : Nat} (hk : shp (nI (g p)) = k) (hl : (shl k).length ≠ 0) : qE g L p = qfold g L (shl k) ([], (false, p + 1)) := by
  unfold qE
  rw [hk, if_neg hl]
theorem qm_run {τ : gS} {p e : Nat} (h : qMS g L τ (false, p)) (hp : p < L) (he : e < 60) (h18 : τ 132 18 = nI e) : ∃ τ', gr X7_readEntry_s (0, nI (3 * e), nI (g p), τ) = some τ' ∧ qMe g L τ τ' e (nI (g p)) (qE g L p) := by
  have hgp := h.2.1 p hp
  have hn : vp_nar .char (nI (g p)) = nI (g p) := q_nar (by omega)
  by_cases c1 : nI (g p) = 112
  · have hE : qE g L p = qfold g L (shl 0) ([], (false, p + 1)) := qE_of (by rw [c1]; decide) (by decide)
    rw [c1] at hn ⊢
    rw [hE]
    obtain ⟨τ1, a1, a2, a3, a4, a5, a6, a7⟩ := qm_k01 h hp he h18 hn (Or.inl rfl) (nI (3 * e))
    obtain ⟨τ2, b1, b2, b3, b4, b5, b6, b7⟩ := qm_k2 (c := 112) a2 he (by decide)
    obtain ⟨τ3, d1, d2, d3, d4, d5, d6, d7⟩ := qm_k3 (c := 112) b2 he (Or.inl rfl)
    obtain ⟨τ4, f1, f2, f3, f4, f5, f6, f7⟩ := qm_k4p d2 he
    obtain ⟨τ5, k1, k2, k3, k4, k5, k6⟩ := qm_k5 f2 (e := e) (by rw [f4, d4, b4, a4]) 0 0
    refine ⟨τ5, by rw [a1, b1, d1, f1, k1], k2, qMg_t a3 (qMg_t b3 (qMg_t d3 (qMg_t f3 k3))), k4, by rw [k5, f5, d5, b5, a5], fun j hj => by rw [k5, f5, d5, b5, a6 j hj], fun j hj => by rw [k6, f7 j (by omega), d7 j (by omega), b7 j (by omega), a7], fun _ j hj => ?_⟩
    have hj : j < 3 := hj
    rcases (show j = 0 ∨ j = 1 ∨ j = 2 by omega) with q | q | q
    · subst q
      exact (show τ5 142 (3 * e + 0) = _ by rw [Nat.add_zero, k6, f7 _ (by omega), d7 _ (by omega), b6]; rfl)
    · subst q
      exact (show τ5 142 (3 * e + 1) = _ by rw [k6, f7 _ (by omega), d6]; rfl)
    · subst q
      exact (show τ5 142 (3 * e + 2) = _ by rw [k6, f6]; rfl)
  · by_cases c2 : nI (g p) = 108
    · have hE : qE g L p = qfold g L (shl 1) ([], (false, p + 1)) := qE_of (by rw [c2]; decide) (by decide)
      rw [c2] at hn ⊢
      rw [hE]
      obtain ⟨τ1, a1, a2, a3, a4, a5, a6, a7⟩ := qm_k01 h hp he h18 hn (Or.inr (Or.inl rfl)) (nI (3 * e))
      obtain ⟨τ2, b1, b2, b3, b4, b5, b6, b7⟩ := qm_k2 (c := 108) a2 he (by decide)
      obtain ⟨τ3, d1, d2, d3, d4, d5, d6, d7⟩ := qm_k3 (c := 108) b2 he (Or.inr rfl)
      obtain ⟨τ5, k1, k2, k3, k4, k5, k6⟩ := qm_k5 d2 (e := e) (by rw [d4, b4, a4]) 0 0
      refine ⟨τ5, by rw [a1, b1, d1, qm_k4n (by decide) (by decide) (by decide), k1], k2, qMg_t a3 (qMg_t b3 (qMg_t d3 k3)), k4, by rw [k5, d5, b5, a5], fun j hj => by rw [k5, d5, b5, a6 j hj], fun j hj => by rw [k6, d7 j (by omega), b7 j (by omega), a7], fun _ j hj => ?_⟩
      have hj : j < 2 := hj
      rcases (show j = 0 ∨ j = 1 by omega) with q | q
      · subst q
        exact (show τ5 142 (3 * e + 0) = _ by rw [Nat.add_zero, k6, d7 _ (by omega), b6]; rfl)
      · subst q
        exact (show τ5 142 (3 * e + 1) = _ by rw [k6, d6]; rfl)
    · by_cases c3 : nI (g p) = 100
      · have hE : qE g L p = qfold g L (shl 2) ([], (false, p + 1)) := qE_of (by rw [c3]; decide) (by decide)
        rw [c3] at hn ⊢
        rw [hE]
        obtain ⟨τ1, a1, a2, a3, a4, a5, a6, a7⟩ := qm_k01 h hp he h18 hn (Or.inr (Or.inr (Or.inl rfl))) (nI (3 * e))
        obtain ⟨τ2, b1, b2, b3, b4, b5, b6, b7⟩ := qm_k2 (c := 100) a2 he (by decide)
        obtain ⟨τ3, d1, d2, d3, d4, d5, d6, d7⟩ := qm_k4d b2 he
        obtain ⟨τ5, k1, k2, k3, k4, k5, k6⟩ := qm_k5 d2 (e := e) (by rw [d4, b4, a4]) 0 0
        refine ⟨τ5, by rw [a1, b1, qm_k3n (by decide) (by decide), d1, k1], k2, qMg_t a3 (qMg_t b3 (qMg_t d3 k3)), k4, by rw [k5, d5, b5, a5], fun j hj => by rw [k5, d5, b5, a6 j hj], fun j hj => by rw [k6, d7 j (by omega), b7 j (by omega), a7], fun _ j hj => ?_⟩
        have hj : j < 2 := hj
        rcases (show j = 0 ∨ j = 1 by omega) with q | q
        · subst q
          exact (show τ5 142 (3 * e + 0) = _ by rw [Nat.add_zero, k6, d7 _ (by omega), b6]; rfl)
        · subst q
          exact (show τ5 142 (3 * e + 1) = _ by rw [k6, d6]; rfl)
      · by_cases c4 : nI (g p) = 116
        · have hE : qE g L p = qfold g L (shl 3) ([], (false, p + 1)) := qE_of (by rw [c4]; decide) (by decide)
          rw [c4] at hn ⊢
          rw [hE]
          obtain ⟨τ1, a1, a2, a3, a4, a5, a6, a7⟩ := qm_k01 h hp he h18 hn (Or.inr (Or.inr (Or.inr (Or.inl rfl)))) (nI (3 * e))
          obtain ⟨τ2, b1, b2, b3, b4, b5, b6, b7⟩ := qm_k2 (c := 116) a2 he (by decide)
          obtain ⟨τ3, d1, d2, d3, d4, d5, d6, d7⟩ := qm_k4t b2 he
          obtain ⟨τ5, k1, k2, k3, k4, k5, k6⟩ := qm_k5 d2 (e := e) (by rw [d4, b4, a4]) 0 0
          refine ⟨τ5, by rw [a1, b1, qm_k3n (by decide) (by decide), d1, k1], k2, qMg_t a3 (qMg_t b3 (qMg_t d3 k3)), k4, by rw [k5, d5, b5, a5], fun j hj => by rw [k5, d5, b5, a6 j hj], fun j hj => by rw [k6, d7 j (by omega), b7 j (by omega), a7], fun _ j hj => ?_⟩
          have hj : j < 2 := hj
          rcases (show j = 0 ∨ j = 1 by omega) with q | q
          · subst q
            exact (show τ5 142 (3 * e + 0) = _ by rw [Nat.add_zero, k6, d7 _ (by omega), b6]; rfl)
          · subst q
            exact (show τ5 142 (3 * e + 1) = _ by rw [k6, d6]; rfl)
        · by_cases c5 : nI (g p) = 97
          · have hE : qE g L p = qfold g L (shl 4) ([], (false, p + 1)) := qE_of (by rw [c5]; decide) (by decide)
            rw [c5] at hn ⊢
            rw [hE]
            obtain ⟨τ1, a1, a2, a3, a4, a5, a6, a7⟩ := qm_k01 h hp he h18 hn (Or.inr (Or.inr (Or.inr (Or.inr rfl)))) (nI (3 * e))
            have w2 := qMw_of (qMf_r τ1) a2 (3 * e) 0
            obtain ⟨b2, b3, b4, b5, b6, b7⟩ := w2
            obtain ⟨τ5, k1, k2, k3, k4, k5, k6⟩ := qm_k5 b2 (e := e) (by rw [b4, a4]) 0 0
            refine ⟨τ5, ?_, k2, qMg_t a3 (qMg_t b3 k3), k4, by rw [k5, b5, a5], fun j hj => by rw [k5, b5, a6 j hj], fun j hj => by rw [k6, b7 j (by omega), a7], fun _ j hj => (by have hj : j < 0 := hj; omega)⟩
            rw [a1, gr_eq]
            show (X7_readEntry_k2 τ1 (nI (3 * e)) 97).bind _ = _
            unfold X7_readEntry_k2
            rw [a2.2.2.2.2.2.1, if_pos (show qb (false, p + 1).1 = 0 from rfl), if_pos rfl, qg_i (show 3 * e < 180 by omega) (by decide), qk_c (by omega), ql, qs]
            show gr X7_readEntry_s (3, nI (3 * e), 97, g_up τ1 142 (3 * e) 0) = _
            rw [qm_k3n (by decide) (by decide), qm_k4n (by decide) (by decide) (by decide), k1]
          · have hE : qE g L p = ([], (true, p)) := by
              unfold qE
              have : shp (nI (g p)) = 5 := by
                unfold shp
                rw [if_neg c1, if_neg c2, if_neg c3, if_neg c4, if_neg c5]
              rw [this]; rfl
            rw [hE]
            exact qm_unk h he h18 hn c1 c2 c3 c4 c5
theorem qm_entry {τ : gS} {p e : Nat} (h : qMS g L τ (false, p)) (hp : p < L) (he : e < 60) (h18 : τ 132 18 = nI e) : ∃ τ', X7_readEntry τ = some τ' ∧ qMe g L τ τ' e (nI (g p)) (qE g L p) := by
  obtain ⟨τ', k1, k2⟩ := qm_run h hp he h18
  refine ⟨τ', ?_, k2⟩
  have hL := h.1
  unfold X7_readEntry
  rw [h.2.2.1, h.2.2.2.2.1, if_neg (nI_ge hp (by omega)), qg_i (show (false, p).2 < 60 by show p < 60; omega) (by decide), qk_c (show (false, p).2 < 2 ^ 31 by show p < 2 ^ 31; omega), h18, show (3 : Int32) * nI e = nI (3 * e) from pk_mul 3 e]
  show gr X7_readEntry_s (0, nI (3 * e), τ 140 p, τ) = _
  rw [h.2.2.2.1 p hp]
  exact k1
/-- the empty text -/
theorem qm_entry0 {τ : gS} (h : qMS g 0 τ (false, 0)) (h18 : τ 132 18 = nI 0) : ∃ τ', X7_readEntry τ = some τ' ∧ qMe g 0 τ τ' 0 32 ([], (true, 0)) := by
  obtain ⟨τ', k1, k2⟩ := qm_unk (c := 32) h (by decide) h18 (q_nar (ch := 32) (by decide)) (by decide) (by decide) (by decide) (by decide) (by decide)
  refine ⟨τ', ?_, k2⟩
  unfold X7_readEntry
  rw [h.2.2.1, h.2.2.2.2.1, if_pos (show nI 0 ≤ nI 0 from qk_end (by decide)), h18]
  exact k1
theorem qfold_n : ∀ (cs : List Nat) (x : List Nat × (Bool × Nat)), (qfold g L cs x).1.length = x.1.length + qnc cs
  | [], x => rfl
  | c :: cs, x => by
    unfold qfold qnc
    by_cases c1 : c = 35
    · rw [if_pos c1, if_pos (Or.inl c1), qfold_n cs]
      simp; omega
    · rw [if_neg c1]
      by_cases c2 : c = 42
      · rw [if_pos c2, if_pos (Or.inr c2), qfold_n cs]
        simp; omega
      · rw [if_neg c2, if_neg (fun q => q.elim c1 c2), qfold_n cs]
        simp
theorem qE_n {p : Nat} (h : (qE g L p).2.1 = false) : (qE g L p).1.length ≤ 3 ∧ (nI (g p) = 112 ∨ nI (g p) = 108 ∨ nI (g p) = 100 ∨ nI (g p) = 116 ∨ nI (g p) = 97) ∧ (nI (g p) ≠ 97 → 2 ≤ (qE g L p).1.length) ∧ (nI (g p) = 112 → (qE g L p).1.length = 3) := by
  have hk := shp_lt (nI (g p))
  by_cases c1 : nI (g p) = 112
  · have e : qE g L p = qfold g L (shl 0) ([], (false, p + 1)) := qE_of (by rw [c1]; decide) (by decide)
    rw [e, qfold_n]
    exact ⟨Nat.le_of_ble_eq_true rfl, Or.inl c1, fun _ => Nat.le_of_ble_eq_true rfl, fun _ => rfl⟩
  · by_cases c2 : nI (g p) = 108
    · have e : qE g L p = qfold g L (shl 1) ([], (false, p + 1)) := qE_of (by rw [c2]; decide) (by decide)
      rw [e, qfold_n]
      exact ⟨Nat.le_of_ble_eq_true rfl, Or.inr (Or.inl c2), fun _ => Nat.le_of_ble_eq_true rfl, fun q => absurd q c1⟩
    · by_cases c3 : nI (g p) = 100
      · have e : qE g L p = qfold g L (shl 2) ([], (false, p + 1)) := qE_of (by rw [c3]; decide) (by decide)
        rw [e, qfold_n]
        exact ⟨Nat.le_of_ble_eq_true rfl, Or.inr (Or.inr (Or.inl c3)), fun _ => Nat.le_of_ble_eq_true rfl, fun q => absurd q c1⟩
      · by_cases c4 : nI (g p) = 116
        · have e : qE g L p = qfold g L (shl 3) ([], (false, p + 1)) := qE_of (by rw [c4]; decide) (by decide)
          rw [e, qfold_n]
          exact ⟨Nat.le_of_ble_eq_true rfl, Or.inr (Or.inr (Or.inr (Or.inl c4))), fun _ => Nat.le_of_ble_eq_true rfl, fun q => absurd q c1⟩
        · by_cases c5 : nI (g p) = 97
          · have e : qE g L p = qfold g L (shl 4) ([], (false, p + 1)) := qE_of (by rw [c5]; decide) (by decide)
            rw [e, qfold_n]
            exact ⟨Nat.le_of_ble_eq_true rfl, Or.inr (Or.inr (Or.inr (Or.inr c5))), fun q => absurd c5 q, fun q => absurd q c1⟩
          · exfalso
            have e : qE g L p = ([], (true, p)) := by
              unfold qE
              have : shp (nI (g p)) = 5 := by
                unfold shp
                rw [if_neg c1, if_neg c2, if_neg c3, if_neg c4, if_neg c5]
              rw [this]; rfl
            rw [e] at h; cases h
end ENS
