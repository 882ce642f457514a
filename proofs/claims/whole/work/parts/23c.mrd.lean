/-! ===== a text read: the second program's reader ===== -/
section MRD
variable {g : Nat → Nat} {L : Nat}
def qMS (g : Nat → Nat) (L : Nat) (τ : gS) (S : Bool × Nat) : Prop := L ≤ 60 ∧ (∀ p, p < L → g p < 127) ∧ τ 132 12 = nI L ∧ (∀ p, p < L → τ 140 p = nI (g p)) ∧ τ 132 13 = nI S.2 ∧ τ 132 14 = qb S.1 ∧ S.2 ≤ L
def qMf (τ τ' : gS) : Prop := (∀ a, a ≠ 132 → τ' a = τ a) ∧ (∀ j, j ≠ 13 → j ≠ 14 → τ' 132 j = τ 132 j)
theorem qMf_r (τ : gS) : qMf τ τ := ⟨fun _ _ => rfl, fun _ _ _ => rfl⟩
theorem qMf_t {τ τ1 τ2 : gS} (h1 : qMf τ τ1) (h2 : qMf τ1 τ2) : qMf τ τ2 := ⟨fun a p => (h2.1 a p).trans (h1.1 a p), fun j p q => (h2.2 j p q).trans (h1.2 j p q)⟩
/-- the place and the flag are set -/
theorem qMS_u {τ : gS} {S : Bool × Nat} (h : qMS g L τ S) (w : Bool) {p : Nat} (hp : p ≤ L) : qMS g L (g_up (g_up τ 132 14 (qb w)) 132 13 (nI p)) (w, p) ∧ qMf τ (g_up (g_up τ 132 14 (qb w)) 132 13 (nI p)) := by
  obtain ⟨hL, hg, h1, h2, h3, h4, h5⟩ := h
  refine ⟨⟨hL, hg, by rw [qu_j _ _ (by decide), qu_j _ _ (by decide)]; exact h1, fun q hq => by rw [qu_a _ _ (by decide), qu_a _ _ (by decide)]; exact h2 q hq, qu_at _ _ _ _, by rw [qu_j _ _ (by decide), qu_at], hp⟩, fun a q => by rw [qu_a _ _ q, qu_a _ _ q], fun j q r => by rw [qu_j _ _ q, qu_j _ _ r]⟩
theorem qm_here {τ : gS} {S : Bool × Nat} (h : qMS g L τ S) {a b : Nat} (ha : a < 128) (hb : b < 128) : X7_isHere τ (nI a) (nI b) = some (qb (!S.1 && (decide (S.2 < L) && (decide (a ≤ g S.2) && decide (g S.2 ≤ b))))) := by
  obtain ⟨hL, hg, h1, h2, h3, h4, h5⟩ := h
  unfold X7_isHere
  rw [h4, qb_if, h1, h3]
  cases S.1 with
  | true => rw [if_pos rfl]; rfl
  | false =>
    rw [if_neg (by decide)]
    by_cases c : S.2 < L
    · have hgp := hg _ c
      rw [if_neg (nI_ge c (by omega)), qg_i (show S.2 < 60 by omega) (by decide), qk_c (by omega), h2 _ c, qd_in, qs, qb_if, decide_eq_true c, decide_eq_decide.mpr (qk_le (a := a) (b := g S.2) (by omega) (by omega)), decide_eq_decide.mpr (qk_le (a := g S.2) (b := b) (by omega) (by omega))]
      cases (decide (a ≤ g S.2) && decide (g S.2 ≤ b)) <;> rfl
    · rw [if_pos (nI_le (by omega) (by omega)), decide_eq_false c]; rfl
theorem qm_sign {τ : gS} {S : Bool × Nat} (h : qMS g L τ S) {c : Nat} (hc : c < 128) : ∃ τ', X7_sign τ (nI c) = some τ' ∧ qMS g L τ' (qsg g L c S) ∧ qMf τ τ' := by
  have h0 := h
  obtain ⟨hL, hg, h1, h2, h3, h4, h5⟩ := h
  have e : (decide (c ≤ g S.2) && decide (g S.2 ≤ c)) = decide (g S.2 = c) := by
    rw [Bool.eq_iff_iff]
    simp only [Bool.and_eq_true, decide_eq_true_eq]
    omega
  unfold X7_sign
  rw [qm_here h0 hc hc, qs, qb_if, e]
  unfold qsg
  cases cc : (!S.1 && (decide (S.2 < L) && decide (g S.2 = c))) with
  | true =>
    have hlt : S.2 < L := by
      simp only [Bool.and_eq_true, decide_eq_true_eq] at cc
      exact cc.2.1
    rw [if_pos rfl, if_pos rfl, ql, qu_at, if_pos rfl, ql, qu_j _ _ (show (13 : Nat) ≠ 14 by decide), h3, qk_s]
    exact ⟨_, rfl, qMS_u h0 false hlt⟩
  | false =>
    have ez : nI S.2 + (0 : Int32) = nI S.2 := nI_add S.2 0
    rw [if_neg (by decide), if_neg (by decide), ql, qu_at, if_neg (by decide), ql, qu_j _ _ (show (13 : Nat) ≠ 14 by decide), h3, ez]
    exact ⟨_, rfl, qMS_u h0 true h5⟩
theorem qm_nloop {m : Nat} (hm : m < 100) : ∀ k x v p (τ : gS), x + k = m → qMS g L τ (false, p) → ∃ τ', gr X7_number_s (nI m, nI v, nI x, τ) = some (nI (qN g L k v p).1, τ') ∧ qMS g L τ' (false, (qN g L k v p).2) ∧ qMf τ τ' := by
  intro k
  induction k with
  | zero =>
    intro x v p τ hx h
    refine ⟨τ, ?_, h, qMf_r τ⟩
    rw [gr_eq]
    show (X7_number_k0 τ (nI m) (nI v) (nI x)).bind _ = _
    unfold X7_number_k0
    rw [show m = x by omega, if_pos (qk_end (by omega)), qs]; rfl
  | succ k ih =>
    intro x v p τ hx h
    have hh : X7_isHere τ 48 57 = some (qb (qdg g L p)) := qm_here h (a := 48) (b := 57) (by decide) (by decide)
    rw [gr_eq]
    show ∃ τ', (X7_number_k0 τ (nI m) (nI v) (nI x)).bind _ = _ ∧ _
    unfold X7_number_k0
    rw [if_neg (qk_ge (show x < m by omega) (by omega)), hh, qs, qb_if]
    cases c : qdg g L p with
    | false =>
      have e : qN g L (k + 1) v p = (v, p) := if_neg (by rw [c]; decide)
      rw [if_neg (by decide), qs, e]
      exact ⟨τ, rfl, h, qMf_r τ⟩
    | true =>
      obtain ⟨d1, d2, d3⟩ := qdg_k c
      have e : qN g L (k + 1) v p = qN g L k (10 * v + (g p - 48)) (p + 1) := if_pos c
      have hL := h.1
      have h13 : τ 132 13 = nI p := h.2.2.2.2.1
      have ev : ((10 : Int32) * nI v + nI (g p)) - 48 = nI (10 * v + (g p - 48)) := by
        rw [show (10 : Int32) * nI v = nI (10 * v) from pk_mul 10 v, nI_add, show nI (10 * v + g p) - (48 : Int32) = nI (10 * v + g p - 48) from pk_sub (b := 48) (by omega), show 10 * v + g p - 48 = 10 * v + (g p - 48) by omega]
      have hu : qMS g L (g_up τ 132 13 (nI (p + 1))) (false, p + 1) ∧ qMf τ (g_up τ 132 13 (nI (p + 1))) := by
        obtain ⟨hL, hg, h1, h2, h3, h4, h5⟩ := h
        exact ⟨⟨hL, hg, by rw [qu_j _ _ (by decide)]; exact h1, fun q hq => by rw [qu_a _ _ (by decide)]; exact h2 q hq, qu_at _ _ _ _, by rw [qu_j _ _ (by decide)]; exact h4, d1⟩, fun a q => qu_a _ _ q, fun j q _ => qu_j _ _ q⟩
      obtain ⟨τ', k1, k2, k3⟩ := ih (x + 1) (10 * v + (g p - 48)) (p + 1) (g_up τ 132 13 (nI (p + 1))) (by omega) hu.1
      rw [if_pos rfl, h13, qg_i (show p < 60 by omega) (by decide), qk_c (by omega), h.2.2.2.1 p d1, qk_s, qk_s, ev, ql, qs, e]
      exact ⟨τ', k1, k2, qMf_t hu.2 k3⟩
theorem qm_number {τ : gS} {S : Bool × Nat} (h : qMS g L τ S) {m : Nat} (hm0 : 1 ≤ m) (hm : m < 100) : ∃ τ', X7_number τ (nI m) = some (nI (qnm g L m S).1, τ') ∧ qMS g L τ' (qnm g L m S).2 ∧ qMf τ τ' := by
  have hh : X7_isHere τ 48 57 = some (qb (!S.1 && qdg g L S.2)) := qm_here h (a := 48) (b := 57) (by decide) (by decide)
  have h0 := h
  obtain ⟨hL, hg, h1, h2, h3, h4, h5⟩ := h
  have hset : ∀ w : Bool, qMS g L (g_up τ 132 14 (qb w)) (w, S.2) ∧ qMf τ (g_up τ 132 14 (qb w)) := fun w => ⟨⟨hL, hg, by rw [qu_j _ _ (by decide)]; exact h1, fun q hq => by rw [qu_a _ _ (by decide)]; exact h2 q hq, by rw [qu_j _ _ (by decide)]; exact h3, qu_at _ _ _ _, h5⟩, fun a q => qu_a _ _ q, fun j _ q => qu_j _ _ q⟩
  unfold X7_number
  rw [hh, qs, qb_if]
  unfold qnm
  cases cc : (!S.1 && qdg g L S.2) with
  | true =>
    rw [if_pos rfl, if_pos rfl, ql]
    obtain ⟨τ', k1, k2, k3⟩ := qm_nloop (g := g) (L := L) hm m 0 0 S.2 (g_up τ 132 14 (qb false)) (by omega) (hset false).1
    exact ⟨τ', k1, k2, qMf_t (hset false).2 k3⟩
  | false =>
    rw [if_neg (by decide), if_neg (by decide), ql]
    have hx : X7_isHere (g_up τ 132 14 1) 48 57 = some 0 := qm_here (hset true).1 (a := 48) (b := 57) (by decide) (by decide)
    refine ⟨g_up τ 132 14 (qb true), ?_, (hset true).1, (hset true).2⟩
    rw [gr_eq]
    show (X7_number_k0 (g_up τ 132 14 1) (nI m) 0 0).bind _ = _
    unfold X7_number_k0
    rw [if_neg (show ¬ nI m ≤ 0 from nI_nle (by omega) (by omega)), hx, qs, if_pos rfl, qs]; rfl
theorem qm_behind {τ : gS} {S : Bool × Nat} (h : qMS g L τ S) {c m : Nat} (hc : c < 128) (hm0 : 1 ≤ m) (hm : m < 100) : ∃ τ', X7_behind τ (nI c) (nI m) = some (nI (qnm g L m (qsg g L c S)).1, τ') ∧ qMS g L τ' (qnm g L m (qsg g L c S)).2 ∧ qMf τ τ' := by
  obtain ⟨τ1, a1, a2, a3⟩ := qm_sign h hc
  obtain ⟨τ2, b1, b2, b3⟩ := qm_number a2 hm0 hm
  refine ⟨τ2, ?_, b2, qMf_t a3 b3⟩
  unfold X7_behind
  rw [a1, qs, b1, qs]
/-- what an entry's reading may change -/
def qMg (τ τ' : gS) : Prop := (∀ a, a ≠ 132 → a ≠ 141 → a ≠ 142 → τ' a = τ a) ∧ (∀ j, j ≠ 13 → j ≠ 14 → j ≠ 18 → τ' 132 j = τ 132 j)
theorem qMg_t {τ τ1 τ2 : gS} (h1 : qMg τ τ1) (h2 : qMg τ1 τ2) : qMg τ τ2 := ⟨fun a p q r => (h2.1 a p q r).trans (h1.1 a p q r), fun j p q r => (h2.2 j p q r).trans (h1.2 j p q r)⟩
theorem qMg_f {τ τ' : gS} (h : qMf τ τ') : qMg τ τ' := ⟨fun a p _ _ => h.1 a p, fun j p q _ => h.2 j p q⟩
theorem qMS_o {τ τ' : gS} {S : Bool × Nat} (h : qMS g L τ S) (h1 : τ' 132 = τ 132) (h2 : τ' 140 = τ 140) : qMS g L τ' S := by
  unfold qMS at h ⊢
  rw [h1, h2]; exact h
/-- a number written down -/
theorem qMg_w (τ : gS) (j : Nat) (v : Int32) : qMg τ (g_up τ 142 j v) := ⟨fun a _ _ r => qu_a _ _ r, fun i _ _ _ => by rw [qu_a _ _ (by decide)]⟩
theorem qm_k01 {τ : gS} {p e : Nat} {c : Int32} (h : qMS g L τ (false, p)) (hp : p < L) (he : e < 60) (h18 : τ 132 18 = nI e) (hn : vp_nar .char c = c) (hc : c = 112 ∨ c = 108 ∨ c = 100 ∨ c = 116 ∨ c = 97) (x1 : Int32) :
    ∃ τ', gr X7_readEntry_s (0, x1, c, τ) = gr X7_readEntry_s (2, x1, c, τ') ∧ qMS g L τ' (false, p + 1) ∧ qMg τ τ' ∧ τ' 132 18 = nI e ∧ τ' 141 e = c ∧ (∀ j, j ≠ e → τ' 141 j = τ 141 j) ∧ τ' 142 = τ 142 := by
  have s0 : X7_readEntry_k0 τ x1 c = some (.inl (1, x1, c, g_up (g_up τ 141 e c) 132 14 0)) := by
    unfold X7_readEntry_k0
    rw [h18, qg_i he (by decide), qk_c (by omega), hn, ql]
    rcases hc with rfl | rfl | rfl | rfl | rfl
    · rw [if_pos rfl, ql]
    · rw [if_neg (by decide), if_pos rfl, ql]
    · rw [if_neg (by decide), if_neg (by decide), if_pos rfl, ql]
    · rw [if_neg (by decide), if_neg (by decide), if_neg (by decide), if_pos rfl, ql]
    · rw [if_neg (by decide), if_neg (by decide), if_neg (by decide), if_neg (by decide), if_pos rfl, ql]
  have hw : qMS g L (g_up τ 141 e c) (false, p) := qMS_o h (qu_a _ _ (by decide)) (qu_a _ _ (by decide))
  obtain ⟨u1, u2⟩ := qMS_u hw false (p := p + 1) (by omega)
  refine ⟨g_up (g_up (g_up τ 141 e c) 132 14 0) 132 13 (nI (p + 1)), ?_, u1, ?_, ?_, ?_, fun j hj => ?_, ?_⟩
  · rw [gr_eq]
    show (X7_readEntry_k0 τ x1 c).bind _ = _
    rw [s0, qs]
    show gr X7_readEntry_s (1, x1, c, g_up (g_up τ 141 e c) 132 14 0) = _
    rw [gr_eq]
    show (X7_readEntry_k1 (g_up (g_up τ 141 e c) 132 14 0) x1 c).bind _ = _
    unfold X7_readEntry_k1
    rw [qu_at, if_pos rfl, qu_j _ _ (show (13 : Nat) ≠ 14 by decide), qu_a _ _ (show (132 : Nat) ≠ 141 by decide), h.2.2.2.2.1, ql, qs]
    show gr X7_readEntry_s (2, x1, c, g_up (g_up (g_up τ 141 e c) 132 14 0) 132 13 (nI p + 1)) = _
    rw [qk_s]
  · exact ⟨fun a p q r => by rw [qu_a _ _ p, qu_a _ _ p, qu_a _ _ q], fun j p q r => by rw [qu_j _ _ p, qu_j _ _ q, qu_a _ _ (by decide)]⟩
  · rw [qu_j _ _ (by decide), qu_j _ _ (by decide), qu_a _ _ (by decide)]; exact h18
  · rw [qu_a _ _ (by decide), qu_a _ _ (by decide), qu_at]
  · rw [qu_a _ _ (by decide), qu_a _ _ (by decide), qu_j _ _ hj]
  · rw [qu_a _ _ (by decide), qu_a _ _ (by decide), qu_a _ _ (by decide)]
theorem qm_k5 {τ : gS} {S : Bool × Nat} {e : Nat} (h : qMS g L τ S) (h18 : τ 132 18 = nI e) (x1 c : Int32) : ∃ τ', gr X7_readEntry_s (5, x1, c, τ) = some τ' ∧ qMS g L τ' (qsg g L 59 S) ∧ qMg τ τ' ∧ τ' 132 18 = nI (e + 1) ∧ τ' 141 = τ 141 ∧ τ' 142 = τ 142 := by
  obtain ⟨τ1, a1, a2, a3⟩ := qm_sign h (c := 59) (by decide)
  have a1 : X7_sign τ 59 = some τ1 := a1
  have e18 : τ1 132 18 = nI e := by rw [a3.2 18 (by decide) (by decide)]; exact h18
  refine ⟨g_up τ1 132 18 (nI (e + 1)), ?_, ?_, ?_, qu_at _ _ _ _, ?_, ?_⟩
  · rw [gr_eq]
    show (X7_readEntry_k5 τ).bind _ = _
    unfold X7_readEntry_k5
    rw [a1, qs, e18, qk_s, ql, qs]
  · obtain ⟨hL, hg, h1, h2, h3, h4, h5⟩ := a2
    exact ⟨hL, hg, by rw [qu_j _ _ (by decide)]; exact h1, fun q hq => by rw [qu_a _ _ (by decide)]; exact h2 q hq, by rw [qu_j _ _ (by decide)]; exact h3, by rw [qu_j _ _ (by decide)]; exact h4, h5⟩
  · exact qMg_t (qMg_f a3) ⟨fun a p _ _ => qu_a _ _ p, fun j _ _ r => qu_j _ _ r⟩
  · rw [qu_a _ _ (by decide), a3.1 141 (by decide)]
  · rw [qu_a _ _ (by decide), a3.1 142 (by decide)]
end MRD
