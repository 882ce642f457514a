/-! ===== a text read: what both programs see ===== -/
def qdg (g : Nat → Nat) (L p : Nat) : Bool := decide (p < L) && (decide (48 ≤ g p) && decide (g p ≤ 57))
def qN (g : Nat → Nat) (L : Nat) : Nat → Nat → Nat → Nat × Nat
  | 0, v, p => (v, p)
  | n + 1, v, p => if qdg g L p = true then qN g L n (10 * v + (g p - 48)) (p + 1) else (v, p)
def qnm (g : Nat → Nat) (L m : Nat) (S : Bool × Nat) : Nat × (Bool × Nat) := if (!S.1 && qdg g L S.2) = true then ((qN g L m 0 S.2).1, (false, (qN g L m 0 S.2).2)) else (0, (true, S.2))
def qsg (g : Nat → Nat) (L c : Nat) (S : Bool × Nat) : Bool × Nat := if (!S.1 && (decide (S.2 < L) && decide (g S.2 = c))) = true then (false, S.2 + 1) else (true, S.2)
def qfold (g : Nat → Nat) (L : Nat) : List Nat → List Nat × (Bool × Nat) → List Nat × (Bool × Nat)
  | [], x => x
  | c :: cs, x => if c = 35 then qfold g L cs (x.1 ++ [(qnm g L 1 x.2).1], (qnm g L 1 x.2).2) else if c = 42 then qfold g L cs (x.1 ++ [(qnm g L 4 x.2).1], (qnm g L 4 x.2).2) else qfold g L cs (x.1, qsg g L c x.2)
def qsh : List (List Nat) := [[35, 46, 35, 64, 35, 59], [35, 46, 35, 59], [35, 43, 42, 59], [35, 64, 42, 59], [59], []]
def shl (k : Nat) : List Nat := qsh.getD k []
def qE (g : Nat → Nat) (L p : Nat) : List Nat × (Bool × Nat) := if (shl (shp (nI (g p)))).length = 0 then ([], (true, p)) else qfold g L (shl (shp (nI (g p)))) ([], (false, p + 1))
def qnc : List Nat → Nat
  | [] => 0
  | c :: cs => (if c = 35 ∨ c = 42 then 1 else 0) + qnc cs
theorem qk_lt {a b : Nat} (ha : a < 2 ^ 31) (hb : b < 2 ^ 31) : nI a < nI b ↔ a < b := by
  rw [qf_lt, nI_toInt ha, nI_toInt hb]; omega
theorem qk_le {a b : Nat} (ha : a < 2 ^ 31) (hb : b < 2 ^ 31) : nI a ≤ nI b ↔ a ≤ b := by
  rw [qf_le, nI_toInt ha, nI_toInt hb]; omega
theorem qdg_k {g : Nat → Nat} {L p : Nat} (h : qdg g L p = true) : p < L ∧ 48 ≤ g p ∧ g p ≤ 57 := by
  unfold qdg at h
  simp only [Bool.and_eq_true, decide_eq_true_eq] at h
  exact h
theorem qN_ge (g : Nat → Nat) (L : Nat) : ∀ n v p, p ≤ (qN g L n v p).2 ∧ (p ≤ L → (qN g L n v p).2 ≤ L)
  | 0, v, p => ⟨Nat.le_refl _, fun h => h⟩
  | n + 1, v, p => by
    by_cases c : qdg g L p = true
    · have h := qN_ge g L n (10 * v + (g p - 48)) (p + 1)
      have := (qdg_k c).1
      have e : qN g L (n + 1) v p = qN g L n (10 * v + (g p - 48)) (p + 1) := if_pos c
      rw [e]
      exact ⟨by omega, fun _ => h.2 (by omega)⟩
    · have e : qN g L (n + 1) v p = (v, p) := if_neg c
      rw [e]
      exact ⟨Nat.le_refl _, fun h => h⟩
theorem qnm_ge (g : Nat → Nat) (L m : Nat) (S : Bool × Nat) : S.2 ≤ (qnm g L m S).2.2 ∧ (S.2 ≤ L → (qnm g L m S).2.2 ≤ L) := by
  unfold qnm
  by_cases c : (!S.1 && qdg g L S.2) = true
  · rw [if_pos c]; exact qN_ge g L m 0 S.2
  · rw [if_neg c]; exact ⟨Nat.le_refl _, fun h => h⟩
theorem qsg_ge (g : Nat → Nat) (L m : Nat) (S : Bool × Nat) : S.2 ≤ (qsg g L m S).2 ∧ (S.2 ≤ L → (qsg g L m S).2 ≤ L) := by
  unfold qsg
  by_cases c : (!S.1 && (decide (S.2 < L) && decide (g S.2 = m))) = true
  · rw [if_pos c]
    simp only [Bool.and_eq_true, decide_eq_true_eq] at c
    exact ⟨Nat.le_succ _, fun _ => c.2.1⟩
  · rw [if_neg c]; exact ⟨Nat.le_refl _, fun h => h⟩
theorem qfold_ge (g : Nat → Nat) (L : Nat) : ∀ (cs : List Nat) (x : List Nat × (Bool × Nat)), x.2.2 ≤ (qfold g L cs x).2.2 ∧ (x.2.2 ≤ L → (qfold g L cs x).2.2 ≤ L)
  | [], x => ⟨Nat.le_refl _, fun h => h⟩
  | c :: cs, x => by
    unfold qfold
    by_cases c1 : c = 35
    · rw [if_pos c1]
      have h1 := qnm_ge g L 1 x.2
      have h2 := qfold_ge g L cs (x.1 ++ [(qnm g L 1 x.2).1], (qnm g L 1 x.2).2)
      exact ⟨Nat.le_trans h1.1 h2.1, fun h => h2.2 (h1.2 h)⟩
    · rw [if_neg c1]
      by_cases c2 : c = 42
      · rw [if_pos c2]
        have h1 := qnm_ge g L 4 x.2
        have h2 := qfold_ge g L cs (x.1 ++ [(qnm g L 4 x.2).1], (qnm g L 4 x.2).2)
        exact ⟨Nat.le_trans h1.1 h2.1, fun h => h2.2 (h1.2 h)⟩
      · rw [if_neg c2]
        have h1 := qsg_ge g L c x.2
        have h2 := qfold_ge g L cs (x.1, qsg g L c x.2)
        exact ⟨Nat.le_trans h1.1 h2.1, fun h => h2.2 (h1.2 h)⟩
theorem qnm_w (g : Nat → Nat) (L m p : Nat) : qnm g L m (true, p) = (0, (true, p)) := rfl
theorem qsg_w (g : Nat → Nat) (L m p : Nat) : qsg g L m (true, p) = (true, p) := rfl
theorem qfold_w (g : Nat → Nat) (L : Nat) : ∀ (cs : List Nat) (vs : List Nat) (p : Nat), (qfold g L cs (vs, (true, p))).2 = (true, p)
  | [], vs, p => rfl
  | c :: cs, vs, p => by
    unfold qfold
    by_cases c1 : c = 35
    · rw [if_pos c1]; exact qfold_w g L cs _ p
    · rw [if_neg c1]
      by_cases c2 : c = 42
      · rw [if_pos c2]; exact qfold_w g L cs _ p
      · rw [if_neg c2]; exact qfold_w g L cs _ p
theorem qE_ge (g : Nat → Nat) (L p : Nat) (hp : p < L) : p ≤ (qE g L p).2.2 ∧ (qE g L p).2.2 ≤ L ∧ ((qE g L p).2.1 = false → p + 1 ≤ (qE g L p).2.2) := by
  unfold qE
  by_cases c : (shl (shp (nI (g p)))).length = 0
  · rw [if_pos c]
    exact ⟨Nat.le_refl _, Nat.le_of_lt hp, fun q => by cases q⟩
  · rw [if_neg c]
    have := qfold_ge g L (shl (shp (nI (g p)))) ([], (false, p + 1))
    have h1 : p + 1 ≤ (qfold g L (shl (shp (nI (g p)))) ([], (false, p + 1))).2.2 := this.1
    exact ⟨by omega, this.2 (show p + 1 ≤ L by omega), fun _ => h1⟩
/-! the first program's reader -/
section CRD
variable {g : Nat → Nat} {L : Nat}
def qTx (g : Nat → Nat) (L : Nat) (σ : gS) : Prop := L ≤ 60 ∧ (∀ p, p < L → g p < 127) ∧ σ 4 3 = nI L ∧ ∀ p, p < L → σ 5 p = nI (g p)
theorem qTx_c {σ σ' : gS} (h : qTx g L σ) (h3 : σ' 4 3 = σ 4 3) (h5 : σ' 5 = σ 5) : qTx g L σ' := ⟨h.1, h.2.1, h3.trans h.2.2.1, fun p hp => by rw [h5]; exact h.2.2.2 p hp⟩
theorem qt_dig {σ : gS} (hT : qTx g L σ) {p : Nat} (h4 : σ 4 4 = nI p) (hp : p ≤ L) : X5_isDigitNext σ = some (qb (qdg g L p)) := by
  obtain ⟨hL, hg, h3, h5⟩ := hT
  unfold X5_isDigitNext
  rw [h3, h4]
  by_cases c : p < L
  · have hgp := hg p c
    rw [if_neg (nI_ge c (by omega)), qg_i (show p < 60 by omega) (by decide), qk_c (by omega), h5 p c]
    unfold qdg
    rw [decide_eq_true c, Bool.true_and]
    by_cases c1 : g p < 48
    · rw [if_pos (show nI (g p) < 48 from (qk_lt (b := 48) (by omega) (by decide)).mpr c1), decide_eq_false (show ¬ 48 ≤ g p by omega)]; rfl
    · rw [if_neg (show ¬ nI (g p) < 48 from fun q => c1 ((qk_lt (b := 48) (by omega) (by decide)).mp q)), decide_eq_true (show 48 ≤ g p by omega), Bool.true_and]
      by_cases c2 : 57 < g p
      · rw [if_pos (show (57 : Int32) < nI (g p) from (qk_lt (a := 57) (by decide) (by omega)).mpr c2), decide_eq_false (show ¬ g p ≤ 57 by omega)]; rfl
      · rw [if_neg (show ¬ (57 : Int32) < nI (g p) from fun q => c2 ((qk_lt (a := 57) (by decide) (by omega)).mp q)), decide_eq_true (show g p ≤ 57 by omega)]; rfl
  · rw [if_pos (nI_le (by omega) (by omega))]
    unfold qdg
    rw [decide_eq_false c]; rfl
def qst6 (τ : gS) (n v : Nat) : gS := g_up (g_up τ 6 n (nI v)) 4 2 (nI (n + 1))
theorem qst6_k (τ : gS) (n v : Nat) : (∀ a, a ≠ 4 → a ≠ 6 → qst6 τ n v a = τ a) ∧ (∀ j, j ≠ 2 → qst6 τ n v 4 j = τ 4 j) ∧ qst6 τ n v 4 2 = nI (n + 1) ∧ qst6 τ n v 6 n = nI v ∧ ∀ j, j ≠ n → qst6 τ n v 6 j = τ 6 j := by
  unfold qst6
  refine ⟨fun a p q => by rw [qu_a _ _ p, qu_a _ _ q], fun j p => by rw [qu_j _ _ p, qu_a _ _ (by decide)], qu_at _ _ _ _, by rw [qu_a _ _ (by decide), qu_at], fun j p => by rw [qu_a _ _ (by decide), qu_j _ _ p]⟩
theorem qt_store {α : Type} {τ : gS} {n x v : Nat} (hx : 1 ≤ x) (hx2 : x < 100) (h2 : τ 4 2 = nI n) (hn : n < 3) :
    (if nI x = 0 then (some (Sum.inr (0, τ))) else (if (τ 4 2) < 3 then (gd (ib (τ 4 2) 3) <| lt_ (g_up τ 6 (τ 4 2).toNatClampNeg (nI v)) fun σ5 => lt_ (g_up σ5 4 2 ((σ5 4 2) + (1 : Int32))) fun σ6 => some (Sum.inr (1, σ6))) else (some (Sum.inr (0, τ)))) : Option (α ⊕ (Int32 × gS))) = some (Sum.inr (1, qst6 τ n v)) := by
  rw [if_neg (fun q => by have := (qk_eq (a := x) (b := 0) (by omega) (by decide)).mp q; omega), h2, if_pos (show nI n < 3 from nI_lt (b := 3) hn (by decide)), qg_i hn (by decide), qk_c (by omega), ql, ql, qu_a τ _ (show (4 : Nat) ≠ 6 by decide), h2, qk_s]
  rfl
theorem qt_rn {m n : Nat} (hm : m < 100) (hn : n < 3) : ∀ k x v p (τ : gS), 1 ≤ x → x + k = m → qTx g L τ → p ≤ L → τ 4 4 = nI p → τ 4 2 = nI n →
    ∃ σ', gr X5_readNumber_s (nI m, nI v, nI x, τ) = some (1, σ') ∧ (∀ a, a ≠ 4 → a ≠ 6 → σ' a = τ a) ∧ (∀ j, j ≠ 2 → j ≠ 4 → σ' 4 j = τ 4 j) ∧ σ' 4 4 = nI (qN g L k v p).2 ∧ σ' 4 2 = nI (n + 1) ∧ σ' 6 n = nI (qN g L k v p).1 ∧ (∀ j, j ≠ n → σ' 6 j = τ 6 j) := by
  intro k
  induction k with
  | zero =>
    intro x v p τ hx hxm hT hp h4 h2
    obtain ⟨s1, s2, s3, s4, s5⟩ := qst6_k τ n v
    refine ⟨qst6 τ n v, ?_, s1, fun j p _ => s2 j p, by rw [s2 4 (by decide)]; exact h4, s3, s4, s5⟩
    rw [gr_eq]
    show (X5_readNumber_k0 τ (nI m) (nI v) (nI x)).bind _ = _
    unfold X5_readNumber_k0
    rw [show m = x by omega, if_pos (qk_end (by omega)), qt_store hx (by omega) h2 hn, qs]
  | succ k ih =>
    intro x v p τ hx hxm hT hp h4 h2
    rw [gr_eq]
    show ∃ σ', (X5_readNumber_k0 τ (nI m) (nI v) (nI x)).bind _ = _ ∧ _
    unfold X5_readNumber_k0
    rw [if_neg (qk_ge (show x < m by omega) (by omega)), qt_dig hT h4 hp, qs, qb_if]
    cases c : qdg g L p with
    | false =>
      obtain ⟨s1, s2, s3, s4, s5⟩ := qst6_k τ n v
      have e : qN g L (k + 1) v p = (v, p) := if_neg (by rw [c]; decide)
      rw [if_neg (by decide), qt_store hx (by omega) h2 hn, qs, e]
      exact ⟨qst6 τ n v, rfl, s1, fun j p _ => s2 j p, by rw [s2 4 (by decide)]; exact h4, s3, s4, s5⟩
    | true =>
      obtain ⟨d1, d2, d3⟩ := qdg_k c
      have e : qN g L (k + 1) v p = qN g L k (10 * v + (g p - 48)) (p + 1) := if_pos c
      have ev : (10 : Int32) * nI v + (nI (g p) - 48) = nI (10 * v + (g p - 48)) := by
        rw [show (10 : Int32) * nI v = nI (10 * v) from pk_mul 10 v, show nI (g p) - (48 : Int32) = nI (g p - 48) from pk_sub (b := 48) d2, nI_add]
      have hL := hT.1
      obtain ⟨σ', k1, k2, k3, k4, k5, k6, k7⟩ := ih (x + 1) (10 * v + (g p - 48)) (p + 1) (g_up τ 4 4 (nI (p + 1))) (by omega) (by omega) (qTx_c hT (qu_j _ _ (by decide)) (qu_a _ _ (by decide))) d1 (qu_at _ _ _ _) (by rw [qu_j _ _ (by decide)]; exact h2)
      rw [if_pos rfl, h4, qg_i (show p < 60 by omega) (by decide), qk_c (by omega), hT.2.2.2 p d1, qk_s, qk_s, ev, ql, qs, e]
      exact ⟨σ', k1, fun a p q => by rw [k2 a p q, qu_a _ _ p], fun j p q => by rw [k3 j p q, qu_j _ _ q], k4, k5, k6, fun j p => by rw [k7 j p, qu_a _ _ (by decide)]⟩
theorem qt_num {m n : Nat} (hm0 : 1 ≤ m) (hm : m < 100) (hn : n < 3) {p : Nat} {τ : gS} (hT : qTx g L τ) (hp : p ≤ L) (h4 : τ 4 4 = nI p) (h2 : τ 4 2 = nI n) :
    ∃ σ', X5_readNumber τ (nI m) = some (qb (!(qnm g L m (false, p)).2.1), σ') ∧ (∀ a, a ≠ 4 → a ≠ 6 → σ' a = τ a) ∧ (∀ j, j ≠ 2 → j ≠ 4 → σ' 4 j = τ 4 j) ∧ σ' 4 4 = nI (qnm g L m (false, p)).2.2 ∧ (∀ j, j ≠ n → σ' 6 j = τ 6 j) ∧ ((qnm g L m (false, p)).2.1 = false → σ' 4 2 = nI (n + 1) ∧ σ' 6 n = nI (qnm g L m (false, p)).1) := by
  obtain ⟨k, rfl⟩ : ∃ k, m = k + 1 := ⟨m - 1, by omega⟩
  show ∃ σ', gr X5_readNumber_s (nI (k + 1), 0, 0, τ) = _ ∧ _
  rw [gr_eq]
  show ∃ σ', (X5_readNumber_k0 τ (nI (k + 1)) 0 0).bind _ = _ ∧ _
  unfold X5_readNumber_k0
  rw [if_neg (show ¬ nI (k + 1) ≤ 0 from nI_nle (by omega) (by omega)), qt_dig hT h4 hp, qs, qb_if]
  cases c : qdg g L p with
  | false =>
    have e : qnm g L (k + 1) (false, p) = (0, (true, p)) := by
      unfold qnm
      rw [show qdg g L (false, p).2 = false from c]; rfl
    rw [if_neg (by decide), if_pos rfl, qs, e]
    exact ⟨τ, rfl, fun _ _ _ => rfl, fun _ _ _ => rfl, h4, fun _ _ => rfl, fun q => by cases q⟩
  | true =>
    obtain ⟨d1, d2, d3⟩ := qdg_k c
    have e : qnm g L (k + 1) (false, p) = ((qN g L k (10 * 0 + (g p - 48)) (p + 1)).1, (false, (qN g L k (10 * 0 + (g p - 48)) (p + 1)).2)) := by
      have e1 : qN g L (k + 1) 0 p = qN g L k (10 * 0 + (g p - 48)) (p + 1) := if_pos c
      unfold qnm
      rw [show qdg g L (false, p).2 = true from c, ← e1]; rfl
    have ev : (10 : Int32) * 0 + (nI (g p) - 48) = nI (10 * 0 + (g p - 48)) := by
      rw [show (10 : Int32) * 0 = nI (10 * 0) from pk_mul 10 0, show nI (g p) - (48 : Int32) = nI (g p - 48) from pk_sub (b := 48) d2, nI_add]
    have hL := hT.1
    obtain ⟨σ', k1, k2, k3, k4, k5, k6, k7⟩ := qt_rn (g := g) (L := L) hm hn k 1 (10 * 0 + (g p - 48)) (p + 1) (g_up τ 4 4 (nI (p + 1))) (by omega) (by omega) (qTx_c hT (qu_j _ _ (by decide)) (qu_a _ _ (by decide))) d1 (qu_at _ _ _ _) (by rw [qu_j _ _ (by decide)]; exact h2)
    rw [if_pos rfl, h4, qg_i (show p < 60 by omega) (by decide), qk_c (by omega), hT.2.2.2 p d1, qk_s, ev, ql, qs, e]
    exact ⟨σ', k1, fun a p q => by rw [k2 a p q, qu_a _ _ p], fun j p q => by rw [k3 j p q, qu_j _ _ q], k4, fun j p => by rw [k7 j p, qu_a _ _ (by decide)], fun _ => ⟨k5, k6⟩⟩
theorem qt_sgn {c : Nat} (hc1 : c ≠ 35) (hc2 : c ≠ 42) (hc : c < 128) {p : Nat} {τ : gS} (hT : qTx g L τ) (hp : p ≤ L) (h4 : τ 4 4 = nI p) :
    ∃ σ', X5_readSign τ (nI c) = some (qb (!(qsg g L c (false, p)).1), σ') ∧ (∀ a, a ≠ 4 → σ' a = τ a) ∧ (∀ j, j ≠ 4 → σ' 4 j = τ 4 j) ∧ σ' 4 4 = nI (qsg g L c (false, p)).2 := by
  obtain ⟨hL, hg, h3, h5⟩ := hT
  unfold X5_readSign
  rw [if_neg (show ¬ nI c = 35 from fun q => hc1 ((qk_eq (a := c) (b := 35) (by omega) (by decide)).mp q)), if_neg (show ¬ nI c = 42 from fun q => hc2 ((qk_eq (a := c) (b := 42) (by omega) (by decide)).mp q)), h3, h4]
  by_cases c1 : p < L
  · have hgp := hg p c1
    rw [if_neg (nI_ge c1 (by omega)), qg_i (show p < 60 by omega) (by decide), qk_c (by omega), h5 p c1, qk_s]
    by_cases c2 : g p = c
    · have e : qsg g L c (false, p) = (false, p + 1) := by
        unfold qsg
        rw [show decide ((false, p).2 < L) = true from decide_eq_true c1, show decide (g (false, p).2 = c) = true from decide_eq_true c2]; rfl
      rw [if_pos (by rw [c2]), ql, e]
      exact ⟨_, rfl, fun a q => qu_a _ _ q, fun j q => qu_j _ _ q, qu_at _ _ _ _⟩
    · have e : qsg g L c (false, p) = (true, p) := by
        unfold qsg
        rw [show decide (g (false, p).2 = c) = false from decide_eq_false c2, Bool.and_false, Bool.and_false]; rfl
      rw [if_neg (fun q => c2 ((qk_eq (by omega) (by omega)).mp q)), e]
      exact ⟨τ, rfl, fun _ _ => rfl, fun _ _ => rfl, h4⟩
  · have e : qsg g L c (false, p) = (true, p) := by
      unfold qsg
      rw [show decide ((false, p).2 < L) = false from decide_eq_false c1, Bool.false_and, Bool.and_false]; rfl
    rw [if_pos (nI_le (by omega) (by omega)), e]
    exact ⟨τ, rfl, fun _ _ => rfl, fun _ _ => rfl, h4⟩
theorem qsh_n : ∀ k, k < 6 → ts_n k = (shl k).length ∧ (shl k).length ≤ 6 ∧ qnc (shl k) ≤ 3 := by decide
theorem qsh_c : ∀ k, k < 6 → ∀ x, x < 6 → x < (shl k).length → ts_c k (nI x) = nI ((shl k).getD x 0) ∧ (shl k).getD x 0 < 128 := by decide +kernel
theorem qz_drop {l : List Nat} {x : Nat} (h : x < l.length) : l.drop x = l.getD x 0 :: l.drop (x + 1) := by
  rw [List.drop_eq_getElem_cons h, List.getD_eq_getElem?_getD, List.getElem?_eq_getElem h]; rfl
theorem qt_step {c : Nat} (hc : c < 128) (cs : List Nat) {vs : List Nat} {p : Nat} {τ : gS} (hT : qTx g L τ) (hp : p ≤ L) (h4 : τ 4 4 = nI p) (h2 : τ 4 2 = nI vs.length) (h6 : ∀ j, j < vs.length → τ 6 j = nI (vs.getD j 0)) (hn : vs.length + qnc (c :: cs) ≤ 3) :
    ∃ σ1 vs' S', X5_readSign τ (nI c) = some (qb (!S'.1), σ1) ∧ (∀ a, a ≠ 4 → a ≠ 6 → σ1 a = τ a) ∧ (∀ j, j ≠ 2 → j ≠ 4 → σ1 4 j = τ 4 j) ∧ qfold g L (c :: cs) (vs, (false, p)) = qfold g L cs (vs', S') ∧ S'.2 ≤ L ∧ σ1 4 4 = nI S'.2 ∧ (S'.1 = false → σ1 4 2 = nI vs'.length ∧ (∀ j, j < vs'.length → σ1 6 j = nI (vs'.getD j 0)) ∧ vs'.length + qnc cs ≤ 3) := by
  have num : ∀ m, 1 ≤ m → m < 100 → (c = 35 ∨ c = 42) → X5_readSign τ (nI c) = (X5_readNumber τ (nI m)).bind (fun q => gd (bz q.1) <| some (q.1, q.2)) → ∃ σ1, X5_readSign τ (nI c) = some (qb (!(qnm g L m (false, p)).2.1), σ1) ∧ (∀ a, a ≠ 4 → a ≠ 6 → σ1 a = τ a) ∧ (∀ j, j ≠ 2 → j ≠ 4 → σ1 4 j = τ 4 j) ∧ (qnm g L m (false, p)).2.2 ≤ L ∧ σ1 4 4 = nI (qnm g L m (false, p)).2.2 ∧ ((qnm g L m (false, p)).2.1 = false → σ1 4 2 = nI (vs ++ [(qnm g L m (false, p)).1]).length ∧ (∀ j, j < (vs ++ [(qnm g L m (false, p)).1]).length → σ1 6 j = nI ((vs ++ [(qnm g L m (false, p)).1]).getD j 0)) ∧ (vs ++ [(qnm g L m (false, p)).1]).length + qnc cs ≤ 3) := by
    intro m m1 m2 mc e1
    unfold qnc at hn
    rw [if_pos mc] at hn
    have hvs : vs.length < 3 := by omega
    have el : (vs ++ [(qnm g L m (false, p)).1]).length = vs.length + 1 := by simp
    obtain ⟨σ1, s1, s2, s3, s4, s5, s6⟩ := qt_num m1 m2 hvs hT hp h4 h2
    rw [e1, s1, qs, qg (qb_bz _)]
    refine ⟨σ1, rfl, s2, s3, (qnm_ge g L m (false, p)).2 hp, s4, fun q => ?_⟩
    obtain ⟨t1, t2⟩ := s6 q
    rw [el]
    refine ⟨t1, fun j hj => ?_, by omega⟩
    by_cases e : j = vs.length
    · subst e; rw [q_getl]; exact t2
    · have hj2 : j < vs.length := by omega
      rw [q_geta _ _ hj2, s5 j e]; exact h6 j hj2
  by_cases c1 : c = 35
  · obtain ⟨σ1, k1, k2, k3, k4, k5, k6⟩ := num 1 (by decide) (by decide) (Or.inl c1) (by
      unfold X5_readSign
      rw [c1, if_pos (show nI 35 = 35 from rfl)]; rfl)
    exact ⟨σ1, _, _, k1, k2, k3, if_pos c1, k4, k5, k6⟩
  · by_cases c2 : c = 42
    · obtain ⟨σ1, k1, k2, k3, k4, k5, k6⟩ := num 4 (by decide) (by decide) (Or.inr c2) (by
        unfold X5_readSign
        rw [c2, if_neg (show ¬ nI 42 = 35 by decide), if_pos (show nI 42 = 42 from rfl)]; rfl)
      exact ⟨σ1, _, _, k1, k2, k3, (if_neg c1).trans (if_pos c2), k4, k5, k6⟩
    · obtain ⟨σ1, s1, s2, s3, s4⟩ := qt_sgn c1 c2 hc hT hp h4
      unfold qnc at hn
      exact ⟨σ1, vs, qsg g L c (false, p), s1, fun a p _ => s2 a p, fun j _ q => s3 j q, (if_neg c1).trans (if_neg c2), (qsg_ge g L c (false, p)).2 hp, s4, fun _ => ⟨by rw [s3 2 (by decide)]; exact h2, fun j hj => by rw [s2 6 (by decide)]; exact h6 j hj, by omega⟩⟩
theorem qt_fold {k : Nat} (hk : k < 6) : ∀ n x vs p (τ : gS), x + n = (shl k).length → qTx g L τ → p ≤ L → τ 4 4 = nI p → τ 4 2 = nI vs.length → (∀ j, j < vs.length → τ 6 j = nI (vs.getD j 0)) → vs.length + qnc ((shl k).drop x) ≤ 3 →
    ∃ σ', gr (X5_readEntry_s k) (nI x, τ) = some (qb (!(qfold g L ((shl k).drop x) (vs, (false, p))).2.1), σ') ∧ (∀ a, a ≠ 4 → a ≠ 6 → σ' a = τ a) ∧ (∀ j, j ≠ 2 → j ≠ 4 → σ' 4 j = τ 4 j) ∧ σ' 4 4 = nI (qfold g L ((shl k).drop x) (vs, (false, p))).2.2 ∧ ((qfold g L ((shl k).drop x) (vs, (false, p))).2.1 = false → ∀ j, j < (qfold g L ((shl k).drop x) (vs, (false, p))).1.length → σ' 6 j = nI ((qfold g L ((shl k).drop x) (vs, (false, p))).1.getD j 0)) := by
  obtain ⟨en, el6, _⟩ := qsh_n k hk
  intro n
  induction n with
  | zero =>
    intro x vs p τ hx hT hp h4 h2 h6 hc
    have ed : (shl k).drop x = [] := List.drop_eq_nil_of_le (by omega)
    rw [ed]
    refine ⟨τ, ?_, fun _ _ _ => rfl, fun _ _ _ => rfl, h4, fun _ => h6⟩
    rw [gr_eq]
    show (X5_readEntry_k0 τ k (nI x)).bind _ = _
    unfold X5_readEntry_k0
    rw [en, show x = (shl k).length by omega, if_pos (qk_end (by omega)), qs]; rfl
  | succ n ih =>
    intro x vs p τ hx hT hp h4 h2 h6 hc
    have hx2 : x < (shl k).length := by omega
    obtain ⟨ec, ec2⟩ := qsh_c k hk x (by omega) hx2
    rw [qz_drop hx2] at hc ⊢
    obtain ⟨σ1, vs', S', s1, s2, s3, s4, s5, s6, s7⟩ := qt_step ec2 ((shl k).drop (x + 1)) hT hp h4 h2 h6 hc
    obtain ⟨w, q⟩ := S'
    rw [s4, gr_eq]
    show ∃ σ', (X5_readEntry_k0 τ k (nI x)).bind _ = _ ∧ _
    unfold X5_readEntry_k0
    rw [en, if_neg (qk_ge hx2 (by omega)), qg_i hx2 (by omega), ec, qk_s, s1, qs, qb_if]
    cases w with
    | true =>
      rw [if_neg (show ¬ (!true) = true by decide), qs, qfold_w]
      exact ⟨σ1, rfl, s2, s3, s6, fun q => by cases q⟩
    | false =>
      obtain ⟨t1, t2, t3⟩ := s7 rfl
      obtain ⟨σ', k1, k2, k3, k4, k5⟩ := ih (x + 1) vs' q σ1 (by omega) (qTx_c hT (s3 3 (by decide) (by decide)) (s2 5 (by decide) (by decide))) s5 s6 t1 t2 t3
      rw [if_pos (show (!false) = true from rfl), qs]
      exact ⟨σ', k1, fun a p q => by rw [k2 a p q, s2 a p q], fun j p q => by rw [k3 j p q, s3 j p q], k4, k5⟩
theorem qt_entry {p : Nat} {τ : gS} (hT : qTx g L τ) (hp : p < L) (h4 : τ 4 4 = nI p) :
    ∃ σ', X5_readEntry τ = some (qb (!(qE g L p).2.1), σ') ∧ (∀ a, a ≠ 4 → a ≠ 6 → σ' a = τ a) ∧ σ' 4 3 = τ 4 3 ∧ σ' 4 4 = nI (qE g L p).2.2 ∧ σ' 4 5 = nI (g p) ∧ ((qE g L p).2.1 = false → ∀ j, j < (qE g L p).1.length → σ' 6 j = nI ((qE g L p).1.getD j 0)) := by
  have hT0 := hT
  obtain ⟨hL, hg, h3, h5⟩ := hT
  have hgp := hg p hp
  have hcz : cz (nI (g p)) = true := by
    unfold cz
    rw [nI_toInt (by omega)]
    exact decide_eq_true ⟨by omega, by omega⟩
  have hk := shp_lt (nI (g p))
  obtain ⟨en, el6, en3⟩ := qsh_n _ hk
  unfold X5_readEntry
  rw [h3, h4, if_pos (nI_lt hp (by omega)), qg_i (show p < 60 by omega) (by decide), qk_c (by omega), h5 p hp, qg hcz, ql, qu_at, ql, en]
  unfold qE
  by_cases c : (shl (shp (nI (g p)))).length = 0
  · rw [if_pos c, c, if_pos (show nI 0 = 0 from rfl), if_neg (by decide)]
    exact ⟨g_up τ 4 5 (nI (g p)), rfl, fun a q _ => qu_a _ _ q, by rw [qu_j _ _ (by decide)]; exact h3, by rw [qu_j _ _ (by decide)]; exact h4, qu_at _ _ _ _, fun q => by cases q⟩
  · rw [if_neg c, if_neg (show ¬ nI (shl (shp (nI (g p)))).length = 0 from fun q => c ((qk_eq (b := 0) (by omega) (by decide)).mp q)), if_pos rfl, ql, qu_j τ _ (show (4 : Nat) ≠ 5 by decide), h4, qk_s, ql]
    obtain ⟨σ', k1, k2, k3, k4, k5⟩ := qt_fold hk (shl (shp (nI (g p)))).length 0 [] (p + 1) (g_up (g_up (g_up τ 4 5 (nI (g p))) 4 4 (nI (p + 1))) 4 2 0) (by omega) (qTx_c hT0 (by rw [qu_j _ _ (by decide), qu_j _ _ (by decide), qu_j _ _ (by decide)]) (by rw [qu_a _ _ (by decide), qu_a _ _ (by decide), qu_a _ _ (by decide)])) (by omega) (by rw [qu_j _ _ (by decide), qu_at]) (qu_at _ _ _ _) (fun j hj => by simp at hj) (by
      show 0 + qnc (shl (shp (nI (g p)))) ≤ 3
      omega)
    refine ⟨σ', k1, fun a q r => by rw [k2 a q r, qu_a _ _ q, qu_a _ _ q, qu_a _ _ q], ?_, k4, ?_, k5⟩
    · rw [k3 3 (by decide) (by decide), qu_j _ _ (by decide), qu_j _ _ (by decide), qu_j _ _ (by decide)]; exact h3
    · rw [k3 5 (by decide) (by decide), qu_j _ _ (by decide), qu_j _ _ (by decide), qu_at]
end CRD
