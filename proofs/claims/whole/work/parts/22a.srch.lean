/-! ===== repairs: the search, without the cells ===== -/
def qfs {α : Type} (f : Nat → Option α) : Nat → Nat → Option α
  | 0, _ => none
  | n + 1, i => match f i with | some x => some x | none => qfs f n (i + 1)
theorem qfs_s {α : Type} {f : Nat → Option α} {n i : Nat} {x : α} (h : f i = some x) : qfs f (n + 1) i = some x := by
  simp only [qfs, h]
theorem qfs_n {α : Type} {f : Nat → Option α} {n i : Nat} (h : f i = none) : qfs f (n + 1) i = qfs f n (i + 1) := by
  simp only [qfs, h]
theorem qfs_congr {α : Type} {f g : Nat → Option α} : ∀ (n i : Nat), (∀ k, i ≤ k → k < i + n → f k = g k) → qfs f n i = qfs g n i
  | 0, i, h => rfl
  | n + 1, i, h => by
    have h1 := h i (by omega) (by omega)
    have h2 := qfs_congr n (i + 1) (fun k a b => h k (by omega) (by omega))
    cases c : f i with
    | some x => rw [qfs_s c, qfs_s (h1 ▸ c)]
    | none => rw [qfs_n c, qfs_n (h1 ▸ c), h2]
theorem qfs_none {α : Type} {f : Nat → Option α} : ∀ (n i : Nat), (∀ k, i ≤ k → k < i + n → f k = none) → qfs f n i = none
  | 0, i, h => rfl
  | n + 1, i, h => by
    rw [qfs_n (h i (by omega) (by omega))]
    exact qfs_none n (i + 1) (fun k a b => h k (by omega) (by omega))
theorem qfs_app {α : Type} {f : Nat → Option α} : ∀ (n m i : Nat), (∀ k, i + n ≤ k → k < i + n + m → f k = none) → qfs f (n + m) i = qfs f n i
  | 0, m, i, h => by
    rw [Nat.zero_add]
    exact qfs_none m i (fun k a b => h k (by omega) (by omega))
  | n + 1, m, i, h => by
    rw [show n + 1 + m = n + m + 1 by omega]
    cases c : f i with
    | some x => rw [qfs_s c, qfs_s c]
    | none => rw [qfs_n c, qfs_n c, qfs_app n m (i + 1) (fun k a b => h k (by omega) (by omega))]
theorem qfs_some {α : Type} {f : Nat → Option α} {x : α} : ∀ {n i : Nat}, qfs f n i = some x → ∃ k, i ≤ k ∧ k < i + n ∧ f k = some x
  | 0, i, h => by cases h
  | n + 1, i, h => by
    cases c : f i with
    | some y =>
      rw [qfs_s c] at h
      exact ⟨i, by omega, by omega, by rw [c]; exact h⟩
    | none =>
      rw [qfs_n c] at h
      obtain ⟨k, a, b, e⟩ := qfs_some h
      exact ⟨k, by omega, by omega, e⟩
theorem qfs_ex {α : Type} {f : Nat → Option α} {k : Nat} {x : α} : ∀ {n i : Nat}, i ≤ k → k < i + n → f k = some x → ∃ y, qfs f n i = some y
  | 0, i, h1, h2, h3 => by omega
  | n + 1, i, h1, h2, h3 => by
    cases c : f i with
    | some y => exact ⟨y, qfs_s c⟩
    | none =>
      rw [qfs_n c]
      by_cases e : i = k
      · subst e; rw [c] at h3; cases h3
      · exact qfs_ex (by omega) (by omega) h3
/-- the others are sound among themselves -/
def qz_og (M : Nat → Int32) (l : List Nat) : Bool := decide (qm 20 (fun a => (qs_io M a && !decide (a ∈ l)) && (qs_hi M a || !decide (qm 20 (fun b => qs_cf M a b && !decide (b ∈ l)) = 0))) = 0)
/-- k may go to s, beside those that are not moved -/
def qz_fr (M : Nat → Int32) (l : List Nat) (k s : Nat) : Bool := ((decide (s < qs_n M) && !decide (s = qs_sn M k)) && !qs_hs M k s) && decide (qm 20 (fun o => qs_cl M k s o && !decide (o ∈ l)) = 0)
/-- it agrees with those that were moved before it -/
def qz_ag (M : Nat → Int32) (l t : List Nat) (k s : Nat) : Bool := decide (qm t.length (fun j => qs_w M k s (l.getD j 0) (t.getD j 0)) = 0)
def qtg (M : Nat → Int32) (l : List Nat) : Nat → List Nat → Option (List Nat)
  | 0, t => some t
  | r + 1, t => qfs (fun s => if (qz_fr M l (l.getD t.length 0) s && qz_ag M l t (l.getD t.length 0) s) = true then qtg M l r (t ++ [s]) else none) 8 0
/-- the moved ones are sound -/
def qz_mg (M : Nat → Int32) (l t : List Nat) : Bool := decide (qm l.length (fun i => (qs_hs M (l.getD i 0) (t.getD i 0) || !decide (qm 20 (fun o => qs_cl M (l.getD i 0) (t.getD i 0) o && !decide (o ∈ l)) = 0)) || !decide (qm l.length (fun j => !decide (j = i) && qs_w M (l.getD i 0) (t.getD i 0) (l.getD j 0) (t.getD j 0)) = 0)) = 0)
def qtm (M : Nat → Int32) (l : List Nat) : Nat → List Nat → Option (List Nat)
  | 0, t => if qz_mg M l t = true then some t else none
  | r + 1, t => qfs (fun s => if s = qs_sn M (l.getD t.length 0) then none else qtm M l r (t ++ [s])) (qs_n M) 0
def qz_ok (M : Nat → Int32) (l t : List Nat) : Prop := ∀ i, i < t.length → qz_fr M l (l.getD i 0) (t.getD i 0) = true ∧ ∀ j, j < i → qs_w M (l.getD i 0) (t.getD i 0) (l.getD j 0) (t.getD j 0) = false
theorem q_getl (t : List Nat) (s : Nat) : (t ++ [s]).getD t.length 0 = s := by simp
theorem q_geta (t : List Nat) (s : Nat) {i : Nat} (h : i < t.length) : (t ++ [s]).getD i 0 = t.getD i 0 := by
  rw [List.getD_eq_getElem?_getD, List.getD_eq_getElem?_getD, List.getElem?_append_left h]
theorem qz_ok_s {M : Nat → Int32} {l t : List Nat} {s : Nat} : qz_ok M l (t ++ [s]) ↔ qz_ok M l t ∧ (qz_fr M l (l.getD t.length 0) s && qz_ag M l t (l.getD t.length 0) s) = true := by
  unfold qz_ok qz_ag
  constructor
  · intro h
    refine ⟨fun i hi => ?_, ?_⟩
    · have := h i (by rw [List.length_append]; omega)
      rw [q_geta t s hi] at this
      refine ⟨this.1, fun j hj => ?_⟩
      have := this.2 j hj
      rw [q_geta t s (by omega)] at this
      exact this
    · have := h t.length (by simp)
      rw [q_getl] at this
      rw [this.1, Bool.true_and]
      refine decide_eq_true (qm_0.mpr (fun j hj => ?_))
      have := this.2 j hj
      rw [q_geta t s hj] at this
      exact this
  · rintro ⟨h1, h2⟩ i hi
    rw [List.length_append] at hi
    simp only [Bool.and_eq_true, decide_eq_true_eq] at h2
    by_cases e : i = t.length
    · subst e
      rw [q_getl]
      refine ⟨h2.1, fun j hj => ?_⟩
      rw [q_geta t s hj]
      exact qm_0.mp h2.2 j hj
    · have hi2 : i < t.length := by simp at hi; omega
      have := h1 i hi2
      rw [q_geta t s hi2]
      refine ⟨this.1, fun j hj => ?_⟩
      rw [q_geta t s (by omega)]
      exact this.2 j hj
/-- the stands so far are other ones that there are -/
def qz_rg (M : Nat → Int32) (l t : List Nat) : Prop := ∀ i, i < t.length → t.getD i 0 < qs_n M ∧ t.getD i 0 ≠ qs_sn M (l.getD i 0)
theorem qz_rg_s {M : Nat → Int32} {l t : List Nat} {s : Nat} (h : qz_rg M l t) (h1 : s < qs_n M) (h2 : s ≠ qs_sn M (l.getD t.length 0)) : qz_rg M l (t ++ [s]) := by
  intro i hi
  rw [List.length_append] at hi
  by_cases e : i = t.length
  · subst e; rw [q_getl]; exact ⟨h1, h2⟩
  · have hi2 : i < t.length := by simp at hi; omega
    rw [q_geta t s hi2]; exact h i hi2
theorem qz_mg_ok {M : Nat → Int32} (hV : qs_V M) {l t : List Nat} (hl : t.length = l.length) (hr : qz_rg M l t) : qz_mg M l t = true ↔ qz_ok M l t := by
  have h8 := qv_n8 hV
  unfold qz_mg qz_ok qz_fr
  rw [decide_eq_true_eq, qm_0, hl]
  constructor
  · intro h i hi
    have hi2 := h i hi
    simp only [Bool.or_eq_false_iff, Bool.not_eq_false', decide_eq_true_eq] at hi2
    obtain ⟨⟨a1, a2⟩, a3⟩ := hi2
    have hg := hr i (by omega)
    refine ⟨?_, fun j hj => ?_⟩
    · rw [decide_eq_true hg.1, decide_eq_false hg.2, a1, decide_eq_true a2]; rfl
    · have := qm_0.mp a3 j (by omega)
      rw [decide_eq_false (by omega)] at this
      simpa using this
  · intro h i hi
    obtain ⟨a1, a2⟩ := h i hi
    simp only [Bool.and_eq_true, Bool.not_eq_true', decide_eq_true_eq] at a1
    obtain ⟨⟨-, a3⟩, a4⟩ := a1
    simp only [Bool.or_eq_false_iff, Bool.not_eq_false', decide_eq_true_eq]
    refine ⟨⟨a3, a4⟩, qm_0.mpr (fun j hj => ?_)⟩
    by_cases e : j = i
    · rw [decide_eq_true e]; rfl
    · rw [decide_eq_false e]
      rcases Nat.lt_or_ge j i with q | q
      · rw [a2 j q]; rfl
      · have b1 := (hr i (by omega)).1
        have b2 := (hr j (by omega)).1
        rw [qs_w_sym hV (by omega) (by omega), (h j hj).2 i (by omega)]
        rfl
theorem qtm_eq {M : Nat → Int32} (hV : qs_V M) {l : List Nat} : ∀ (r : Nat) (t : List Nat), t.length + r = l.length → qz_rg M l t → (qz_ok M l t → qtm M l r t = qtg M l r t) ∧ (¬ qz_ok M l t → qtm M l r t = none)
  | 0, t, h, hr => by
    have e := qz_mg_ok hV (l := l) (t := t) (by omega) hr
    constructor
    · intro ho
      show (if qz_mg M l t = true then some t else none) = some t
      rw [if_pos (e.mpr ho)]
    · intro ho
      show (if qz_mg M l t = true then some t else none) = none
      rw [if_neg (fun q => ho (e.mp q))]
  | r + 1, t, h, hr => by
    have h8 := qv_n8 hV
    have ih := fun s (h1 : s < qs_n M) (h2 : s ≠ qs_sn M (l.getD t.length 0)) => qtm_eq hV r (t ++ [s]) (by simp; omega) (qz_rg_s hr h1 h2)
    constructor
    · intro ho
      show qfs _ (qs_n M) 0 = qfs _ 8 0
      rw [show 8 = qs_n M + (8 - qs_n M) by omega, qfs_app (qs_n M) (8 - qs_n M) 0 (fun s a b => ?_)]
      · refine qfs_congr _ _ (fun s a b => ?_)
        by_cases c : s = qs_sn M (l.getD t.length 0)
        · rw [if_pos c, if_neg]
          unfold qz_fr
          rw [decide_eq_true c]
          simp
        · rw [if_neg c]
          by_cases c2 : (qz_fr M l (l.getD t.length 0) s && qz_ag M l t (l.getD t.length 0) s) = true
          · rw [if_pos c2]
            exact (ih s (by omega) c).1 (qz_ok_s.mpr ⟨ho, c2⟩)
          · rw [if_neg c2]
            exact (ih s (by omega) c).2 (fun q => c2 (qz_ok_s.mp q).2)
      · rw [if_neg]
        unfold qz_fr
        rw [decide_eq_false (show ¬ s < qs_n M by omega)]
        simp
    · intro ho
      refine qfs_none _ _ (fun s a b => ?_)
      by_cases c : s = qs_sn M (l.getD t.length 0)
      · rw [if_pos c]
      · rw [if_neg c]
        exact (ih s (by omega) c).2 (fun q => ho (qz_ok_s.mp q).1)
/-- both searches for the stands -/
theorem qtm_tg {M : Nat → Int32} (hV : qs_V M) (l : List Nat) : qtm M l l.length [] = qtg M l l.length [] := (qtm_eq hV l.length [] (by simp) (fun i hi => by simp at hi)).1 (fun i hi => by simp at hi)
theorem qtg_ok {M : Nat → Int32} {l : List Nat} : ∀ (r : Nat) (t T : List Nat), qz_ok M l t → qtg M l r t = some T → qz_ok M l T ∧ T.length = t.length + r
  | 0, t, T, h, e => by
    have : some t = some T := e
    cases this
    exact ⟨h, by omega⟩
  | r + 1, t, T, h, e => by
    obtain ⟨s, -, -, e2⟩ := qfs_some e
    by_cases c : (qz_fr M l (l.getD t.length 0) s && qz_ag M l t (l.getD t.length 0) s) = true
    · rw [if_pos c] at e2
      have := qtg_ok r (t ++ [s]) T (qz_ok_s.mpr ⟨h, c⟩) e2
      exact ⟨this.1, by rw [this.2]; simp; omega⟩
    · rw [if_neg c] at e2; cases e2
/-- a set of stays, and the stands for them -/
def qlf (M : Nat → Int32) (l : List Nat) : Option (List Nat) := if qz_og M l = true then qtg M l l.length [] else none
def qlg (M : Nat → Int32) : Nat → Nat → List Nat → Option (List Nat × List Nat)
  | 0, _, l => (qlf M l).map (fun t => (l, t))
  | r + 1, a, l => qfs (fun k => if qs_io M k = true then qlg M r (k + 1) (l ++ [k]) else none) (20 - a) a
/-- the first repair -/
def qrp (M : Nat → Int32) : Option (List Nat × List Nat) := qfs (fun c => qlg M c 0 []) 4 0
def qz_asc (M : Nat → Int32) (l : List Nat) (a : Nat) : Prop := (∀ k, k ∈ l → k < a ∧ k < 20 ∧ qs_io M k = true) ∧ l.Nodup
theorem qz_asc_s {M : Nat → Int32} {l : List Nat} {a k : Nat} (h : qz_asc M l a) (h1 : a ≤ k) (h2 : k < 20) (h3 : qs_io M k = true) : qz_asc M (l ++ [k]) (k + 1) := by
  constructor
  · intro j hj
    rcases List.mem_append.mp hj with q | q
    · have := h.1 j q; exact ⟨by omega, this.2⟩
    · have : j = k := by simpa using q
      subst this; exact ⟨by omega, h2, h3⟩
  · rw [List.nodup_append]
    refine ⟨h.2, by simp, fun x hx y hy => ?_⟩
    have := h.1 x hx
    have e : y = k := by simpa using hy
    omega
theorem qlg_k {M : Nat → Int32} : ∀ (r a : Nat) (l : List Nat) (L T : List Nat), qz_asc M l a → qlg M r a l = some (L, T) → L.length = l.length + r ∧ T.length = L.length ∧ (∀ k, k ∈ L → k < 20 ∧ qs_io M k = true) ∧ L.Nodup ∧ qz_ok M L T
  | 0, a, l, L, T, h, e => by
    have e : (qlf M l).map (fun t => (l, t)) = some (L, T) := e
    unfold qlf at e
    by_cases c : qz_og M l = true
    · rw [if_pos c] at e
      cases e2 : qtg M l l.length [] with
      | none => rw [e2] at e; cases e
      | some t =>
        rw [e2] at e
        have e3 : (l, t) = (L, T) := Option.some.inj e
        have e4 : l = L := congrArg Prod.fst e3
        have e5 : t = T := congrArg Prod.snd e3
        rw [← e4, ← e5]
        have := qtg_ok l.length [] t (fun i hi => by simp at hi) e2
        exact ⟨by omega, by rw [this.2]; simp, fun k hk => (h.1 k hk).2, h.2, this.1⟩
    · rw [if_neg c] at e; cases e
  | r + 1, a, l, L, T, h, e => by
    obtain ⟨k, k1, k2, e2⟩ := qfs_some e
    by_cases c : qs_io M k = true
    · rw [if_pos c] at e2
      have := qlg_k r (k + 1) (l ++ [k]) L T (qz_asc_s h k1 (by omega) c) e2
      refine ⟨by rw [this.1]; simp; omega, this.2⟩
    · rw [if_neg c] at e2; cases e2
