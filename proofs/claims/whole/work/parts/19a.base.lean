/-! ===== plain facts for the pure layer: ints by numbers, sets as numbers, loops ===== -/
theorem qf_lit (n : Nat) : (OfNat.ofNat n : Int32) = nI n := rfl
theorem qf_and (a b : Nat) : nI a &&& nI b = nI (a &&& b) := by
  apply Int32.toBitVec_inj.1
  show BitVec.ofNat 32 a &&& BitVec.ofNat 32 b = BitVec.ofNat 32 (a &&& b)
  apply BitVec.eq_of_getLsbD_eq
  intro i hi
  simp [hi]
theorem qf_or (a b : Nat) : nI a ||| nI b = nI (a ||| b) := by
  apply Int32.toBitVec_inj.1
  show BitVec.ofNat 32 a ||| BitVec.ofNat 32 b = BitVec.ofNat 32 (a ||| b)
  apply BitVec.eq_of_getLsbD_eq
  intro i hi
  simp [hi]
theorem qf_xor (a b : Nat) : nI a ^^^ nI b = nI (a ^^^ b) := by
  apply Int32.toBitVec_inj.1
  show BitVec.ofNat 32 a ^^^ BitVec.ofNat 32 b = BitVec.ofNat 32 (a ^^^ b)
  apply BitVec.eq_of_getLsbD_eq
  intro i hi
  simp [hi]
theorem qf_sl : ∀ n, n < 32 → ((nI n &&& 31).toBitVec.smod 32).toNat = n := by decide +kernel
theorem qf_shl {k a : Nat} (hk : k < 32) (h : a * 2 ^ k < 2 ^ 32) : nI a <<< (nI k &&& 31) = nI (a * 2 ^ k) := pk_shlN (nI k &&& 31) k (qf_sl k hk) h
theorem qf_shl1 {k : Nat} (hk : k < 31) : (1 : Int32) <<< (nI k &&& 31) = nI (2 ^ k) := by
  have h : 2 ^ k < 2 ^ 32 := Nat.pow_lt_pow_right (by decide) (by omega)
  have := qf_shl (k := k) (a := 1) (by omega) (by omega)
  rw [Nat.one_mul] at this
  exact this
theorem qf_shr {n k : Nat} (h : n < 2 ^ 31) (hk : k < 32) : nI n >>> (nI k &&& 31) = nI (n / 2 ^ k) := pk_shrN h _ k (qf_sl k hk)
theorem qf_bit {n k : Nat} (h : n < 2 ^ 31) (hk : k < 32) : ((nI n >>> (nI k &&& 31)) &&& (1 : Int32)) = nI (if n.testBit k then 1 else 0) := by
  rw [qf_shr h hk, show (1 : Int32) = nI 1 from rfl, qf_and, Nat.and_one_is_mod, Nat.testBit_eq_decide_div_mod_eq]
  congr 1
  generalize n / 2 ^ k = z
  rcases Nat.mod_two_eq_zero_or_one z with e | e <;> simp [e]
theorem qf_bit0 {n k : Nat} (h : n < 2 ^ 31) (hk : k < 32) : ((nI n >>> (nI k &&& 31)) &&& (1 : Int32)) = 0 ↔ n.testBit k = false := by
  rw [qf_bit h hk]
  cases n.testBit k <;> simp <;> decide
theorem qf_bit1 {n k : Nat} (h : n < 2 ^ 31) (hk : k < 32) : ((nI n >>> (nI k &&& 31)) &&& (1 : Int32)) = 1 ↔ n.testBit k = true := by
  rw [qf_bit h hk]
  cases n.testBit k <;> simp <;> decide
/-! ints by their values -/
theorem qf_lt (a b : Int32) : a < b ↔ a.toInt < b.toInt := Int32.lt_iff_toInt_lt
theorem qf_le (a b : Int32) : a ≤ b ↔ a.toInt ≤ b.toInt := Int32.le_iff_toInt_le
theorem qf_eq (a b : Int32) : a = b ↔ a.toInt = b.toInt := Int32.toInt_inj.symm
theorem qf_rng (x : Int32) : -2147483648 ≤ x.toInt ∧ x.toInt < 2147483648 := by
  have h1 := Int32.le_toInt x
  have h2 := Int32.toInt_lt x
  omega
theorem qf_bmod {z : Int} (h1 : -2147483648 ≤ z) (h2 : z < 2147483648) : z.bmod (2 ^ 32) = z := by
  rw [Int.bmod_eq_of_le (by omega) (by omega)]
theorem qf_add {x y : Int32} (h1 : -2147483648 ≤ x.toInt + y.toInt) (h2 : x.toInt + y.toInt < 2147483648) : (x + y).toInt = x.toInt + y.toInt := by
  rw [Int32.toInt_add, qf_bmod h1 h2]
theorem qf_sub {x y : Int32} (h1 : -2147483648 ≤ x.toInt - y.toInt) (h2 : x.toInt - y.toInt < 2147483648) : (x - y).toInt = x.toInt - y.toInt := by
  rw [Int32.toInt_sub, qf_bmod h1 h2]
theorem qf_mul {x y : Int32} (h1 : -2147483648 ≤ x.toInt * y.toInt) (h2 : x.toInt * y.toInt < 2147483648) : (x * y).toInt = x.toInt * y.toInt := by
  rw [Int32.toInt_mul, qf_bmod h1 h2]
theorem qf_cl (x : Int32) : x.toNatClampNeg = x.toInt.toNat := rfl
/-- an int in a range is a number -/
theorem qf_of {x : Int32} (h : 0 ≤ x.toInt) : x = nI x.toNatClampNeg := by
  have := qf_rng x
  rw [qf_eq, nI_toInt (by rw [qf_cl]; omega), qf_cl]; omega
theorem qf_neg {x : Int32} (h : ¬ 0 ≤ x) : x < 0 := by
  rw [qf_le] at h; rw [qf_lt]
  have e : (0 : Int32).toInt = 0 := rfl
  rw [e] at h ⊢; omega
theorem qf_nneg {x : Int32} (h : ¬ x < 0) : 0 ≤ x := by
  rw [qf_lt] at h; rw [qf_le]
  have e : (0 : Int32).toInt = 0 := rfl
  rw [e] at h ⊢; omega
theorem qf_lt0 (x : Int32) : x < 0 ↔ ¬ 0 ≤ x := by
  rw [qf_lt, qf_le]
  have e : (0 : Int32).toInt = 0 := rfl
  rw [e]; omega
theorem qf_nle (x y : Int32) : x ≤ y ↔ ¬ y < x := by rw [qf_lt, qf_le]; omega
theorem qf_nlt (x y : Int32) : x < y ↔ ¬ y ≤ x := by rw [qf_lt, qf_le]; omega
/-! truth as an int -/
def qb (b : Bool) : Int32 := if b then 1 else 0
theorem qb_t : qb true = 1 := rfl
theorem qb_f : qb false = 0 := rfl
theorem qb_0 (b : Bool) : qb b = 0 ↔ b = false := by cases b <;> decide
theorem qb_1 (b : Bool) : qb b = 1 ↔ b = true := by cases b <;> decide
theorem qb_bz (b : Bool) : bz (qb b) = true := by cases b <;> decide
theorem qb_if {α : Type} (b : Bool) (x y : α) : (if qb b = 0 then x else y) = if b = true then y else x := by cases b <;> simp [qb]
theorem qb_ite {c : Prop} [Decidable c] : (if c then (some (1 : Int32)) else some 0) = some (qb (decide c)) := by by_cases h : c <;> simp [h, qb]
theorem qb_iten {c : Prop} [Decidable c] : (if c then (some (0 : Int32)) else some 1) = some (qb (!decide c)) := by by_cases h : c <;> simp [h, qb]
theorem qb_and {c : Prop} [Decidable c] (b : Bool) : (if c then (some (0 : Int32)) else some (qb b)) = some (qb (!decide c && b)) := by by_cases h : c <;> simp [h, qb]
/-- gd, where its fact holds -/
theorem qg {α : Type} {c : Bool} (h : c = true) (x : Option α) : gd c x = x := by unfold gd; rw [if_pos h]
theorem qg_i {α : Type} {t n : Nat} (h : t < n) (hn : n < 2 ^ 31) (x : Option α) : gd (ib (nI t) n) x = x := qg (ib_nI h hn) x
theorem ql {α β : Type} (x : α) (f : α → Option β) : lt_ x f = f x := rfl
theorem qs {α β : Type} (x : α) (f : α → Option β) : (some x).bind f = f x := rfl
/-! sets as numbers -/
def qm : Nat → (Nat → Bool) → Nat
  | 0, _ => 0
  | n + 1, p => qm n p + (if p n then 2 ^ n else 0)
theorem qm_lt : ∀ (n : Nat) (p : Nat → Bool), qm n p < 2 ^ n
  | 0, p => by show 0 < 1; decide
  | n + 1, p => by
    have h := qm_lt n p
    have e : 2 ^ (n + 1) = 2 ^ n + 2 ^ n := by rw [Nat.pow_succ]; omega
    unfold qm
    split <;> omega
theorem qm_tb : ∀ (n : Nat) (p : Nat → Bool) (k : Nat), (qm n p).testBit k = (decide (k < n) && p k)
  | 0, p, k => by simp [qm]
  | n + 1, p, k => by
    have h := qm_tb n p k
    have hl := qm_lt n p
    unfold qm
    by_cases hp : p n = true
    · rw [if_pos hp, Nat.add_comm]
      rcases Nat.lt_trichotomy k n with c | c | c
      · rw [Nat.testBit_two_pow_add_gt c, h]
        simp [c, Nat.lt_succ_of_lt c]
      · subst c
        rw [Nat.testBit_two_pow_add_eq, h]
        simp [hp]
      · have h2 : 2 ^ n + qm n p < 2 ^ k := by
          have e : 2 ^ (n + 1) = 2 ^ n + 2 ^ n := by rw [Nat.pow_succ]; omega
          have := Nat.pow_le_pow_right (n := 2) (by decide) (show n + 1 ≤ k from c)
          omega
        rw [Nat.testBit_lt_two_pow h2]
        have : ¬ k < n + 1 := by omega
        simp [this]
    · rw [if_neg hp, Nat.add_zero, h]
      rcases Nat.lt_trichotomy k n with c | c | c
      · simp [c, Nat.lt_succ_of_lt c]
      · subst c
        have : p k = false := by cases hq : p k <;> simp_all
        simp [this]
      · have h1 : ¬ k < n + 1 := by omega
        have h2 : ¬ k < n := by omega
        simp [h1, h2]
theorem qm_in {n k : Nat} {p : Nat → Bool} (h : k < n) : (qm n p).testBit k = p k := by rw [qm_tb]; simp [h]
theorem qm_no {n : Nat} {p : Nat → Bool} (h : p n = false) : qm (n + 1) p = qm n p := by
  show qm n p + _ = _
  rw [h]; simp
theorem qm_or {n : Nat} {p : Nat → Bool} (h : p n = true) : qm n p ||| 2 ^ n = qm (n + 1) p := by
  apply Nat.eq_of_testBit_eq
  intro i
  rw [Nat.testBit_or, qm_tb, qm_tb, Nat.testBit_two_pow]
  rcases Nat.lt_trichotomy i n with c | c | c
  · have : ¬ n = i := by omega
    simp [c, Nat.lt_succ_of_lt c, this]
  · subst c; simp [h]
  · have h1 : ¬ i < n + 1 := by omega
    have h2 : ¬ i < n := by omega
    have h3 : ¬ n = i := by omega
    simp [h1, h2, h3]
theorem qm_small {n : Nat} (p : Nat → Bool) (h : n ≤ 31) : qm n p < 2 ^ 31 := Nat.lt_of_lt_of_le (qm_lt n p) (Nat.pow_le_pow_right (by decide) h)
/-- a bit more, as the loops do it -/
theorem qm_y {n : Nat} {p : Nat → Bool} (hn : n < 31) (h : p n = true) : nI (qm n p) ||| ((1 : Int32) <<< (nI n &&& 31)) = nI (qm (n + 1) p) := by
  rw [qf_shl1 hn, qf_or, qm_or h]
theorem qm_z (n : Nat) (p : Nat → Bool) (h : p n = false) : nI (qm n p) ||| (0 : Int32) = nI (qm (n + 1) p) := by
  rw [show (0 : Int32) = nI 0 from rfl, qf_or, qm_no h, Nat.or_zero]
theorem qm_congr : ∀ {n : Nat} {p q : Nat → Bool}, (∀ k, k < n → p k = q k) → qm n p = qm n q
  | 0, p, q, h => rfl
  | n + 1, p, q, h => by
    show qm n p + _ = qm n q + _
    rw [qm_congr (fun k hk => h k (by omega)), h n (by omega)]
theorem qm_ext {n : Nat} {x : Nat} {p : Nat → Bool} (hx : x < 2 ^ n) (h : ∀ k, k < n → x.testBit k = p k) : x = qm n p := by
  apply Nat.eq_of_testBit_eq
  intro i
  rw [qm_tb]
  by_cases c : i < n
  · simp [c, h i c]
  · rw [Nat.testBit_lt_two_pow (Nat.lt_of_lt_of_le hx (Nat.pow_le_pow_right (by decide) (by omega)))]
    simp [c]
theorem qm_0 {n : Nat} {p : Nat → Bool} : qm n p = 0 ↔ ∀ k, k < n → p k = false := by
  constructor
  · intro h k hk
    have := qm_in (p := p) hk
    rw [h, Nat.zero_testBit] at this
    exact this.symm
  · intro h
    rw [qm_congr (q := fun _ => false) h]
    induction n with
    | zero => rfl
    | succ n ih => rw [qm_no rfl]; exact ih (fun k hk => h k (by omega))
theorem qm_i0 {n : Nat} {p : Nat → Bool} (hn : n ≤ 31) : nI (qm n p) = 0 ↔ ∀ k, k < n → p k = false := by
  rw [show (0 : Int32) = nI 0 from rfl, nI_eq (qm_small p hn) (by decide), qm_0]
theorem qm_and (n : Nat) (p q : Nat → Bool) : qm n p &&& qm n q = qm n (fun k => p k && q k) := by
  refine qm_ext (Nat.and_lt_two_pow _ (qm_lt n q)) (fun k hk => ?_)
  rw [Nat.testBit_and, qm_in hk, qm_in hk]
theorem qm_union (n : Nat) (p q : Nat → Bool) : qm n p ||| qm n q = qm n (fun k => p k || q k) := by
  refine qm_ext (Nat.or_lt_two_pow (qm_lt n p) (qm_lt n q)) (fun k hk => ?_)
  rw [Nat.testBit_or, qm_in hk, qm_in hk]
theorem qm_one {n k : Nat} (h : k < n) : 2 ^ k = qm n (fun i => decide (i = k)) := by
  refine qm_ext (Nat.pow_lt_pow_right (by decide) h) (fun i hi => ?_)
  rw [Nat.testBit_two_pow]
  exact decide_eq_decide.mpr ⟨fun h => h.symm, fun h => h.symm⟩
theorem qf_m1 : (-1 : Int32) = nI 4294967295 := by decide
theorem qm_andn {n : Nat} (hn : n ≤ 31) (p q : Nat → Bool) : nI (qm n p) &&& (nI (qm n q) ^^^ (-1 : Int32)) = nI (qm n (fun k => p k && !(q k))) := by
  rw [qf_m1, qf_xor, qf_and]
  congr 1
  refine qm_ext (Nat.lt_of_le_of_lt Nat.and_le_left (qm_lt n p)) (fun k hk => ?_)
  rw [Nat.testBit_and, Nat.testBit_xor, qm_in hk, qm_in hk, show (4294967295 : Nat) = 2 ^ 32 - 1 from rfl, Nat.testBit_two_pow_sub_one]
  have : k < 32 := by omega
  simp [this]
/-- one stay less -/
theorem qm_del {n k : Nat} (hn : n ≤ 31) (hk : k < n) (p : Nat → Bool) : nI (qm n p) &&& (((1 : Int32) <<< (nI k &&& 31)) ^^^ (-1 : Int32)) = nI (qm n (fun i => p i && !(decide (i = k)))) := by
  rw [qf_shl1 (by omega), qm_one hk, qm_andn hn]
theorem qm_add {n k : Nat} (hn : n ≤ 31) (hk : k < n) (p : Nat → Bool) : nI (qm n p) ||| ((1 : Int32) <<< (nI k &&& 31)) = nI (qm n (fun i => p i || decide (i = k))) := by
  rw [qf_shl1 (by omega), qm_one hk, qf_or, qm_union]
theorem qm_b0 {n k : Nat} {p : Nat → Bool} (hn : n ≤ 31) (hk : k < n) : ((nI (qm n p) >>> (nI k &&& 31)) &&& (1 : Int32)) = 0 ↔ p k = false := by
  rw [qf_bit0 (qm_small p hn) (by omega), qm_in hk]
theorem qm_b1 {n k : Nat} {p : Nat → Bool} (hn : n ≤ 31) (hk : k < n) : ((nI (qm n p) >>> (nI k &&& 31)) &&& (1 : Int32)) = 1 ↔ p k = true := by
  rw [qf_bit1 (qm_small p hn) (by omega), qm_in hk]
/-! loops over a number: no exit before the end; the first that is so -/
theorem qf_for {α β : Type} {step : α → Option (α ⊕ β)} {N : Nat} {b : β} (pt : Nat → α) (hs : ∀ i, i < N → step (pt i) = some (.inl (pt (i + 1)))) (he : step (pt N) = some (.inr b)) : ∀ i, i ≤ N → gr step (pt i) = some b := by
  have : ∀ k i, i + k = N → gr step (pt i) = some b := by
    intro k
    induction k with
    | zero =>
      intro i h
      have e : i = N := by omega
      subst e
      rw [gr_eq, he]; rfl
    | succ k ih =>
      intro i h
      rw [gr_eq, hs i (by omega)]
      exact ih (i + 1) (by omega)
  intro i hi
  exact this (N - i) i (by omega)
def qfi (p : Nat → Bool) : Nat → Nat → Option Nat
  | 0, _ => none
  | n + 1, i => if p i = true then some i else qfi p n (i + 1)
theorem qfi_congr {p q : Nat → Bool} : ∀ (n i : Nat), (∀ k, i ≤ k → k < i + n → p k = q k) → qfi p n i = qfi q n i
  | 0, i, h => rfl
  | n + 1, i, h => by
    unfold qfi
    rw [h i (by omega) (by omega), qfi_congr n (i + 1) (fun k h1 h2 => h k (by omega) (by omega))]
theorem qfi_some {p : Nat → Bool} : ∀ {n i j : Nat}, qfi p n i = some j → i ≤ j ∧ j < i + n ∧ p j = true ∧ ∀ k, i ≤ k → k < j → p k = false
  | 0, i, j, h => by cases h
  | n + 1, i, j, h => by
    unfold qfi at h
    split at h
    · rename_i hp
      cases h
      exact ⟨by omega, by omega, hp, fun k h1 h2 => by omega⟩
    · rename_i hp
      obtain ⟨h1, h2, h3, h4⟩ := qfi_some h
      refine ⟨by omega, by omega, h3, fun k h5 h6 => ?_⟩
      by_cases c : k = i
      · subst c; cases hq : p k <;> simp_all
      · exact h4 k (by omega) h6
theorem qfi_none {p : Nat → Bool} : ∀ {n i : Nat}, qfi p n i = none → ∀ k, i ≤ k → k < i + n → p k = false
  | 0, i, h => fun k h1 h2 => by omega
  | n + 1, i, h => by
    unfold qfi at h
    split at h
    · cases h
    · rename_i hp
      intro k h1 h2
      by_cases c : k = i
      · subst c; cases hq : p k <;> simp_all
      · exact qfi_none h k (by omega) (by omega)
theorem qfi_of {p : Nat → Bool} : ∀ {n i j : Nat}, i ≤ j → j < i + n → p j = true → (∀ k, i ≤ k → k < j → p k = false) → qfi p n i = some j
  | 0, i, j, h1, h2, h3, h4 => by omega
  | n + 1, i, j, h1, h2, h3, h4 => by
    unfold qfi
    by_cases c : i = j
    · subst c; rw [if_pos h3]
    · rw [if_neg (by rw [h4 i (by omega) (by omega)]; decide)]
      exact qfi_of (by omega) (by omega) h3 (fun k h5 h6 => h4 k (by omega) h6)
theorem qfi_no {p : Nat → Bool} : ∀ {n i : Nat}, (∀ k, i ≤ k → k < i + n → p k = false) → qfi p n i = none
  | 0, i, h => rfl
  | n + 1, i, h => by
    unfold qfi
    rw [if_neg (by rw [h i (by omega) (by omega)]; decide)]
    exact qfi_no (fun k h1 h2 => h k (by omega) (by omega))
theorem qf_find {α β : Type} {step : α → Option (α ⊕ β)} {N : Nat} {b : β} {p : Nat → Bool} {out : Nat → β} (pt : Nat → α) (hs : ∀ i, i < N → p i = false → step (pt i) = some (.inl (pt (i + 1)))) (hx : ∀ i, i < N → p i = true → step (pt i) = some (.inr (out i))) (he : step (pt N) = some (.inr b)) : ∀ n i, i + n = N → gr step (pt i) = some (match qfi p n i with | some j => out j | none => b) := by
  intro n
  induction n with
  | zero =>
    intro i h
    have e : i = N := by omega
    subst e
    rw [gr_eq, he]; rfl
  | succ n ih =>
    intro i h
    unfold qfi
    by_cases c : p i = true
    · rw [gr_eq, hx i (by omega) c, if_pos c]; rfl
    · rw [gr_eq, hs i (by omega) (by cases hq : p i <;> simp_all), if_neg c]
      exact ih (i + 1) (by omega)
/-- a loop that carries what it likes: J holds on the way, Q of what comes out -/
theorem qf_inv {α β γ : Type} {step : α → Option (α ⊕ β)} {N : Nat} {J : Nat → γ → Prop} {Q : β → Prop} (pt : Nat → γ → α)
    (hs : ∀ i g, i < N → J i g → (∃ g', step (pt i g) = some (.inl (pt (i + 1) g')) ∧ J (i + 1) g') ∨ (∃ b, step (pt i g) = some (.inr b) ∧ Q b))
    (he : ∀ g, J N g → ∃ b, step (pt N g) = some (.inr b) ∧ Q b) : ∀ i g, i ≤ N → J i g → ∃ b, gr step (pt i g) = some b ∧ Q b := by
  have : ∀ k i g, i + k = N → J i g → ∃ b, gr step (pt i g) = some b ∧ Q b := by
    intro k
    induction k with
    | zero =>
      intro i g h hJ
      have e : i = N := by omega
      subst e
      obtain ⟨b, h1, h2⟩ := he g hJ
      exact ⟨b, by rw [gr_eq, h1]; rfl, h2⟩
    | succ k ih =>
      intro i g h hJ
      rcases hs i g (by omega) hJ with ⟨g', h1, h2⟩ | ⟨b, h1, h2⟩
      · obtain ⟨b, h3, h4⟩ := ih (i + 1) g' (by omega) h2
        exact ⟨b, by rw [gr_eq, h1]; exact h3, h4⟩
      · exact ⟨b, by rw [gr_eq, h1]; rfl, h2⟩
  intro i g hi hJ
  exact this (N - i) i g (by omega) hJ
/-! conditions of the loops -/
theorem qk_ge {N i : Nat} (h : i < N) (hN : N < 2 ^ 31) : ¬ nI N ≤ nI i := nI_ge h hN
theorem qk_end {N : Nat} (hN : N < 2 ^ 31) : nI N ≤ nI N := nI_le (Nat.le_refl N) hN
theorem qk_s (i : Nat) : nI i + 1 = nI (i + 1) := nI_1 i
theorem qk_20 {i : Nat} (h : i < 20) : ¬ (20 : Int32) ≤ nI i := nI_ge h (by decide)
theorem qk_e20 : (20 : Int32) ≤ nI 20 := nI_le (Nat.le_refl 20) (by decide)
theorem qk_8 {i : Nat} (h : i < 8) : ¬ (8 : Int32) ≤ nI i := nI_ge h (by decide)
theorem qk_e8 : (8 : Int32) ≤ nI 8 := nI_le (Nat.le_refl 8) (by decide)
theorem qk_h {k : Nat} (h : k < 20) : nI k >>> ((1 : Int32) &&& 31) = nI (k / 2) := by
  have := qf_shr (n := k) (k := 1) (by omega) (by decide)
  exact this
theorem qk_d {k : Nat} (h : k < 20) : nI k / (2 : Int32) = nI (k / 2) := pk_div (a := k) (d := 2) (by omega) (by decide) (by decide)
theorem qk_r {k : Nat} (h : k < 20) : nI k - nI k / (2 : Int32) * (2 : Int32) = nI (k % 2) := pk_rem (a := k) (d := 2) (by omega) (by decide) (by decide)
theorem qk_m2 (t : Nat) : (2 : Int32) * nI t = nI (2 * t) := pk_mul 2 t
theorem qk_m2p (t : Nat) : (2 : Int32) * nI t + (1 : Int32) = nI (2 * t + 1) := by rw [qk_m2, qk_s]
theorem qk_m8 (s t : Nat) : nI s * (8 : Int32) + nI t = nI (s * 8 + t) := by rw [show nI s * (8 : Int32) = nI (s * 8) from pk_mul s 8, nI_add]
theorem qk_p0 {k : Nat} (h : k < 20) : (nI (k % 2) = 0) ↔ k % 2 = 0 := nI_eq (a := k % 2) (b := 0) (by omega) (by decide)
theorem qk_eq {a b : Nat} (ha : a < 2 ^ 31) (hb : b < 2 ^ 31) : nI a = nI b ↔ a = b := nI_eq ha hb
theorem qk_c {n : Nat} (h : n < 2 ^ 31) : (nI n).toNatClampNeg = n := nI_clamp h
