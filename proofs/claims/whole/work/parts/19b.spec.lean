/-! ===== the airport as a row of numbers M (the law's second program keeps it so): what is asked of it ===== -/
def qs_n (M : Nat → Int32) : Nat := (M 0).toNatClampNeg
def qs_t (M : Nat → Int32) : Nat := (M 1).toNatClampNeg
def qs_is (M : Nat → Int32) (k : Nat) : Bool := decide (k / 2 < qs_t M) && (decide (k % 2 = 0) || decide (0 ≤ M (96 + 7 * (k / 2))))
def qs_on (M : Nat → Int32) (k : Nat) : Int32 := M (97 + 7 * (k / 2) + k % 2)
def qs_sn (M : Nat → Int32) (k : Nat) : Nat := (qs_on M k).toNatClampNeg
def qs_io (M : Nat → Int32) (k : Nat) : Bool := qs_is M k && decide (0 ≤ qs_on M k)
def qs_fr (M : Nat → Int32) (k : Nat) : Int32 := if k % 2 = 0 then M (93 + 7 * (k / 2)) else M (96 + 7 * (k / 2)) + 10
def qs_to (M : Nat → Int32) (k : Nat) : Int32 := if k % 2 = 0 then (if M (96 + 7 * (k / 2)) < 0 then M (94 + 7 * (k / 2)) else M (96 + 7 * (k / 2))) else M (94 + 7 * (k / 2))
def qs_sz (M : Nat → Int32) (k : Nat) : Int32 := M (92 + 7 * (k / 2))
def qs_wt (M : Nat → Int32) (k : Nat) : Int32 := M (95 + 7 * (k / 2))
def qs_li (M : Nat → Int32) (i j : Nat) : Int32 := M (28 + 8 * i + j)
/-- the stay k would be hindered on the stand s -/
def qs_hs (M : Nat → Int32) (k s : Nat) : Bool := decide (M (20 + s) = 0) || decide (M (12 + s) < qs_sz M k)
def qs_hi (M : Nat → Int32) (k : Nat) : Bool := qs_io M k && qs_hs M k (qs_sn M k)
/-- k on s and o on r would be in conflict -/
def qs_w (M : Nat → Int32) (k s o r : Nat) : Bool :=
  if s = r then decide (qs_fr M o < qs_to M k + M 2) && decide (qs_fr M k < qs_to M o + M 2)
  else decide (0 ≤ qs_li M s r) && (decide (qs_li M s r < qs_sz M k + qs_sz M o) && (decide (qs_fr M o < qs_to M k) && decide (qs_fr M k < qs_to M o)))
/-- k on s would be in conflict with o, where o is -/
def qs_cl (M : Nat → Int32) (k s o : Nat) : Bool := !decide (o = k) && (qs_io M o && qs_w M k s o (qs_sn M o))
def qs_cf (M : Nat → Int32) (a b : Nat) : Bool := qs_io M a && qs_cl M a (qs_sn M a) b
/-- what holds of a turn's numbers -/
def qs_T (M : Nat → Int32) (i : Nat) : Prop :=
  0 ≤ (M (93 + 7 * i)).toInt ∧ (M (93 + 7 * i)).toInt + 30 ≤ (M (94 + 7 * i)).toInt ∧ (M (94 + 7 * i)).toInt ≤ 1440
  ∧ (1 ≤ (M (95 + 7 * i)).toInt ∧ (M (95 + 7 * i)).toInt ≤ 9)
  ∧ (M (96 + 7 * i) = -1 ∨ ((M (93 + 7 * i)).toInt + 10 ≤ (M (96 + 7 * i)).toInt ∧ (M (96 + 7 * i)).toInt + 20 ≤ (M (94 + 7 * i)).toInt))
  ∧ (-1 ≤ (M (97 + 7 * i)).toInt ∧ (M (97 + 7 * i)).toInt < qs_n M) ∧ (-1 ≤ (M (98 + 7 * i)).toInt ∧ (M (98 + 7 * i)).toInt < qs_n M)
  ∧ (M (96 + 7 * i) = -1 → M (98 + 7 * i) = -1)
def qs_V (M : Nat → Int32) : Prop :=
  (M 0 = nI (qs_n M) ∧ qs_n M ≤ 8) ∧ (M 1 = nI (qs_t M) ∧ qs_t M ≤ 10) ∧ (0 ≤ (M 2).toInt ∧ (M 2).toInt ≤ 60)
  ∧ (∀ i, i < qs_n M → (M (4 + i) = 0 ∨ M (4 + i) = 1 ∨ M (4 + i) = 2) ∧ (M (20 + i) = 0 ∨ M (20 + i) = 1))
  ∧ (∀ i j, i < 8 → j < 8 → qs_li M i j = qs_li M j i ∧ (qs_n M ≤ i → qs_li M i j = -1))
  ∧ (∀ i, i < qs_t M → qs_T M i)
/-- twelve rows of cells from b on -/
def qr_b (σ : gS) (b : Nat) : Nat → Nat → Int32 := fun j => if j < 12 then σ (b + j) else fun _ => 0
/-- the rows A hold the airport M -/
def qr_R (A : Nat → Nat → Int32) (M : Nat → Int32) : Prop :=
  qs_V M ∧ (A 0 0 = M 0 ∧ A 0 1 = M 1 ∧ A 0 2 = M 2 ∧ A 0 3 = M 3)
  ∧ (∃ w : Nat, w < 256 ∧ A 0 4 = nI w ∧ ∀ i, i < qs_n M → M (20 + i) = if w.testBit i then 1 else 0)
  ∧ (∀ i, i < qs_n M → A 1 i = M (4 + i) ∧ A 2 i = M (12 + i))
  ∧ (∀ i j, i < qs_n M → j < qs_n M → A 3 (i * 8 + j) = qs_li M i j)
  ∧ (∀ i, i < qs_t M → A 4 i = M (92 + 7 * i) ∧ A 5 i = M (93 + 7 * i) ∧ A 6 i = M (94 + 7 * i) ∧ A 7 i = M (95 + 7 * i) ∧ A 8 i = M (96 + 7 * i))
  ∧ (∀ k, k < 20 → qs_is M k = true → A 9 k = qs_fr M k ∧ A 10 k = qs_to M k)
  ∧ (∀ k, k < 20 → A 11 k = if qs_io M k = true then qs_on M k else -1)
/-! what V gives -/
theorem qv_n {M : Nat → Int32} (h : qs_V M) : M 0 = nI (qs_n M) := h.1.1
theorem qv_n8 {M : Nat → Int32} (h : qs_V M) : qs_n M ≤ 8 := h.1.2
theorem qv_t {M : Nat → Int32} (h : qs_V M) : M 1 = nI (qs_t M) := h.2.1.1
theorem qv_t10 {M : Nat → Int32} (h : qs_V M) : qs_t M ≤ 10 := h.2.1.2
theorem qv_T {M : Nat → Int32} (h : qs_V M) {i : Nat} (hi : i < qs_t M) : qs_T M i := h.2.2.2.2.2 i hi
theorem qv_li {M : Nat → Int32} (h : qs_V M) {i j : Nat} (hi : i < 8) (hj : j < 8) : qs_li M i j = qs_li M j i := (h.2.2.2.2.1 i j hi hj).1
theorem qv_ln {M : Nat → Int32} (h : qs_V M) {i j : Nat} (hi : i < 8) (hj : j < 8) (hn : qs_n M ≤ i) : qs_li M i j = -1 := (h.2.2.2.2.1 i j hi hj).2 hn
theorem qv_kd {M : Nat → Int32} (h : qs_V M) {i : Nat} (hi : i < qs_n M) : M (4 + i) = 0 ∨ M (4 + i) = 1 ∨ M (4 + i) = 2 := (h.2.2.2.1 i hi).1
theorem qv_op {M : Nat → Int32} (h : qs_V M) {i : Nat} (hi : i < qs_n M) : M (20 + i) = 0 ∨ M (20 + i) = 1 := (h.2.2.2.1 i hi).2
theorem qv_is {M : Nat → Int32} {k : Nat} (h : qs_is M k = true) : k / 2 < qs_t M := by
  unfold qs_is at h
  simp only [Bool.and_eq_true, decide_eq_true_eq] at h
  exact h.1
theorem qv_k {M : Nat → Int32} (hV : qs_V M) {k : Nat} (h : qs_is M k = true) : k < 20 := by
  have h1 := qv_is h
  have h2 := qv_t10 hV
  omega
theorem qv_io {M : Nat → Int32} {k : Nat} (h : qs_io M k = true) : qs_is M k = true ∧ 0 ≤ qs_on M k := by
  unfold qs_io at h
  simp only [Bool.and_eq_true, decide_eq_true_eq] at h
  exact h
/-- where a stay is: a stand that there is, or none -/
theorem qv_on {M : Nat → Int32} (hV : qs_V M) {k : Nat} (h : k / 2 < qs_t M) : -1 ≤ (qs_on M k).toInt ∧ (qs_on M k).toInt < qs_n M := by
  obtain ⟨-, -, -, -, -, h1, h2, -⟩ := qv_T hV h
  unfold qs_on
  rcases Nat.mod_two_eq_zero_or_one k with e | e
  · rw [e, Nat.add_zero]; exact h1
  · rw [e, show 97 + 7 * (k / 2) + 1 = 98 + 7 * (k / 2) by omega]; exact h2
theorem qv_sn {M : Nat → Int32} (hV : qs_V M) {k : Nat} (h : qs_io M k = true) : qs_on M k = nI (qs_sn M k) ∧ qs_sn M k < qs_n M := by
  obtain ⟨h1, h2⟩ := qv_io h
  have h3 := qv_on hV (qv_is h1)
  have h4 : 0 ≤ (qs_on M k).toInt := by
    have := (qf_le _ _).mp h2
    exact this
  refine ⟨qf_of h4, ?_⟩
  unfold qs_sn
  rw [qf_cl]; omega
theorem qv_non {M : Nat → Int32} (hV : qs_V M) {k : Nat} (h : k / 2 < qs_t M) (h2 : ¬ 0 ≤ qs_on M k) : qs_on M k = -1 := by
  have h3 := qv_on hV h
  rw [qf_le] at h2
  have e : (0 : Int32).toInt = 0 := rfl
  have e1 : (-1 : Int32).toInt = -1 := by decide
  rw [qf_eq, e1]; rw [e] at h2; omega
/-- a stay that there isn't is on no stand -/
theorem qv_nis {M : Nat → Int32} (hV : qs_V M) {k : Nat} (h : k / 2 < qs_t M) (h2 : qs_is M k = false) : qs_on M k = -1 := by
  obtain ⟨-, -, -, -, h5, -, -, h8⟩ := qv_T hV h
  unfold qs_is at h2
  simp only [h, decide_true, Bool.true_and, Bool.or_eq_false_iff, decide_eq_false_iff_not] at h2
  obtain ⟨e1, e2⟩ := h2
  have e3 : k % 2 = 1 := by omega
  have e4 : M (96 + 7 * (k / 2)) = -1 := by
    rcases h5 with h5 | h5
    · exact h5
    · exfalso
      apply e2
      rw [qf_le]
      have e : (0 : Int32).toInt = 0 := rfl
      rw [e]
      obtain ⟨h1, -⟩ := qv_T hV h
      omega
  unfold qs_on
  rw [e3, show 97 + 7 * (k / 2) + 1 = 98 + 7 * (k / 2) by omega]
  exact h8 e4
theorem qv_tw {M : Nat → Int32} (hV : qs_V M) {i : Nat} (h : i < qs_t M) (h2 : ¬ 0 ≤ M (96 + 7 * i)) : M (96 + 7 * i) = -1 := by
  obtain ⟨h1, -, -, -, h5, -⟩ := qv_T hV h
  rcases h5 with h5 | h5
  · exact h5
  · exfalso
    apply h2
    rw [qf_le]
    have e : (0 : Int32).toInt = 0 := rfl
    rw [e]; omega
theorem qv_is0 {M : Nat → Int32} {t : Nat} (h : t < qs_t M) : qs_is M (2 * t) = true := by
  unfold qs_is
  have e1 : 2 * t / 2 = t := by omega
  have e2 : 2 * t % 2 = 0 := by omega
  rw [e1, e2]; simp [h]
theorem qv_is1 {M : Nat → Int32} {t : Nat} (h : t < qs_t M) : qs_is M (2 * t + 1) = decide (0 ≤ M (96 + 7 * t)) := by
  unfold qs_is
  have e1 : (2 * t + 1) / 2 = t := by omega
  have e2 : (2 * t + 1) % 2 = 1 := by omega
  rw [e1, e2]; simp [h]
/-! what R gives, of the cells from b on -/
section QR
variable {σ : gS} {b : Nat} {M : Nat → Int32}
theorem qr_V (h : qr_R (qr_b σ b) M) : qs_V M := h.1
theorem qr_0 (h : qr_R (qr_b σ b) M) : σ b 0 = nI (qs_n M) := h.2.1.1.trans h.1.1.1
theorem qr_1 (h : qr_R (qr_b σ b) M) : σ b 1 = nI (qs_t M) := h.2.1.2.1.trans h.1.2.1.1
theorem qr_2 (h : qr_R (qr_b σ b) M) : σ b 2 = M 2 := h.2.1.2.2.1
theorem qr_3 (h : qr_R (qr_b σ b) M) : σ b 3 = M 3 := h.2.1.2.2.2
theorem qr_4 (h : qr_R (qr_b σ b) M) : ∃ w : Nat, w < 256 ∧ σ b 4 = nI w ∧ ∀ i, i < qs_n M → M (20 + i) = if w.testBit i then 1 else 0 := h.2.2.1
theorem qr_kd (h : qr_R (qr_b σ b) M) {i : Nat} (hi : i < qs_n M) : σ (b + 1) i = M (4 + i) := (h.2.2.2.1 i hi).1
theorem qr_ss (h : qr_R (qr_b σ b) M) {i : Nat} (hi : i < qs_n M) : σ (b + 2) i = M (12 + i) := (h.2.2.2.1 i hi).2
theorem qr_li (h : qr_R (qr_b σ b) M) {i j : Nat} (hi : i < qs_n M) (hj : j < qs_n M) : σ (b + 3) (i * 8 + j) = qs_li M i j := h.2.2.2.2.1 i j hi hj
theorem qr_sz (h : qr_R (qr_b σ b) M) {i : Nat} (hi : i < qs_t M) : σ (b + 4) i = M (92 + 7 * i) := (h.2.2.2.2.2.1 i hi).1
theorem qr_ar (h : qr_R (qr_b σ b) M) {i : Nat} (hi : i < qs_t M) : σ (b + 5) i = M (93 + 7 * i) := (h.2.2.2.2.2.1 i hi).2.1
theorem qr_dp (h : qr_R (qr_b σ b) M) {i : Nat} (hi : i < qs_t M) : σ (b + 6) i = M (94 + 7 * i) := (h.2.2.2.2.2.1 i hi).2.2.1
theorem qr_wt (h : qr_R (qr_b σ b) M) {i : Nat} (hi : i < qs_t M) : σ (b + 7) i = M (95 + 7 * i) := (h.2.2.2.2.2.1 i hi).2.2.2.1
theorem qr_tw (h : qr_R (qr_b σ b) M) {i : Nat} (hi : i < qs_t M) : σ (b + 8) i = M (96 + 7 * i) := (h.2.2.2.2.2.1 i hi).2.2.2.2
theorem qr_fr (h : qr_R (qr_b σ b) M) {k : Nat} (hk : qs_is M k = true) : σ (b + 9) k = qs_fr M k := (h.2.2.2.2.2.2.1 k (qv_k h.1 hk) hk).1
theorem qr_to (h : qr_R (qr_b σ b) M) {k : Nat} (hk : qs_is M k = true) : σ (b + 10) k = qs_to M k := (h.2.2.2.2.2.2.1 k (qv_k h.1 hk) hk).2
theorem qr_on (h : qr_R (qr_b σ b) M) {k : Nat} (hk : k < 20) : σ (b + 11) k = if qs_io M k = true then qs_on M k else -1 := h.2.2.2.2.2.2.2 k hk
theorem qr_ony (h : qr_R (qr_b σ b) M) {k : Nat} (hk : qs_io M k = true) : σ (b + 11) k = nI (qs_sn M k) := by
  rw [qr_on h (qv_k h.1 (qv_io hk).1), if_pos hk, (qv_sn h.1 hk).1]
theorem qr_onn (h : qr_R (qr_b σ b) M) {k : Nat} (h2 : k < 20) (hk : qs_io M k = false) : σ (b + 11) k = -1 := by
  rw [qr_on h h2, hk]; simp
theorem qr_ons (h : qr_R (qr_b σ b) M) {k : Nat} (hk : qs_is M k = true) : σ (b + 11) k = qs_on M k := by
  rw [qr_on h (qv_k h.1 hk)]
  by_cases c : qs_io M k = true
  · rw [if_pos c]
  · rw [if_neg c]
    have h2 : ¬ 0 ≤ qs_on M k := by
      intro q
      apply c
      unfold qs_io
      rw [hk]; simp [q]
    exact (qv_non h.1 (qv_is hk) h2).symm
/-- whether a stand is open: the bit -/
theorem qr_opn (h : qr_R (qr_b σ b) M) {s : Nat} (hs : s < qs_n M) : ((σ b 4 >>> (nI s &&& 31)) &&& (1 : Int32)) = 0 ↔ M (20 + s) = 0 := by
  obtain ⟨w, h1, h2, h3⟩ := qr_4 h
  have := qv_n8 h.1
  rw [h2, qf_bit0 (by omega) (by omega), h3 s hs]
  cases w.testBit s <;> simp
end QR
