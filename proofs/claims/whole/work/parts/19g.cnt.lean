/-! ===== counts, and the JDK's count of bits ===== -/
def qcnt : Nat → (Nat → Bool) → Nat
  | 0, _ => 0
  | n + 1, p => qcnt n p + (if p n = true then 1 else 0)
theorem qcnt_le : ∀ (n : Nat) (p : Nat → Bool), qcnt n p ≤ n
  | 0, p => Nat.le_refl 0
  | n + 1, p => by
    have := qcnt_le n p
    show qcnt n p + _ ≤ n + 1
    split <;> omega
theorem qcnt_y {n : Nat} {p : Nat → Bool} (h : p n = true) : qcnt (n + 1) p = qcnt n p + 1 := by
  show qcnt n p + _ = _
  rw [if_pos h]
theorem qcnt_n {n : Nat} {p : Nat → Bool} (h : p n = false) : qcnt (n + 1) p = qcnt n p := by
  show qcnt n p + _ = _
  rw [h]; simp
theorem qcnt_congr : ∀ {n : Nat} {p q : Nat → Bool}, (∀ k, k < n → p k = q k) → qcnt n p = qcnt n q
  | 0, p, q, h => rfl
  | n + 1, p, q, h => by
    show qcnt n p + _ = qcnt n q + _
    rw [qcnt_congr (fun k hk => h k (by omega)), h n (by omega)]
theorem qcnt_hi {p : Nat → Bool} {n : Nat} : ∀ m, (∀ k, n ≤ k → k < n + m → p k = false) → qcnt (n + m) p = qcnt n p
  | 0, h => rfl
  | m + 1, h => by
    rw [← Nat.add_assoc, qcnt_n (h (n + m) (by omega) (by omega))]
    exact qcnt_hi m (fun k h1 h2 => h k h1 (by omega))
theorem qm_hi {p : Nat → Bool} {n : Nat} : ∀ m, (∀ k, n ≤ k → k < n + m → p k = false) → qm (n + m) p = qm n p
  | 0, h => rfl
  | m + 1, h => by
    rw [← Nat.add_assoc, qm_no (h (n + m) (by omega) (by omega))]
    exact qm_hi m (fun k h1 h2 => h k h1 (by omega))
theorem q_and16 {q d M c : Nat} (hd : d < 16) (hc : c < 16) : (16 * q + d) &&& (16 * M + c) = 16 * (q &&& M) + (d &&& c) := by
  apply Nat.eq_of_testBit_eq
  intro i
  have h3 : d &&& c < 2 ^ 4 := Nat.and_lt_two_pow _ hc
  rw [Nat.testBit_and, show (16 : Nat) = 2 ^ 4 from rfl, Nat.testBit_two_pow_mul_add q hd i, Nat.testBit_two_pow_mul_add M hc i, Nat.testBit_two_pow_mul_add (q &&& M) h3 i]
  split <;> rw [Nat.testBit_and]
theorem q_s1 {q d M : Nat} (hd : d < 16) : ((16 * q + d) / 2) &&& (16 * M + 5) = 16 * ((q / 2) &&& M) + ((d / 2) &&& 5) := by
  have e : (16 * q + d) / 2 = 16 * (q / 2) + (8 * (q % 2) + d / 2) := by omega
  rw [e, q_and16 (by omega) (by decide)]
  congr 1
  have h1 : ∀ x, x < 8 → (8 * 0 + x) &&& 5 = x &&& 5 := by decide
  have h2 : ∀ x, x < 8 → (8 * 1 + x) &&& 5 = x &&& 5 := by decide
  rcases Nat.mod_two_eq_zero_or_one q with c | c <;> rw [c]
  · exact h1 _ (by omega)
  · exact h2 _ (by omega)
theorem q_s2 {q d M : Nat} (hd : d < 16) : ((16 * q + d) / 4) &&& (16 * M + 3) = 16 * ((q / 4) &&& M) + ((d / 4) &&& 3) := by
  have e : (16 * q + d) / 4 = 16 * (q / 4) + (4 * (q % 4) + d / 4) := by omega
  rw [e, q_and16 (by omega) (by decide)]
  congr 1
  have h1 : ∀ y, y < 4 → ∀ x, x < 4 → (4 * y + x) &&& 3 = x &&& 3 := by decide
  exact h1 _ (by omega) _ (by omega)
def q_g (d : Nat) : Nat := d - ((d / 2) &&& 5)
def q_c (d : Nat) : Nat := (q_g d &&& 3) + ((q_g d / 4) &&& 3)
theorem q_gle : ∀ d, d < 16 → (d / 2) &&& 5 ≤ d := by decide
theorem q_c4 : ∀ d, d < 16 → q_c d ≤ 4 := by decide
theorem q_cb {a b c d : Nat} (ha : a ≤ 1) (hb : b ≤ 1) (hc : c ≤ 1) (hd : d ≤ 1) : q_c (a + 2 * b + 4 * c + 8 * d) = a + b + c + d := by
  rcases (show a = 0 ∨ a = 1 by omega) with rfl | rfl <;> rcases (show b = 0 ∨ b = 1 by omega) with rfl | rfl <;> rcases (show c = 0 ∨ c = 1 by omega) with rfl | rfl <;> rcases (show d = 0 ∨ d = 1 by omega) with rfl | rfl <;> decide
def q_5 (a b c d e : Nat) : Nat := 16 * (16 * (16 * (16 * (16 * 0 + e) + d) + c) + b) + a
theorem q_5v {a b c d e : Nat} : q_5 a b c d e = a + 16 * b + 256 * c + 4096 * d + 65536 * e := by unfold q_5; omega
theorem q_fold {x y z : Nat} (hx : x ≤ 8) (hy : y ≤ 8) (hz : z ≤ 4) : (q_5 x 0 y 0 z + q_5 x 0 y 0 z / 256 + (q_5 x 0 y 0 z + q_5 x 0 y 0 z / 256) / 65536) % 2 ^ 6 = x + y + z := by
  have e1 : q_5 x 0 y 0 z = x + 256 * y + 65536 * z := by rw [q_5v]; omega
  have e2 : (x + 256 * y + 65536 * z) / 256 = y + 256 * z := by omega
  have e3 : (x + 256 * y + 65536 * z + (y + 256 * z)) / 65536 = z := by omega
  rw [e1, e2, e3]; omega
theorem q_bcN {d0 d1 d2 d3 d4 : Nat} (h0 : d0 < 16) (h1 : d1 < 16) (h2 : d2 < 16) (h3 : d3 < 16) (h4 : d4 < 16) (σ : gS) : J6_bitCount_0f7a4 σ (nI (q_5 d0 d1 d2 d3 d4)) = some (nI (q_c d0 + q_c d1 + q_c d2 + q_c d3 + q_c d4)) := by
  have ju1 : ∀ n, n < 2 ^ 32 → ju (nI n) 1 = nI (n / 2) := fun n hn => pk_ushrN hn 1 1 (by decide)
  have ju2 : ∀ n, n < 2 ^ 32 → ju (nI n) 2 = nI (n / 4) := fun n hn => pk_ushrN hn 2 2 (by decide)
  have ju4 : ∀ n, n < 2 ^ 32 → ju (nI n) 4 = nI (n / 16) := fun n hn => pk_ushrN hn 4 4 (by decide)
  have ju8 : ∀ n, n < 2 ^ 32 → ju (nI n) 8 = nI (n / 256) := fun n hn => pk_ushrN hn 8 8 (by decide)
  have ju16 : ∀ n, n < 2 ^ 32 → ju (nI n) 16 = nI (n / 65536) := fun n hn => pk_ushrN hn 16 16 (by decide)
  have g0 := q_gle d0 h0
  have g1 := q_gle d1 h1
  have g2 := q_gle d2 h2
  have g3 := q_gle d3 h3
  have g4 := q_gle d4 h4
  have k0 := q_c4 d0 h0
  have k1 := q_c4 d1 h1
  have k2 := q_c4 d2 h2
  have k3 := q_c4 d3 h3
  have k4 := q_c4 d4 h4
  have hm : q_5 d0 d1 d2 d3 d4 < 1048576 := by rw [q_5v]; omega
  have s1 : (q_5 d0 d1 d2 d3 d4 / 2) &&& 1431655765 = q_5 ((d0 / 2) &&& 5) ((d1 / 2) &&& 5) ((d2 / 2) &&& 5) ((d3 / 2) &&& 5) ((d4 / 2) &&& 5) := by
    unfold q_5
    rw [show (1431655765 : Nat) = 16 * (16 * (16 * (16 * (16 * 1365 + 5) + 5) + 5) + 5) + 5 from rfl, q_s1 h0, q_s1 h1, q_s1 h2, q_s1 h3, q_s1 h4, Nat.zero_div, Nat.zero_and]
  have s2 : q_5 d0 d1 d2 d3 d4 - q_5 ((d0 / 2) &&& 5) ((d1 / 2) &&& 5) ((d2 / 2) &&& 5) ((d3 / 2) &&& 5) ((d4 / 2) &&& 5) = q_5 (q_g d0) (q_g d1) (q_g d2) (q_g d3) (q_g d4) := by
    unfold q_g
    rw [q_5v, q_5v, q_5v]; omega
  have s2le : q_5 ((d0 / 2) &&& 5) ((d1 / 2) &&& 5) ((d2 / 2) &&& 5) ((d3 / 2) &&& 5) ((d4 / 2) &&& 5) ≤ q_5 d0 d1 d2 d3 d4 := by rw [q_5v, q_5v]; omega
  have b0 : q_g d0 < 16 := by unfold q_g; omega
  have b1 : q_g d1 < 16 := by unfold q_g; omega
  have b2 : q_g d2 < 16 := by unfold q_g; omega
  have b3 : q_g d3 < 16 := by unfold q_g; omega
  have b4 : q_g d4 < 16 := by unfold q_g; omega
  have hg : q_5 (q_g d0) (q_g d1) (q_g d2) (q_g d3) (q_g d4) < 1048576 := by rw [q_5v]; omega
  have s3 : q_5 (q_g d0) (q_g d1) (q_g d2) (q_g d3) (q_g d4) &&& 858993459 = q_5 (q_g d0 &&& 3) (q_g d1 &&& 3) (q_g d2 &&& 3) (q_g d3 &&& 3) (q_g d4 &&& 3) := by
    unfold q_5
    rw [show (858993459 : Nat) = 16 * (16 * (16 * (16 * (16 * 819 + 3) + 3) + 3) + 3) + 3 from rfl, q_and16 b0 (by decide), q_and16 b1 (by decide), q_and16 b2 (by decide), q_and16 b3 (by decide), q_and16 b4 (by decide), Nat.zero_and]
  have s4 : (q_5 (q_g d0) (q_g d1) (q_g d2) (q_g d3) (q_g d4) / 4) &&& 858993459 = q_5 ((q_g d0 / 4) &&& 3) ((q_g d1 / 4) &&& 3) ((q_g d2 / 4) &&& 3) ((q_g d3 / 4) &&& 3) ((q_g d4 / 4) &&& 3) := by
    unfold q_5
    rw [show (858993459 : Nat) = 16 * (16 * (16 * (16 * (16 * 819 + 3) + 3) + 3) + 3) + 3 from rfl, q_s2 b0, q_s2 b1, q_s2 b2, q_s2 b3, q_s2 b4, Nat.zero_div, Nat.zero_and]
  have s5 : q_5 (q_g d0 &&& 3) (q_g d1 &&& 3) (q_g d2 &&& 3) (q_g d3 &&& 3) (q_g d4 &&& 3) + q_5 ((q_g d0 / 4) &&& 3) ((q_g d1 / 4) &&& 3) ((q_g d2 / 4) &&& 3) ((q_g d3 / 4) &&& 3) ((q_g d4 / 4) &&& 3) = q_5 (q_c d0) (q_c d1) (q_c d2) (q_c d3) (q_c d4) := by
    unfold q_c
    rw [q_5v, q_5v, q_5v]; omega
  have hc : q_5 (q_c d0) (q_c d1) (q_c d2) (q_c d3) (q_c d4) < 1048576 := by rw [q_5v]; omega
  have s6 : q_5 (q_c d0) (q_c d1) (q_c d2) (q_c d3) (q_c d4) + q_5 (q_c d0) (q_c d1) (q_c d2) (q_c d3) (q_c d4) / 16 = q_5 (q_c d0 + q_c d1) (q_c d1 + q_c d2) (q_c d2 + q_c d3) (q_c d3 + q_c d4) (q_c d4) := by
    rw [q_5v, q_5v]; omega
  have a15 : ∀ x, x < 16 → x &&& 15 = x := by decide
  have a0 : ∀ x : Nat, x &&& 0 = 0 := fun x => Nat.and_zero x
  have s7 : q_5 (q_c d0 + q_c d1) (q_c d1 + q_c d2) (q_c d2 + q_c d3) (q_c d3 + q_c d4) (q_c d4) &&& 252645135 = q_5 (q_c d0 + q_c d1) 0 (q_c d2 + q_c d3) 0 (q_c d4) := by
    unfold q_5
    rw [show (252645135 : Nat) = 16 * (16 * (16 * (16 * (16 * 240 + 15) + 0) + 15) + 0) + 15 from rfl, q_and16 (by omega) (by decide), q_and16 (by omega) (by decide), q_and16 (by omega) (by decide), q_and16 (by omega) (by decide), q_and16 (by omega) (by decide), Nat.zero_and, a0, a0, a15 _ (by omega), a15 _ (by omega), a15 _ (by omega)]
  unfold J6_bitCount_0f7a4
  rw [ql, ql]
  rw [ju1 _ (by omega), show (1431655765 : Int32) = nI 1431655765 from rfl, show (858993459 : Int32) = nI 858993459 from rfl, show (252645135 : Int32) = nI 252645135 from rfl, qf_and, s1, pk_sub s2le, s2, qf_and, s3, ju2 _ (by omega), qf_and, s4, nI_add, s5, ju4 _ (by omega), nI_add, s6, qf_and, s7]
  have hw : q_5 (q_c d0 + q_c d1) 0 (q_c d2 + q_c d3) 0 (q_c d4) < 1048576 := by rw [q_5v]; omega
  rw [ju8 _ (by omega), nI_add, ju16 _ (by rw [q_5v]; omega), nI_add, pk_andN (by rw [q_5v]; omega) 6 (by decide)]
  rw [q_fold (by omega) (by omega) (by omega)]
  congr 2
  omega
theorem q_bc (σ : gS) (p : Nat → Bool) : J6_bitCount_0f7a4 σ (nI (qm 20 p)) = some (nI (qcnt 20 p)) := by
  have hb : ∀ i, (if p i = true then 1 else 0) ≤ 1 := fun i => by split <;> omega
  have ec : qcnt 20 p = (((if p 0 = true then 1 else 0) + (if p 1 = true then 1 else 0) + (if p 2 = true then 1 else 0) + (if p 3 = true then 1 else 0)) + ((if p 4 = true then 1 else 0) + (if p 5 = true then 1 else 0) + (if p 6 = true then 1 else 0) + (if p 7 = true then 1 else 0)) + ((if p 8 = true then 1 else 0) + (if p 9 = true then 1 else 0) + (if p 10 = true then 1 else 0) + (if p 11 = true then 1 else 0)) + ((if p 12 = true then 1 else 0) + (if p 13 = true then 1 else 0) + (if p 14 = true then 1 else 0) + (if p 15 = true then 1 else 0)) + ((if p 16 = true then 1 else 0) + (if p 17 = true then 1 else 0) + (if p 18 = true then 1 else 0) + (if p 19 = true then 1 else 0))) := by
    simp only [qcnt]; omega
  have em : ∀ (i c : Nat), (if p i = true then c else 0) = c * (if p i = true then 1 else 0) := fun i c => by split <;> omega
  have e5 : qm 20 p = q_5 ((if p 0 = true then 1 else 0) + 2 * (if p 1 = true then 1 else 0) + 4 * (if p 2 = true then 1 else 0) + 8 * (if p 3 = true then 1 else 0)) ((if p 4 = true then 1 else 0) + 2 * (if p 5 = true then 1 else 0) + 4 * (if p 6 = true then 1 else 0) + 8 * (if p 7 = true then 1 else 0)) ((if p 8 = true then 1 else 0) + 2 * (if p 9 = true then 1 else 0) + 4 * (if p 10 = true then 1 else 0) + 8 * (if p 11 = true then 1 else 0)) ((if p 12 = true then 1 else 0) + 2 * (if p 13 = true then 1 else 0) + 4 * (if p 14 = true then 1 else 0) + 8 * (if p 15 = true then 1 else 0)) ((if p 16 = true then 1 else 0) + 2 * (if p 17 = true then 1 else 0) + 4 * (if p 18 = true then 1 else 0) + 8 * (if p 19 = true then 1 else 0)) := by
    rw [q_5v]
    simp only [qm]
    rw [em 0, em 1, em 2, em 3, em 4, em 5, em 6, em 7, em 8, em 9, em 10, em 11, em 12, em 13, em 14, em 15, em 16, em 17, em 18, em 19]
    generalize (if p 0 = true then 1 else 0) = x0
    generalize (if p 1 = true then 1 else 0) = x1
    generalize (if p 2 = true then 1 else 0) = x2
    generalize (if p 3 = true then 1 else 0) = x3
    generalize (if p 4 = true then 1 else 0) = x4
    generalize (if p 5 = true then 1 else 0) = x5
    generalize (if p 6 = true then 1 else 0) = x6
    generalize (if p 7 = true then 1 else 0) = x7
    generalize (if p 8 = true then 1 else 0) = x8
    generalize (if p 9 = true then 1 else 0) = x9
    generalize (if p 10 = true then 1 else 0) = x10
    generalize (if p 11 = true then 1 else 0) = x11
    generalize (if p 12 = true then 1 else 0) = x12
    generalize (if p 13 = true then 1 else 0) = x13
    generalize (if p 14 = true then 1 else 0) = x14
    generalize (if p 15 = true then 1 else 0) = x15
    generalize (if p 16 = true then 1 else 0) = x16
    generalize (if p 17 = true then 1 else 0) = x17
    generalize (if p 18 = true then 1 else 0) = x18
    generalize (if p 19 = true then 1 else 0) = x19
    omega
  have c0 := hb 0
  have c1 := hb 1
  have c2 := hb 2
  have c3 := hb 3
  have c4 := hb 4
  have c5 := hb 5
  have c6 := hb 6
  have c7 := hb 7
  have c8 := hb 8
  have c9 := hb 9
  have c10 := hb 10
  have c11 := hb 11
  have c12 := hb 12
  have c13 := hb 13
  have c14 := hb 14
  have c15 := hb 15
  have c16 := hb 16
  have c17 := hb 17
  have c18 := hb 18
  have c19 := hb 19
  rw [e5, ec, q_bcN (by omega) (by omega) (by omega) (by omega) (by omega), q_cb c0 c1 c2 c3, q_cb c4 c5 c6 c7, q_cb c8 c9 c10 c11, q_cb c12 c13 c14 c15, q_cb c16 c17 c18 c19]
