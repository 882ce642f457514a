/-! ===== the mean: it is a number ===== -/
theorem qF_s32 (s : Bool) {c : Nat} {q : Int} (hc : c < 16777216) (hq : q ≤ 104) : FP.Core.encode FP.Core.b32 (.fin s c q) < 4294967296 ∧ FP.Core.encode FP.Core.b32 (.fin s c q) % 2147483648 < 2139095040 := by
  have e1 : FP.Core.b32.tails = 8388608 := rfl
  have e2 : FP.Core.b32.exps = 256 := rfl
  have e3 : FP.Core.b32.qmin = -149 := rfl
  have es : s.toNat ≤ 1 := by cases s <;> decide
  unfold FP.Core.encode FP.Core.assemble
  rw [e1, e2, e3]
  by_cases h : c < 8388608
  · simp only [h, if_true]
    omega
  · simp only [h, if_false]
    have h2 : (q - (-149)).toNat ≤ 253 := by omega
    generalize (q - (-149)).toNat = z at h2 ⊢
    omega
theorem qF_i32 (s : Bool) : FP.Core.encode FP.Core.b32 (.inf s) < 4294967296 ∧ FP.Core.encode FP.Core.b32 (.inf s) % 2147483648 ≤ 2139095040 := by cases s <;> decide
theorem qF_s64 (s : Bool) {c : Nat} {q : Int} (hc : c < 9007199254740992) (hq : q ≤ 971) : FP.Core.encode FP.Core.b64 (.fin s c q) < 18446744073709551616 ∧ FP.Core.encode FP.Core.b64 (.fin s c q) % 9223372036854775808 < 9218868437227405312 := by
  have e1 : FP.Core.b64.tails = 4503599627370496 := rfl
  have e2 : FP.Core.b64.exps = 2048 := rfl
  have e3 : FP.Core.b64.qmin = -1074 := rfl
  have es : s.toNat ≤ 1 := by cases s <;> decide
  unfold FP.Core.encode FP.Core.assemble
  rw [e1, e2, e3]
  by_cases h : c < 4503599627370496
  · simp only [h, if_true]
    omega
  · simp only [h, if_false]
    have h2 : (q - (-1074)).toNat ≤ 2045 := by omega
    generalize (q - (-1074)).toNat = z at h2 ⊢
    omega
theorem qF_i64 (s : Bool) : FP.Core.encode FP.Core.b64 (.inf s) < 18446744073709551616 ∧ FP.Core.encode FP.Core.b64 (.inf s) % 9223372036854775808 ≤ 9218868437227405312 := by cases s <;> decide
theorem qF_r32 (s : Bool) (a b : Nat) (e : Int) : FP.Core.encode FP.Core.b32 (FP.Core.roundRatio FP.Core.b32 s a b e) < 4294967296 ∧ FP.Core.encode FP.Core.b32 (FP.Core.roundRatio FP.Core.b32 s a b e) % 2147483648 ≤ 2139095040 := by
  have ep : (2 : Nat) ^ FP.Core.b32.p = 16777216 := rfl
  have et : FP.Core.b32.tails = 8388608 := rfl
  have eq : FP.Core.b32.qmax = 104 := rfl
  have em : FP.Core.b32.qmin = -149 := rfl
  have fin : ∀ (c : Nat) (q : Int), c < 16777216 → q ≤ 104 → FP.Core.encode FP.Core.b32 (.fin s c q) < 4294967296 ∧ FP.Core.encode FP.Core.b32 (.fin s c q) % 2147483648 ≤ 2139095040 := fun c q h1 h2 => ⟨(qF_s32 s h1 h2).1, Nat.le_of_lt (qF_s32 s h1 h2).2⟩
  unfold FP.Core.roundRatio
  by_cases h0 : a = 0
  · rw [if_pos h0]
    exact fin _ _ (by decide) (by rw [em]; decide)
  · rw [if_neg h0]
    unfold FP.Core.roundAt FP.Core.settle
    rw [ep]
    split
    · rename_i h
      unfold FP.Core.bound
      rw [eq]
      split
      · rename_i h2
        exact fin _ _ h h2
      · exact qF_i32 s
    · unfold FP.Core.bound
      rw [eq, et]
      split
      · rename_i h2
        exact fin _ _ (by decide) h2
      · exact qF_i32 s
theorem qF_r64 (s : Bool) (a b : Nat) (e : Int) : FP.Core.encode FP.Core.b64 (FP.Core.roundRatio FP.Core.b64 s a b e) < 18446744073709551616 ∧ FP.Core.encode FP.Core.b64 (FP.Core.roundRatio FP.Core.b64 s a b e) % 9223372036854775808 ≤ 9218868437227405312 := by
  have ep : (2 : Nat) ^ FP.Core.b64.p = 9007199254740992 := rfl
  have et : FP.Core.b64.tails = 4503599627370496 := rfl
  have eq : FP.Core.b64.qmax = 971 := rfl
  have em : FP.Core.b64.qmin = -1074 := rfl
  have fin : ∀ (c : Nat) (q : Int), c < 9007199254740992 → q ≤ 971 → FP.Core.encode FP.Core.b64 (.fin s c q) < 18446744073709551616 ∧ FP.Core.encode FP.Core.b64 (.fin s c q) % 9223372036854775808 ≤ 9218868437227405312 := fun c q h1 h2 => ⟨(qF_s64 s h1 h2).1, Nat.le_of_lt (qF_s64 s h1 h2).2⟩
  unfold FP.Core.roundRatio
  by_cases h0 : a = 0
  · rw [if_pos h0]
    exact fin _ _ (by decide) (by rw [em]; decide)
  · rw [if_neg h0]
    unfold FP.Core.roundAt FP.Core.settle
    rw [ep]
    split
    · rename_i h
      unfold FP.Core.bound
      rw [eq]
      split
      · rename_i h2
        exact fin _ _ h h2
      · exact qF_i64 s
    · unfold FP.Core.bound
      rw [eq, et]
      split
      · rename_i h2
        exact fin _ _ (by decide) h2
      · exact qF_i64 s
/-- what is a number and no infinity, of the ints that come -/
def qF_fin (n : Nat) : Bool := match FP.Core.decode FP.Core.b32 n with | .fin _ _ _ => true | _ => false
def qF_nz (n : Nat) : Bool := match FP.Core.decode FP.Core.b32 n with | .fin _ c _ => decide (c ≠ 0) | _ => false
theorem qF_cost0 : ∀ a, a < 64 → ∀ b, b < 64 → qF_fin (FP.i2f (nI (64 * a + b))).toNat = true := by decide +kernel
theorem qF_turn0 : ∀ t, t < 10 → qF_nz (FP.i2f (nI (t + 1))).toNat = true := by decide +kernel
theorem qF_div {a b : Nat} (ha : qF_fin a = true) (hb : qF_nz b = true) : FP.Core.div FP.Core.b32 a b < 4294967296 ∧ FP.Core.div FP.Core.b32 a b % 2147483648 ≤ 2139095040 := by
  unfold FP.Core.div
  unfold qF_fin at ha
  unfold qF_nz at hb
  generalize FP.Core.decode FP.Core.b32 a = x at ha ⊢
  generalize FP.Core.decode FP.Core.b32 b = y at hb ⊢
  cases x with
  | nan => cases ha
  | inf s => cases ha
  | fin s c q =>
    cases y with
    | nan => cases hb
    | inf s => cases hb
    | fin t d r =>
      have hd : d ≠ 0 := of_decide_eq_true hb
      show FP.Core.encode FP.Core.b32 (if d = 0 then _ else _) < _ ∧ FP.Core.encode FP.Core.b32 (if d = 0 then _ else _) % _ ≤ _
      rw [if_neg hd]
      exact qF_r32 _ _ _ _
theorem qF_n32 {r : UInt32} (h : r.toNat % 2147483648 ≤ 2139095040) : n32 r = true := by
  unfold n32
  refine decide_eq_true ?_
  rw [UInt32.le_iff_toNat_le, UInt32.toNat_and]
  have e : (0x7fffffff : UInt32).toNat = 2 ^ 31 - 1 := rfl
  rw [e, Nat.and_two_pow_sub_one_eq_mod]
  exact h
theorem qF_n64 {r : UInt64} (h : r.toNat % 9223372036854775808 ≤ 9218868437227405312) : n64 r = true := by
  unfold n64
  refine decide_eq_true ?_
  rw [UInt64.le_iff_toNat_le, UInt64.toNat_and]
  have e : (0x7fffffffffffffff : UInt64).toNat = 2 ^ 63 - 1 := rfl
  rw [e, Nat.and_two_pow_sub_one_eq_mod]
  exact h
theorem qF_d32 {n : Nat} (h : n % 2147483648 ≤ 2139095040) : FP.Core.decode FP.Core.b32 n ≠ .nan := by
  have e1 : FP.Core.b32.tails = 8388608 := rfl
  have e2 : FP.Core.b32.exps = 256 := rfl
  unfold FP.Core.decode FP.Core.fieldE FP.Core.fieldT
  rw [e1, e2]
  intro q
  split at q
  · split at q
    · cases q
    · omega
  · split at q <;> cases q
theorem qF_d64 {n : Nat} (h : n % 9223372036854775808 ≤ 9218868437227405312) : FP.Core.decode FP.Core.b64 n ≠ .nan := by
  have e1 : FP.Core.b64.tails = 4503599627370496 := rfl
  have e2 : FP.Core.b64.exps = 2048 := rfl
  unfold FP.Core.decode FP.Core.fieldE FP.Core.fieldT
  rw [e1, e2]
  intro q
  split at q
  · split at q
    · cases q
    · omega
  · split at q <;> cases q
theorem qF_f2d {r : UInt32} (h : r.toNat % 2147483648 ≤ 2139095040) : (FP.f2d r).toNat % 9223372036854775808 ≤ 9218868437227405312 := by
  have hd := qF_d32 h
  have hn : FP.Core.fIsNaN r = false := decide_eq_false hd
  unfold FP.f2d
  rw [hn, if_neg (by decide)]
  have key : FP.Core.convert FP.Core.b32 FP.Core.b64 r.toNat < 18446744073709551616 ∧ FP.Core.convert FP.Core.b32 FP.Core.b64 r.toNat % 9223372036854775808 ≤ 9218868437227405312 := by
    unfold FP.Core.convert
    generalize FP.Core.decode FP.Core.b32 r.toNat = x at hd
    cases x with
    | nan => exact absurd rfl hd
    | inf s => exact qF_i64 s
    | fin s c q => exact qF_r64 s c 1 q
  show (UInt64.ofNat (FP.Core.convert FP.Core.b32 FP.Core.b64 r.toNat)).toNat % _ ≤ _
  rw [UInt64.toNat_ofNat_of_lt' key.1]
  exact key.2
theorem qF_cmp {x : UInt64} (h : x.toNat % 9223372036854775808 ≤ 9218868437227405312) : Op.cmpValue (FP.dcmp x x) CmpOp.l = 0 := by
  have hd := qF_d64 h
  have e : FP.dcmp x x = some .eq := by
    show FP.Core.order (FP.Core.decode FP.Core.b64 x.toNat) (FP.Core.decode FP.Core.b64 x.toNat) = some .eq
    generalize FP.Core.decode FP.Core.b64 x.toNat = d at hd
    have hc : ∀ z : Int, compare z z = .eq := fun z => by simp
    cases d with
    | nan => exact absurd rfl hd
    | inf s => exact congrArg some (hc _)
    | fin s c q => exact congrArg some (hc _)
  rw [e]
  rfl
/-- the cost of all is no great number -/
theorem qs_co_i {M : Nat → Int32} (hV : qs_V M) {k : Nat} (hk : k / 2 < qs_t M) : 0 ≤ (qs_co M k).toInt ∧ (qs_co M k).toInt ≤ 180 := by
  obtain ⟨-, -, -, h4, -⟩ := qv_T hV hk
  have hw : 1 ≤ (qs_wt M k).toInt ∧ (qs_wt M k).toInt ≤ 9 := h4
  have e0 : (0 : Int32).toInt = 0 := rfl
  have e2 : (2 : Int32).toInt = 2 := rfl
  have e5 : (5 : Int32).toInt = 5 := rfl
  have e20 : (20 : Int32).toInt = 20 := rfl
  unfold qs_co qs_rate
  by_cases c : qs_on M k < 0
  · rw [if_pos c, qf_mul (by rw [e20]; omega) (by rw [e20]; omega), e20]; omega
  · rw [if_neg c]
    by_cases c0 : M (4 + qs_sn M k) = 0
    · rw [if_pos c0, qf_mul (by rw [e0]; omega) (by rw [e0]; omega), e0]; omega
    · rw [if_neg c0]
      by_cases c1 : M (4 + qs_sn M k) = 1
      · rw [if_pos c1, qf_mul (by rw [e2]; omega) (by rw [e2]; omega), e2]; omega
      · rw [if_neg c1, qf_mul (by rw [e5]; omega) (by rw [e5]; omega), e5]; omega
theorem qs_ct_i {M : Nat → Int32} (hV : qs_V M) {t : Nat} (ht : t < qs_t M) : 0 ≤ (qs_ct M t).toInt ∧ (qs_ct M t).toInt ≤ 370 := by
  have h1 := qs_co_i hV (k := 2 * t) (by omega)
  have h2 := qs_co_i hV (k := 2 * t + 1) (by omega)
  unfold qs_ct
  by_cases c : M (96 + 7 * t) < 0
  · rw [if_pos c]; omega
  · rw [if_neg c, qf_add (by rw [qf_add (by omega) (by omega), q_i10]; omega) (by rw [qf_add (by omega) (by omega), q_i10]; omega), qf_add (by omega) (by omega), q_i10]; omega
theorem qs_cost_i {M : Nat → Int32} (hV : qs_V M) : ∀ i, i ≤ qs_t M → 0 ≤ (qsum i (qs_ct M)).toInt ∧ (qsum i (qs_ct M)).toInt ≤ 370 * i
  | 0, _ => by
    have e0 : (0 : Int32).toInt = 0 := rfl
    show 0 ≤ (0 : Int32).toInt ∧ (0 : Int32).toInt ≤ 370 * ((0 : Nat) : Int)
    rw [e0]; omega
  | i + 1, h => by
    have h1 := qs_cost_i hV i (by omega)
    have h2 := qs_ct_i hV (t := i) (by omega)
    have h10 := qv_t10 hV
    show 0 ≤ (qsum i (qs_ct M) + qs_ct M i).toInt ∧ (qsum i (qs_ct M) + qs_ct M i).toInt ≤ _
    rw [qf_add (by omega) (by omega)]; omega
theorem qF_mean {M : Nat → Int32} (hV : qs_V M) (h0 : qs_t M ≠ 0) : (FP.fdiv (FP.i2f (qsum (qs_t M) (qs_ct M))) (FP.i2f (nI (qs_t M)))).toNat % 2147483648 ≤ 2139095040 := by
  have h10 := qv_t10 hV
  have hi := qs_cost_i hV (qs_t M) (Nat.le_refl _)
  have e1 := qf_of hi.1
  have hn : (qsum (qs_t M) (qs_ct M)).toNatClampNeg ≤ 3700 := by rw [qf_cl]; omega
  generalize (qsum (qs_t M) (qs_ct M)).toNatClampNeg = n at e1 hn
  rw [e1]
  have f1 : qF_fin (FP.i2f (nI n)).toNat = true := by
    have := qF_cost0 (n / 64) (by omega) (n % 64) (by omega)
    rw [show 64 * (n / 64) + n % 64 = n by omega] at this
    exact this
  have f2 : qF_nz (FP.i2f (nI (qs_t M))).toNat = true := by
    have := qF_turn0 (qs_t M - 1) (by omega)
    rw [show qs_t M - 1 + 1 = qs_t M by omega] at this
    exact this
  have := qF_div f1 f2
  show (UInt32.ofNat (FP.Core.div FP.Core.b32 _ _)).toNat % _ ≤ _
  rw [UInt32.toNat_ofNat_of_lt' this.1]
  exact this.2
theorem qo_meanCost : o_meanCost qi := by
  intro σ hI fd
  have hV := qi_V hI
  have hR := qi_R hI
  have h10 := qv_t10 hV
  by_cases c : qs_t (σ 133) = 0
  · refine ⟨1, 0, fd, σ, qth σ 1, ?_, ?_, qth_8 _ _, fun q => absurd q (by decide), qth_i hI 1⟩
    · unfold L_meanCost X6_meanCost
      rw [qr_1 hR, c, if_pos nI_0, qs]
      show (if _ = _ then _ else _) = _
      rw [if_pos rfl]
    · unfold X7_meanCost
      rw [qk_z1, qv_t hV, c, if_pos nI_0, qth_e, qth_1]
  · have hm := qF_mean hV c
    have hn := qF_n32 hm
    have hd := qF_f2d hm
    have hn64 := qF_n64 hd
    have ne : ¬ nI (qs_t (σ 133)) = 0 := nI_ne0 (by omega) (by omega)
    refine ⟨0, FP.fdiv (FP.i2f (qsum (qs_t (σ 133)) (qs_ct (σ 133)))) (FP.i2f (nI (qs_t (σ 133)))), va_up fd 0 (FP.f2d (FP.fdiv (FP.i2f (qsum (qs_t (σ 133)) (qs_ct (σ 133)))) (FP.i2f (nI (qs_t (σ 133)))))), σ, qth σ 0, ?_, ?_, qth_8 _ _, fun _ => ⟨?_, hn64⟩, qth_i hI 0⟩
    · unfold L_meanCost X6_meanCost
      rw [qr_1 hR, if_neg ne, qc_costOfAll hR, qs, qg hn, qs]
      show gd (n64 _) _ = _
      rw [qg hn64]
    · unfold X7_meanCost
      rw [qk_z1, qv_t hV, if_neg ne, qth_e, qth_y, qd_cost (qth_V hV 0), qs, qth_133, qv_t hV, qg hn]
    · rw [va_up_self]
      exact qF_cmp hd
