/-! ===== the second program's readers: they read the row 133 ===== -/
theorem qk_l8 (s r : Nat) : ((28 : Int32) + ((8 : Int32) * nI s)) + nI r = nI (28 + 8 * s + r) := by
  rw [show (8 : Int32) * nI s = nI (8 * s) from pk_mul 8 s, show (28 : Int32) + nI (8 * s) = nI (28 + 8 * s) from nI_add 28 _, nI_add]
theorem qk_at (t : Nat) : (92 : Int32) + ((7 : Int32) * nI t) = nI (92 + 7 * t) := by
  rw [show (7 : Int32) * nI t = nI (7 * t) from pk_mul 7 t, show (92 : Int32) + nI (7 * t) = nI (92 + 7 * t) from nI_add 92 _]
theorem qk_a1 (t : Nat) : nI (92 + 7 * t) + (1 : Int32) = nI (93 + 7 * t) := by
  rw [show (1 : Int32) = nI 1 from rfl, nI_add]; congr 1; omega
theorem qk_a2 (t : Nat) : nI (92 + 7 * t) + (2 : Int32) = nI (94 + 7 * t) := by
  rw [show (2 : Int32) = nI 2 from rfl, nI_add]; congr 1; omega
theorem qk_a3 (t : Nat) : nI (92 + 7 * t) + (3 : Int32) = nI (95 + 7 * t) := by
  rw [show (3 : Int32) = nI 3 from rfl, nI_add]; congr 1; omega
theorem qk_a4 (t : Nat) : nI (92 + 7 * t) + (4 : Int32) = nI (96 + 7 * t) := by
  rw [show (4 : Int32) = nI 4 from rfl, nI_add]; congr 1; omega
theorem qk_a5 (t : Nat) : nI (92 + 7 * t) + (5 : Int32) = nI (97 + 7 * t) := by
  rw [show (5 : Int32) = nI 5 from rfl, nI_add]; congr 1; omega
theorem qk_a6 (t : Nat) : nI (92 + 7 * t) + (6 : Int32) = nI (98 + 7 * t) := by
  rw [show (6 : Int32) = nI 6 from rfl, nI_add]; congr 1; omega
theorem qk_4 (s : Nat) : (4 : Int32) + nI s = nI (4 + s) := nI_add 4 s
theorem qk_12 (s : Nat) : (12 : Int32) + nI s = nI (12 + s) := nI_add 12 s
theorem qk_20p (s : Nat) : (20 : Int32) + nI s = nI (20 + s) := nI_add 20 s
theorem qk_z0 : (0 : Int32).toNatClampNeg = 0 := rfl
theorem qk_z1 : (1 : Int32).toNatClampNeg = 1 := rfl
theorem qk_z2 : (2 : Int32).toNatClampNeg = 2 := rfl
theorem qk_z3 : (3 : Int32).toNatClampNeg = 3 := rfl
theorem qk_st (t e : Nat) : (2 : Int32) * nI t + nI e = nI (2 * t + e) := by rw [qk_m2, nI_add]
theorem qd_in (σ : gS) (x y z : Int32) : X7_in σ x y z = some (qb (decide (y ≤ x) && decide (x ≤ z))) := by
  unfold X7_in
  simp only [qf_nle]
  by_cases c1 : x < y <;> by_cases c2 : z < x <;> simp [c1, c2, qb]
theorem qd_rng (x : Int32) {n : Nat} (hn : n < 2 ^ 30) : (decide (0 ≤ x) && decide (x ≤ nI n - (1 : Int32))) = ib x n := by
  have e1 : (nI n - (1 : Int32)).toInt = (n : Int) - 1 := pk_sub_toInt (a := n) (b := 1) hn (by decide)
  have e0 : (0 : Int32).toInt = 0 := rfl
  unfold ib
  rw [Bool.eq_iff_iff]
  simp only [Bool.and_eq_true, decide_eq_true_eq, qf_le, e1, e0]
  omega
section QD
variable {σ : gS}
theorem qd_isStand (h : qs_V (σ 133)) (x1 : Int32) : X7_isStand σ x1 = some (qb (ib x1 (qs_n (σ 133)))) := by
  have h8 := qv_n8 h
  unfold X7_isStand
  rw [qk_z0, qv_n h, qd_in, qs, qg (qb_bz _), qd_rng x1 (by omega)]
theorem qd_isTurn (h : qs_V (σ 133)) (x1 : Int32) : X7_isTurn σ x1 = some (qb (ib x1 (qs_t (σ 133)))) := by
  have h8 := qv_t10 h
  unfold X7_isTurn
  rw [qk_z1, qv_t h, qd_in, qs, qg (qb_bz _), qd_rng x1 (by omega)]
theorem qd_limit {s r : Nat} (hs : s < 8) (hr : r < 8) : X7_limit σ (nI s) (nI r) = some (qs_li (σ 133) s r) := by
  unfold X7_limit
  rw [qk_l8, qg_i (by omega) (by decide), qk_c (by omega)]
  rfl
theorem qd_at (t : Nat) : X7_at σ (nI t) = some (nI (92 + 7 * t)) := by
  unfold X7_at
  rw [qk_at]
theorem qd_tow {t : Nat} (ht : t < 10) : X7_tow σ (nI t) = some (σ 133 (96 + 7 * t)) := by
  unfold X7_tow
  rw [qd_at, qs, qk_a4, qg_i (by omega) (by decide), qk_c (by omega)]
theorem qd_isStay (h : qs_V (σ 133)) {k : Nat} (hk : k < 20) : X7_isStay σ (nI k) = some (qb (qs_is (σ 133) k)) := by
  have h8 := qv_t10 h
  unfold X7_isStay
  rw [if_neg (nI_pos (by omega)), qk_r hk, qk_d hk, qd_isTurn h, qs, qb_if, qi_nI (by omega), qd_tow (by omega), qs]
  unfold qs_is
  by_cases c1 : k / 2 < qs_t (σ 133)
  · rw [decide_eq_true c1, if_pos rfl]
    by_cases c2 : k % 2 = 0
    · rw [if_pos ((qk_p0 hk).mpr c2), decide_eq_true c2]; rfl
    · rw [if_neg (fun q => c2 ((qk_p0 hk).mp q)), decide_eq_false c2]
      by_cases c3 : 0 ≤ σ 133 (96 + 7 * (k / 2))
      · rw [if_neg (fun q => (qf_lt0 _).mp q c3), decide_eq_true c3]; rfl
      · rw [if_pos ((qf_lt0 _).mpr c3), decide_eq_false c3]; rfl
  · rw [decide_eq_false c1, if_neg (by decide)]; rfl
theorem qd_isStay_ (h : qs_V (σ 133)) (x1 x2 : Int32) : X7_isStay_ σ x1 x2 = some (qb (qs_st (σ 133) x1 x2)) := by
  have h8 := qv_t10 h
  unfold X7_isStay_
  rw [qd_isTurn h, qs, qb_if]
  cases c : ib x1 (qs_t (σ 133)) with
  | false =>
    rw [if_neg (by decide)]
    unfold qs_st
    rw [c]; rfl
  | true =>
    obtain ⟨t, ht, rfl⟩ := qi_of c
    rw [if_pos rfl, qd_in, qs, qb_if]
    have e0 : (0 : Int32).toInt = 0 := rfl
    have e1 : (1 : Int32).toInt = 1 := rfl
    by_cases c2 : x2 = 0
    · subst c2
      have e : (2 : Int32) * nI t + 0 = nI (2 * t) := by rw [qk_m2, Int32.add_zero]
      rw [if_pos (by decide), e, qd_isStay h (by omega), qs, qv_is0 ht]
      unfold qs_st
      rw [c]; rfl
    · by_cases c3 : x2 = 1
      · subst c3
        rw [if_pos (by decide), qk_m2p, qd_isStay h (by omega), qs, qv_is1 ht]
        unfold qs_st
        rw [c, qk_c (by omega)]
        cases decide (0 ≤ σ 133 (96 + 7 * t)) <;> rfl
      · have e : (decide (0 ≤ x2) && decide (x2 ≤ 1)) = false := by
          rw [Bool.eq_false_iff]
          intro q
          simp only [Bool.and_eq_true, decide_eq_true_eq, qf_le, e0, e1] at q
          have : x2.toInt = 0 ∨ x2.toInt = 1 := by omega
          rcases this with this | this
          · exact c2 ((qf_eq _ _).mpr (by rw [this, e0]))
          · exact c3 ((qf_eq _ _).mpr (by rw [this, e1]))
        rw [e, if_neg (by decide)]
        unfold qs_st
        simp [c2, c3, qb]
theorem qd_from {k : Nat} (hk : k < 20) : X7_from σ (nI k) = some (qs_fr (σ 133) k) := by
  unfold X7_from qs_fr
  rw [qk_r hk, qk_d hk, qd_at, qs, qk_a1, qk_a4, qg_i (by omega) (by decide), qg_i (by omega) (by decide), qk_c (by omega), qk_c (by omega)]
  by_cases c : k % 2 = 0
  · rw [if_pos ((qk_p0 hk).mpr c), if_pos c]
  · rw [if_neg (fun q => c ((qk_p0 hk).mp q)), if_neg c]
theorem qd_to {k : Nat} (hk : k < 20) : X7_to σ (nI k) = some (qs_to (σ 133) k) := by
  unfold X7_to qs_to
  rw [qk_r hk, qk_d hk, qd_at, qs, qk_a2, qk_a4, qg_i (by omega) (by decide), qg_i (by omega) (by decide), qk_c (by omega), qk_c (by omega)]
  by_cases c : k % 2 = 0
  · rw [if_pos ((qk_p0 hk).mpr c), if_pos c]
    by_cases c2 : σ 133 (96 + 7 * (k / 2)) < 0
    · rw [if_pos c2, if_pos c2]
    · rw [if_neg c2, if_neg c2]
  · rw [if_neg (fun q => c ((qk_p0 hk).mp q)), if_neg c]
theorem qd_size {k : Nat} (hk : k < 20) : X7_size σ (nI k) = some (qs_sz (σ 133) k) := by
  unfold X7_size
  rw [qk_d hk, qd_at, qs, qg_i (by omega) (by decide), qk_c (by omega)]
  rfl
theorem qd_weight {k : Nat} (hk : k < 20) : X7_weight σ (nI k) = some (qs_wt (σ 133) k) := by
  unfold X7_weight
  rw [qk_d hk, qd_at, qs, qk_a3, qg_i (by omega) (by decide), qk_c (by omega)]
  rfl
theorem qd_on {k : Nat} (hk : k < 20) : X7_on σ (nI k) = some (qs_on (σ 133) k) := by
  unfold X7_on
  rw [qk_r hk, qk_d hk, qd_at, qs, qk_a5, nI_add, qg_i (by omega) (by decide), qk_c (by omega)]
  rfl
/-- a stay is put -/
def qp (σ : gS) (k : Nat) (v : Int32) : gS := g_up σ 133 (97 + 7 * (k / 2) + k % 2) v
theorem qd_put {k : Nat} (hk : k < 20) (v : Int32) : X7_put σ (nI k) v = some (qp σ k v) := by
  unfold X7_put
  rw [qk_r hk, qk_d hk, qd_at, qs, qk_a5, nI_add, qg_i (by omega) (by decide), qk_c (by omega)]
  rfl
theorem qd_isOn (h : qs_V (σ 133)) {k : Nat} (hk : k < 20) : X7_isOn σ (nI k) = some (qb (qs_io (σ 133) k)) := by
  unfold X7_isOn
  rw [qd_isStay h hk, qs, qb_if, qd_on hk, qs]
  unfold qs_io
  cases qs_is (σ 133) k with
  | false => rw [if_neg (by decide)]; rfl
  | true =>
    rw [if_pos rfl]
    by_cases c : 0 ≤ qs_on (σ 133) k
    · rw [if_neg (fun q => (qf_lt0 _).mp q c), decide_eq_true c]; rfl
    · rw [if_pos ((qf_lt0 _).mpr c), decide_eq_false c]; rfl
theorem qd_isHindered (h : qs_V (σ 133)) {k : Nat} (hk : k < 20) : X7_isHindered σ (nI k) = some (qb (qs_hi (σ 133) k)) := by
  unfold X7_isHindered
  rw [qd_isOn h hk, qs, qb_if]
  unfold qs_hi
  cases c : qs_io (σ 133) k with
  | false => rw [if_neg (by decide)]; rfl
  | true =>
    have h1 := qv_sn h c
    have h2 := qv_n8 h
    rw [if_pos rfl, qd_on hk, qs, h1.1, qk_20p, qg_i (by omega) (by decide), qk_c (by omega)]
    unfold qs_hs
    by_cases c1 : σ 133 (20 + qs_sn (σ 133) k) = 0
    · rw [if_pos c1, decide_eq_true c1]; rfl
    · rw [if_neg c1, decide_eq_false c1, qs, qk_12, qg_i (by omega) (by decide), qk_c (by omega), qd_size hk, qs]
      by_cases c2 : σ 133 (12 + qs_sn (σ 133) k) < qs_sz (σ 133) k
      · rw [if_neg (fun q => (qf_nle _ _).mp q c2), decide_eq_true c2]; rfl
      · rw [if_pos ((qf_nle _ _).mpr c2), decide_eq_false c2]; rfl
theorem qd_areInConflict (h : qs_V (σ 133)) {a c : Nat} (ha : a < 20) (hc : c < 20) : X7_areInConflict σ (nI a) (nI c) = some (qb (qs_cf (σ 133) a c)) := by
  have h8 := qv_n8 h
  unfold X7_areInConflict qs_cf qs_cl
  by_cases c0 : a = c
  · subst c0
    rw [if_pos rfl]; simp [qb]
  · have c0' : ¬ c = a := fun q => c0 q.symm
    rw [if_neg (fun q => c0 ((qk_eq (by omega) (by omega)).mp q)), qd_isOn h ha, qs, qb_if, qd_isOn h hc, qs, qb_if]
    cases ca : qs_io (σ 133) a with
    | false => rw [if_neg (by decide)]; rfl
    | true =>
      rw [if_pos rfl]
      cases cc : qs_io (σ 133) c with
      | false => rw [if_neg (by decide)]; simp [qb]
      | true =>
        have h1 := qv_sn h ca
        have h2 := qv_sn h cc
        rw [if_pos rfl, qd_on ha, qs, qd_on hc, qs, h1.1, h2.1]
        unfold qs_w
        by_cases cs : qs_sn (σ 133) a = qs_sn (σ 133) c
        · rw [if_pos (by rw [cs]), if_pos cs, qd_from hc, qs, qd_to ha, qs, qk_z2, qd_from ha, qs, qd_to hc, qs]
          simp only [qf_nle]
          by_cases c1 : qs_fr (σ 133) c < qs_to (σ 133) a + σ 133 2 <;> by_cases c2 : qs_fr (σ 133) a < qs_to (σ 133) c + σ 133 2 <;> simp [c1, c2, c0', qb]
        · rw [if_neg (fun q => cs ((qk_eq (by omega) (by omega)).mp q)), if_neg cs, qs, qs, qd_limit (by omega) (by omega), qs, qd_from ha, qs, qd_to hc, qs, qd_from hc, qs, qd_to ha, qs, qd_size ha, qs, qd_size hc, qs]
          simp only [qf_nle]
          by_cases c3 : qs_li (σ 133) (qs_sn (σ 133) a) (qs_sn (σ 133) c) < 0 <;> by_cases c4 : qs_li (σ 133) (qs_sn (σ 133) a) (qs_sn (σ 133) c) < qs_sz (σ 133) a + qs_sz (σ 133) c <;> by_cases c1 : qs_fr (σ 133) c < qs_to (σ 133) a <;> by_cases c2 : qs_fr (σ 133) a < qs_to (σ 133) c <;> simp [c1, c2, c3, c4, c0', qb]
theorem qd_conflictsOf (h : qs_V (σ 133)) {k : Nat} (hk : k < 20) : X7_conflictsOf σ (nI k) = some (nI (qm 20 (qs_cf (σ 133) k))) := by
  refine qf_for (N := 20) (fun i => (nI k, nI (qm i (qs_cf (σ 133) k)), nI i)) (fun i hi => ?_) ?_ 0 (by omega)
  · show X7_conflictsOf_k0 σ (nI k) (nI (qm i (qs_cf (σ 133) k))) (nI i) = _
    unfold X7_conflictsOf_k0
    rw [if_neg (qk_20 hi), qk_s, qd_areInConflict h hk hi, qs, qb_if]
    cases c : qs_cf (σ 133) k i with
    | true => rw [if_pos rfl, qm_y (by omega) c]
    | false => rw [if_neg (by decide), qm_z _ _ c]
  · show X7_conflictsOf_k0 σ (nI k) (nI (qm 20 (qs_cf (σ 133) k))) (nI 20) = _
    unfold X7_conflictsOf_k0
    rw [if_pos qk_e20]
theorem qd_stayAt_th (h : qs_V (σ 133)) {k : Nat} (hk : qs_is (σ 133) k = true) : 0 ≤ (qs_fr (σ 133) k).toInt ∧ (qs_fr (σ 133) k).toInt + 10 ≤ (qs_to (σ 133) k).toInt ∧ (qs_to (σ 133) k).toInt ≤ 1440 := by
  have ht := qv_is hk
  have e0 : (0 : Int32).toInt = 0 := rfl
  have e10 : (10 : Int32).toInt = 10 := rfl
  have e1 : (-1 : Int32).toInt = -1 := by decide
  obtain ⟨h1, h2, h3, -, h5, -⟩ := qv_T h ht
  unfold qs_fr qs_to
  by_cases c : k % 2 = 0
  · rw [if_pos c, if_pos c]
    by_cases c2 : σ 133 (96 + 7 * (k / 2)) < 0
    · rw [if_pos c2]; omega
    · rw [if_neg c2]
      rcases h5 with h5 | h5
      · exfalso; apply c2; rw [h5]; decide
      · omega
  · rw [if_neg c, if_neg c]
    unfold qs_is at hk
    simp only [Bool.and_eq_true, Bool.or_eq_true, decide_eq_true_eq, c, false_or] at hk
    have hk2 := (qf_le _ _).mp hk.2
    rw [e0] at hk2
    rcases h5 with h5 | h5
    · rw [h5, e1] at hk2; omega
    · rw [qf_add (by rw [e10]; omega) (by rw [e10]; omega), e10]; omega
theorem qd_th (h : qs_V (σ 133)) {k : Nat} (hk : qs_is (σ 133) k = true) (m : Int32) : X7_in σ m (qs_fr (σ 133) k) (qs_to (σ 133) k - (1 : Int32)) = some (qb (qs_th (σ 133) m k)) := by
  obtain ⟨h1, h2, h3⟩ := qd_stayAt_th h hk
  have e1 : (1 : Int32).toInt = 1 := rfl
  have e2 : (qs_to (σ 133) k - (1 : Int32)).toInt = (qs_to (σ 133) k).toInt - 1 := by
    rw [qf_sub (by rw [e1]; omega) (by rw [e1]; omega), e1]
  rw [qd_in]
  unfold qs_th
  congr 2
  congr 1
  apply decide_eq_decide.mpr
  rw [qf_le, qf_lt, e2]
  omega
theorem qd_os {k s : Nat} (h : qs_V (σ 133)) (hs : s < 8) (hk : qs_io (σ 133) k = true) : (qs_on (σ 133) k = nI s) ↔ qs_os (σ 133) s k = true := by
  have h1 := qv_n8 h
  have h4 := qv_sn h hk
  unfold qs_os
  rw [h4.1, qk_eq (by omega) (by omega), hk]; simp
theorem qd_stayAt (h : qs_V (σ 133)) {s : Nat} (hs : s < 8) (m : Int32) : X7_stayAt σ (nI s) m = some (match qfi (fun k => qs_os (σ 133) s k && qs_th (σ 133) m k) 20 0 with | some j => nI j | none => -1) := by
  refine qf_find (N := 20) (p := fun k => qs_os (σ 133) s k && qs_th (σ 133) m k) (out := fun j => nI j) (fun i => (nI s, m, nI i)) (fun i hi hp => ?_) (fun i hi hp => ?_) ?_ 20 0 rfl
  · show X7_stayAt_k0 σ (nI s) m (nI i) = _
    unfold X7_stayAt_k0
    rw [if_neg (qk_20 hi), qk_s, qd_isOn h hi, qs, qb_if]
    cases c : qs_io (σ 133) i with
    | false => rw [if_neg (by decide)]
    | true =>
      rw [if_pos rfl, qd_on hi, qs]
      cases c2 : qs_os (σ 133) s i with
      | false => rw [if_neg (fun q => by have := (qd_os h hs c).mp q; rw [c2] at this; cases this)]
      | true =>
        simp only [c2, Bool.true_and] at hp
        rw [if_pos ((qd_os h hs c).mpr c2), qd_from hi, qs, qd_to hi, qs, qd_th h (qv_io c).1, qs, qb_if, hp, if_neg (by decide)]
  · show X7_stayAt_k0 σ (nI s) m (nI i) = _
    unfold X7_stayAt_k0
    simp only [Bool.and_eq_true] at hp
    have c : qs_io (σ 133) i = true := by
      have c := hp.1
      unfold qs_os at c
      simp only [Bool.and_eq_true] at c
      exact c.1
    rw [if_neg (qk_20 hi), qd_isOn h hi, qs, qb_if, if_pos c, qd_on hi, qs, if_pos ((qd_os h hs c).mpr hp.1), qd_from hi, qs, qd_to hi, qs, qd_th h (qv_io c).1, qs, qb_if, if_pos hp.2]
  · show X7_stayAt_k0 σ (nI s) m (nI 20) = _
    unfold X7_stayAt_k0
    rw [if_pos qk_e20]
end QD
