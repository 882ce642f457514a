/-! ===== minute by minute ===== -/
def q01 (c : Bool) : Int32 := if c = true then 1 else 0
theorem qsum_add (f g : Nat → Int32) : ∀ n, qsum n (fun k => f k + g k) = qsum n f + qsum n g
  | 0 => rfl
  | n + 1 => by
    show qsum n (fun k => f k + g k) + (f n + g n) = (qsum n f + f n) + (qsum n g + g n)
    rw [qsum_add f g n]
    generalize qsum n f = a
    generalize qsum n g = b
    generalize f n = c
    generalize g n = d
    rw [Int32.add_assoc, Int32.add_assoc, ← Int32.add_assoc b, ← Int32.add_assoc c, Int32.add_comm b c]
theorem qsum_0 : ∀ n, qsum n (fun _ => 0) = 0
  | 0 => rfl
  | n + 1 => by
    show qsum n (fun _ => 0) + 0 = 0
    rw [qsum_0 n]; rfl
theorem qsum_swap (g : Nat → Nat → Int32) (m : Nat) : ∀ n, qsum n (fun j => qsum m (fun k => g k j)) = qsum m (fun k => qsum n (fun j => g k j))
  | 0 => by
    show (0 : Int32) = _
    rw [show (fun k => qsum 0 (fun j => g k j)) = (fun _ => (0 : Int32)) from rfl, qsum_0]
  | n + 1 => by
    show qsum n (fun j => qsum m (fun k => g k j)) + qsum m (fun k => g k n) = _
    rw [qsum_swap g m n, ← qsum_add]
    rfl
/-- what a stay from a to b brings at the minute j -/
def q_ab (a b j : Nat) : Int32 := q01 (decide (a = j)) - q01 (decide (b = j))
theorem q_absum (a b : Nat) : ∀ n, qsum n (q_ab a b) = q01 (decide (a < n)) - q01 (decide (b < n))
  | 0 => by
    rw [decide_eq_false (Nat.not_lt_zero a), decide_eq_false (Nat.not_lt_zero b)]
    rfl
  | n + 1 => by
    show qsum n (q_ab a b) + q_ab a b n = _
    rw [q_absum a b n]
    unfold q_ab
    rcases Nat.lt_trichotomy a n with h1 | h1 | h1 <;> rcases Nat.lt_trichotomy b n with h2 | h2 | h2
    all_goals
      first
        | rw [decide_eq_true (show a < n from h1), decide_eq_false (show ¬ a = n by omega), decide_eq_true (show a < n + 1 by omega)]
        | rw [decide_eq_false (show ¬ a < n by omega), decide_eq_true (show a = n from h1), decide_eq_true (show a < n + 1 by omega)]
        | rw [decide_eq_false (show ¬ a < n by omega), decide_eq_false (show ¬ a = n by omega), decide_eq_false (show ¬ a < n + 1 by omega)]
      first
        | rw [decide_eq_true (show b < n from h2), decide_eq_false (show ¬ b = n by omega), decide_eq_true (show b < n + 1 by omega)]
        | rw [decide_eq_false (show ¬ b < n by omega), decide_eq_true (show b = n from h2), decide_eq_true (show b < n + 1 by omega)]
        | rw [decide_eq_false (show ¬ b < n by omega), decide_eq_false (show ¬ b = n by omega), decide_eq_false (show ¬ b < n + 1 by omega)]
      decide
/-- the begin and the end of a stay, as numbers -/
def qs_fn (M : Nat → Int32) (k : Nat) : Nat := (qs_fr M k).toNatClampNeg
def qs_tn (M : Nat → Int32) (k : Nat) : Nat := (qs_to M k).toNatClampNeg
theorem qs_ft {M : Nat → Int32} (hV : qs_V M) {k : Nat} (hk : qs_is M k = true) : 0 ≤ (qs_fr M k).toInt ∧ (qs_fr M k).toInt + 10 ≤ (qs_to M k).toInt ∧ (qs_to M k).toInt ≤ 1440 := by
  have e0 : (fun _ => M : gS) 133 = M := rfl
  exact qd_stayAt_th (σ := fun _ => M) hV hk
theorem qs_fnt {M : Nat → Int32} (hV : qs_V M) {k : Nat} (hk : qs_is M k = true) : qs_fr M k = nI (qs_fn M k) ∧ qs_to M k = nI (qs_tn M k) ∧ qs_fn M k + 10 ≤ qs_tn M k ∧ qs_tn M k ≤ 1440 := by
  obtain ⟨h1, h2, h3⟩ := qs_ft hV hk
  unfold qs_fn qs_tn
  exact ⟨qf_of h1, qf_of (by omega), by rw [qf_cl, qf_cl]; omega, by rw [qf_cl]; omega⟩
theorem qs_thn {M : Nat → Int32} (hV : qs_V M) {k : Nat} (hk : qs_is M k = true) {m : Nat} (hm : m < 2 ^ 31) : qs_th M (nI m) k = (decide (qs_fn M k ≤ m) && decide (m < qs_tn M k)) := by
  obtain ⟨h1, h2, h3, h4⟩ := qs_fnt hV hk
  unfold qs_th
  rw [h1, h2]
  congr 1
  · exact decide_eq_decide.mpr (nI_leI (by omega) (by omega))
  · exact decide_eq_decide.mpr (nI_ltI (by omega) (by omega))
/-- what comes and goes at the minute m -/
def qs_cm (M : Nat → Int32) (i m : Nat) : Int32 := qsum i (fun k => if qs_io M k = true then q_ab (qs_fn M k) (qs_tn M k) m else 0)
theorem qs_cmsum {M : Nat → Int32} (hV : qs_V M) {m : Nat} (hm : m < 2000) : qsum (m + 1) (qs_cm M 20) = nI (qs_ta M (nI m)) := by
  unfold qs_cm qs_ta
  rw [qsum_swap (fun k j => if qs_io M k = true then q_ab (qs_fn M k) (qs_tn M k) j else 0) 20 (m + 1), ← qsum_cnt]
  refine qsum_congr (fun k _ => ?_)
  cases c : qs_io M k with
  | false =>
    rw [show (fun j => if false = true then q_ab (qs_fn M k) (qs_tn M k) j else 0) = (fun _ => (0 : Int32)) from rfl, qsum_0]
    rfl
  | true =>
    have hk := qs_io_is c
    obtain ⟨h1, h2, h3, h4⟩ := qs_fnt hV hk
    show qsum (m + 1) (q_ab (qs_fn M k) (qs_tn M k)) = _
    rw [q_absum, qs_thn hV hk (by omega), Bool.true_and]
    by_cases c1 : qs_fn M k ≤ m
    · by_cases c2 : m < qs_tn M k
      · rw [decide_eq_true (show qs_fn M k < m + 1 by omega), decide_eq_false (show ¬ qs_tn M k < m + 1 by omega), decide_eq_true c1, decide_eq_true c2]; rfl
      · rw [decide_eq_true (show qs_fn M k < m + 1 by omega), decide_eq_true (show qs_tn M k < m + 1 by omega), decide_eq_true c1, decide_eq_false c2]; rfl
    · rw [decide_eq_false (show ¬ qs_fn M k < m + 1 by omega), decide_eq_false (show ¬ qs_tn M k < m + 1 by omega), decide_eq_false c1]; rfl
def qs_F (σ : gS) (M : Nat → Int32) (i : Nat) : Nat → Int32 := fun m => if m < 1441 then qs_cm M i m else σ 1 m
theorem qs_Fs (σ : gS) (M : Nat → Int32) {i : Nat} (h : qs_io M i = true) (h1 : qs_fn M i < qs_tn M i) (h2 : qs_tn M i < 1441) : g_up (g_up (g_row σ 1 (qs_F σ M i)) 1 (qs_fn M i) (g_row σ 1 (qs_F σ M i) 1 (qs_fn M i) + 1)) 1 (qs_tn M i) (g_up (g_row σ 1 (qs_F σ M i)) 1 (qs_fn M i) (g_row σ 1 (qs_F σ M i) 1 (qs_fn M i) + 1) 1 (qs_tn M i) - 1) = g_row σ 1 (qs_F σ M (i + 1)) := by
  funext a x
  by_cases ha : a = 1
  · subst ha
    rw [qw_at, qw_at]
    have es : ∀ m, m < 1441 → qs_F σ M (i + 1) m = qs_F σ M i m + q_ab (qs_fn M i) (qs_tn M i) m := by
      intro m hm
      unfold qs_F
      rw [if_pos hm, if_pos hm]
      show qs_cm M i m + (if qs_io M i = true then q_ab (qs_fn M i) (qs_tn M i) m else 0) = _
      rw [if_pos h]
    by_cases hb : x = qs_tn M i
    · subst hb
      rw [qu_at, qu_j _ _ (by omega), qw_at, es _ h2]
      unfold q_ab
      rw [decide_eq_false (show ¬ qs_fn M i = qs_tn M i by omega), decide_eq_true rfl, Int32.sub_eq_add_neg]
      rfl
    · rw [qu_j _ _ hb]
      by_cases hc : x = qs_fn M i
      · subst hc
        rw [qu_at, es _ (by omega)]
        unfold q_ab
        rw [decide_eq_true rfl, decide_eq_false (show ¬ qs_tn M i = qs_fn M i by omega)]
        rfl
      · rw [qu_j _ _ hc, qw_at]
        by_cases hm : x < 1441
        · rw [es _ hm]
          unfold q_ab
          rw [decide_eq_false (fun q => hc q.symm), decide_eq_false (fun q => hb q.symm)]
          show _ = _ + (0 : Int32)
          rw [Int32.add_zero]
        · unfold qs_F
          rw [if_neg hm, if_neg hm]
  · rw [qu_a _ _ ha, qu_a _ _ ha, qw_a _ _ ha, qw_a _ _ ha]
theorem qc_minutes {σ : gS} {M : Nat → Int32} (h : qr_R (qr_b σ 24) M) : X6_minutes σ = some (qsum 1440 (fun m => nI (qs_ta M (nI m))), g_row σ 1 (qs_F σ M 20)) := by
  have hV := h.1
  have hR : ∀ f, qr_R (qr_b (g_row σ 1 f) 24) M := fun f => by rw [qr_bc (σ := σ) (fun a p q => qw_a _ _ (by omega))]; exact h
  have e0 : g_fill σ 1 1441 0 = g_row σ 1 (qs_F σ M 0) := rfl
  unfold X6_minutes
  rw [ql, e0]
  have phase1 : ∀ n i, i + n = 20 → gr X6_minutes_s (0, nI i, 0, 0, g_row σ 1 (qs_F σ M i)) = gr X6_minutes_s (1, 0, 0, 0, g_row σ 1 (qs_F σ M 20)) := by
    intro n
    induction n with
    | zero =>
      intro i hi
      rw [show i = 20 by omega, gr_eq]
      show (X6_minutes_k0 (g_row σ 1 (qs_F σ M 20)) (nI 20)).bind _ = _
      unfold X6_minutes_k0
      rw [if_pos qk_e20, qs]
    | succ n ih =>
      intro i hi
      have hi2 : i < 20 := by omega
      rw [← ih (i + 1) (by omega), gr_eq]
      show (X6_minutes_k0 (g_row σ 1 (qs_F σ M i)) (nI i)).bind _ = _
      unfold X6_minutes_k0
      rw [if_neg (qk_20 hi2), qk_s, qc_isOnStand (hR _) hi2, qs, qb_if]
      cases c : qs_io M i with
      | false =>
        have : qs_F σ M (i + 1) = qs_F σ M i := by
          funext m
          unfold qs_F
          by_cases hm : m < 1441
          · rw [if_pos hm, if_pos hm]
            show qs_cm M i m + (if qs_io M i = true then _ else 0) = _
            rw [c, if_neg (by decide), Int32.add_zero]
          · rw [if_neg hm, if_neg hm]
        rw [if_neg (by decide), qs, this]
      | true =>
        have hk := qs_io_is c
        obtain ⟨h1, h2, h3, h4⟩ := qs_fnt hV hk
        have f1 : (g_row σ 1 (qs_F σ M i)) (24 + 9) i = nI (qs_fn M i) := (qr_fr (hR _) hk).trans h1
        have f2 : ∀ v j, (g_up (g_row σ 1 (qs_F σ M i)) 1 j v) (24 + 10) i = nI (qs_tn M i) := fun v j => by
          rw [qu_a _ _ (by decide)]
          exact (qr_to (hR _) hk).trans h2
        rw [if_pos rfl, qg_i hi2 (by decide), qk_c (by omega), f1, qg_i (by omega) (by decide), qk_c (by omega), ql, f2, qg_i (by omega) (by decide), qk_c (by omega), ql, qs, qs_Fs σ M c (by omega) (by omega)]
  have p1 := phase1 20 0 (by omega)
  refine (show gr X6_minutes_s (0, 0, 0, 0, g_row σ 1 (qs_F σ M 0)) = _ from p1).trans ?_
  have eF : ∀ m, m < 1440 → g_row σ 1 (qs_F σ M 20) 1 m = qs_cm M 20 m := fun m hm => by
    rw [qw_at]
    unfold qs_F
    rw [if_pos (by omega)]
  refine qf_for (N := 1440) (fun i => (1, qsum i (qs_cm M 20), qsum i (fun m => nI (qs_ta M (nI m))), nI i, g_row σ 1 (qs_F σ M 20))) (fun i hi => ?_) ?_ 0 (by omega)
  · show X6_minutes_k1 (g_row σ 1 (qs_F σ M 20)) (qsum i (qs_cm M 20)) (qsum i (fun m => nI (qs_ta M (nI m)))) (nI i) = some (.inl (1, qsum i (qs_cm M 20) + qs_cm M 20 i, qsum i (fun m => nI (qs_ta M (nI m))) + nI (qs_ta M (nI i)), nI (i + 1), g_row σ 1 (qs_F σ M 20)))
    unfold X6_minutes_k1
    rw [if_neg (show ¬ (1440 : Int32) ≤ nI i from nI_ge (b := 1440) hi (by decide)), qg_i (by omega) (by decide), qk_c (by omega), eF i hi, qk_s]
    have := qs_cmsum hV (m := i) (by omega)
    rw [show qsum i (qs_cm M 20) + qs_cm M 20 i = qsum (i + 1) (qs_cm M 20) from rfl, this]
  · show X6_minutes_k1 (g_row σ 1 (qs_F σ M 20)) (qsum 1440 (qs_cm M 20)) (qsum 1440 (fun m => nI (qs_ta M (nI m)))) (nI 1440) = _
    unfold X6_minutes_k1
    rw [if_pos (show (1440 : Int32) ≤ nI 1440 from nI_le (a := 1440) (b := 1440) (by omega) (by decide))]
theorem qo_minutes : o_minutes qi := by
  intro σ hI
  have hV := qi_V hI
  have o : ∀ a, a ≠ 1 → (g_row σ 1 (qs_F σ (σ 133) 20)) a = σ a := fun a p => qw_a _ _ p
  have e1 : (qth (g_row σ 1 (qs_F σ (σ 133) 20)) 0) 133 = σ 133 := by rw [qth_133, o 133 (by decide)]
  have hV1 : qs_V ((qth (g_row σ 1 (qs_F σ (σ 133) 20)) 0) 133) := by rw [e1]; exact hV
  refine ⟨qsum 1440 (fun m => nI (qs_ta (σ 133) (nI m))), g_row σ 1 (qs_F σ (σ 133) 20), qth (g_row σ 1 (qs_F σ (σ 133) 20)) 0, qc_minutes (qi_R hI), ?_, qth_i (qi_c hI (fun a p => o a (by omega)) (fun j p => by rw [o 0 (by decide)]) (by rw [o 4 (by decide)]) (fun j p => by rw [o 132 (by decide)])) 0⟩
  unfold X7_minutes
  rw [qth_e]
  refine qf_for (N := 1440) (fun i => (qsum i (fun m => nI (qs_ta (σ 133) (nI m))), nI i, qth (g_row σ 1 (qs_F σ (σ 133) 20)) 0)) (fun i hi => ?_) ?_ 0 (by omega)
  · show X7_minutes_k0 _ (qsum i (fun m => nI (qs_ta (σ 133) (nI m)))) (nI i) = some (.inl (qsum i (fun m => nI (qs_ta (σ 133) (nI m))) + nI (qs_ta (σ 133) (nI i)), nI (i + 1), _))
    unfold X7_minutes_k0
    rw [if_neg (show ¬ (1440 : Int32) ≤ nI i from nI_ge (b := 1440) hi (by decide)), qd_staysAt hV1, qs, qk_s, e1]
  · show X7_minutes_k0 _ (qsum 1440 (fun m => nI (qs_ta (σ 133) (nI m)))) (nI 1440) = _
    unfold X7_minutes_k0
    rw [if_pos (show (1440 : Int32) ≤ nI 1440 from nI_le (a := 1440) (b := 1440) (by omega) (by decide))]
/-! the peak -/
def qs_tk (M : Nat → Int32) (m : Nat) : Nat := qs_ta M (nI m)
/-- the greatest number, and the first minute that has it -/
def qs_pk (M : Nat → Int32) (g f : Nat) : Prop := (∀ m, m < 1440 → qs_tk M m ≤ g) ∧ ((g = 0 ∧ f = 0) ∨ (f < 1440 ∧ qs_tk M f = g ∧ 0 < g ∧ ∀ m, m < f → qs_tk M m < g))
theorem qs_pk_1 {M : Nat → Int32} {g f g' f' : Nat} (h : qs_pk M g f) (h' : qs_pk M g' f') : g = g' ∧ f = f' := by
  obtain ⟨a1, a2⟩ := h
  obtain ⟨b1, b2⟩ := h'
  rcases a2 with ⟨rfl, rfl⟩ | ⟨c1, c2, c3, c4⟩
  · rcases b2 with ⟨rfl, rfl⟩ | ⟨d1, d2, d3, d4⟩
    · exact ⟨rfl, rfl⟩
    · have := a1 f' d1; omega
  · rcases b2 with ⟨rfl, rfl⟩ | ⟨d1, d2, d3, d4⟩
    · have := b1 f c1; omega
    · have h1 := a1 f' d1
      have h2 := b1 f c1
      have e : g = g' := by omega
      refine ⟨e, ?_⟩
      rcases Nat.lt_trichotomy f f' with q | q | q
      · have := d4 f q; omega
      · exact q
      · have := c4 f' q; omega
theorem qcnt_mono {p q : Nat → Bool} : ∀ {n : Nat}, (∀ k, k < n → p k = true → q k = true) → qcnt n p ≤ qcnt n q
  | 0, h => Nat.le_refl 0
  | n + 1, h => by
    have := qcnt_mono (n := n) (fun k hk => h k (by omega))
    cases c : p n with
    | false =>
      rw [qcnt_n c]
      show _ ≤ qcnt n q + _
      omega
    | true => rw [qcnt_y c, qcnt_y (h n (by omega) c)]; omega
theorem qcnt_pos {p : Nat → Bool} {k : Nat} : ∀ {n : Nat}, k < n → p k = true → 0 < qcnt n p
  | 0, h, hp => by omega
  | n + 1, h, hp => by
    by_cases e : k = n
    · subst e; rw [qcnt_y hp]; omega
    · have := qcnt_pos (n := n) (by omega) hp
      show 0 < qcnt n p + _
      omega
theorem qcnt_z {p : Nat → Bool} : ∀ {n : Nat}, (∀ k, k < n → p k = false) → qcnt n p = 0
  | 0, h => rfl
  | n + 1, h => by
    rw [qcnt_n (h n (by omega))]
    exact qcnt_z (fun k hk => h k (by omega))
theorem qs_tk_in {M : Nat → Int32} (hV : qs_V M) {k : Nat} (hk : qs_io M k = true) : 0 < qs_tk M (qs_fn M k) := by
  have his := qs_io_is hk
  obtain ⟨h1, h2, h3, h4⟩ := qs_fnt hV his
  refine qcnt_pos (k := k) (qv_k hV his) ?_
  rw [hk, qs_thn hV his (by omega), decide_eq_true (Nat.le_refl _), decide_eq_true (by omega)]
  rfl
/-- where none begins, no more are there than a minute before -/
theorem qs_tk_nb {M : Nat → Int32} (hV : qs_V M) {m : Nat} (hm : m + 1 < 1440) (hb : ∀ k, k < 20 → qs_io M k = true → qs_fn M k ≠ m + 1) : qs_tk M (m + 1) ≤ qs_tk M m := by
  refine qcnt_mono (fun k hk hp => ?_)
  simp only [Bool.and_eq_true] at hp ⊢
  have his := qs_io_is hp.1
  obtain ⟨h1, h2, h3, h4⟩ := qs_fnt hV his
  refine ⟨hp.1, ?_⟩
  have h5 := hp.2
  rw [qs_thn hV his (by omega)] at h5 ⊢
  simp only [Bool.and_eq_true, decide_eq_true_eq] at h5 ⊢
  have := hb k hk hp.1
  omega
theorem qs_tk_0 {M : Nat → Int32} (hV : qs_V M) (hb : ∀ k, k < 20 → qs_io M k = true → qs_fn M k ≠ 0) : qs_tk M 0 = 0 := by
  refine qcnt_z (fun k hk => ?_)
  cases c : qs_io M k with
  | false => rfl
  | true =>
    have his := qs_io_is c
    rw [qs_thn hV his (by omega), decide_eq_false (by have := hb k hk c; omega)]
    rfl
theorem qs_pk_of {M : Nat → Int32} (hV : qs_V M) {g f : Nat} (h1 : ∀ k, k < 20 → qs_io M k = true → qs_tk M (qs_fn M k) ≤ g) (h2 : (g = 0 ∧ f = 0) ∨ (∃ k, k < 20 ∧ qs_io M k = true ∧ f = qs_fn M k ∧ qs_tk M f = g ∧ 0 < g)) (h3 : ∀ k, k < 20 → qs_io M k = true → qs_tk M (qs_fn M k) = g → f ≤ qs_fn M k) : qs_pk M g f := by
  have up : ∀ m, m < 1440 → qs_tk M m ≤ g := by
    intro m
    induction m with
    | zero =>
      intro _
      by_cases c : ∃ k, k < 20 ∧ qs_io M k = true ∧ qs_fn M k = 0
      · obtain ⟨k, k1, k2, k3⟩ := c
        have := h1 k k1 k2
        rw [k3] at this; exact this
      · rw [qs_tk_0 hV (fun k k1 k2 k3 => c ⟨k, k1, k2, k3⟩)]; exact Nat.zero_le _
    | succ m ih =>
      intro hm
      by_cases c : ∃ k, k < 20 ∧ qs_io M k = true ∧ qs_fn M k = m + 1
      · obtain ⟨k, k1, k2, k3⟩ := c
        have := h1 k k1 k2
        rw [k3] at this; exact this
      · have := qs_tk_nb hV hm (fun k k1 k2 k3 => c ⟨k, k1, k2, k3⟩)
        have := ih (by omega)
        omega
  refine ⟨up, ?_⟩
  rcases h2 with h2 | ⟨k0, k1, k2, k3, k4, k5⟩
  · exact Or.inl h2
  · obtain ⟨q1, q2, q3, q4⟩ := qs_fnt hV (qs_io_is k2)
    refine Or.inr ⟨by omega, k4, k5, fun m hm => ?_⟩
    have lo : ∀ m, m < f → qs_tk M m < g := by
      intro m
      induction m with
      | zero =>
        intro hm
        by_cases c : ∃ k, k < 20 ∧ qs_io M k = true ∧ qs_fn M k = 0
        · obtain ⟨k, c1, c2, c3⟩ := c
          have a := h1 k c1 c2
          have b := h3 k c1 c2
          rw [c3] at a b
          rcases Nat.lt_or_ge (qs_tk M 0) g with z | z
          · exact z
          · have := b (by omega); omega
        · rw [qs_tk_0 hV (fun k k1 k2 k3 => c ⟨k, k1, k2, k3⟩)]; exact k5
      | succ m ih =>
        intro hm
        by_cases c : ∃ k, k < 20 ∧ qs_io M k = true ∧ qs_fn M k = m + 1
        · obtain ⟨k, c1, c2, c3⟩ := c
          have a := h1 k c1 c2
          have b := h3 k c1 c2
          rw [c3] at a b
          rcases Nat.lt_or_ge (qs_tk M (m + 1)) g with z | z
          · exact z
          · have := b (by omega); omega
        · have := qs_tk_nb hV (m := m) (by omega) (fun k k1 k2 k3 => c ⟨k, k1, k2, k3⟩)
          have := ih (by omega)
          omega
    exact lo m hm
def qpo (x g f : Int32) : Int32 := if x = 0 then g else f
theorem qs_tk_le (M : Nat → Int32) (m : Nat) : qs_tk M m ≤ 20 := qcnt_le 20 _
theorem qc_peak {σ : gS} {M : Nat → Int32} (h : qr_R (qr_b σ 24) M) (x : Int32) : ∃ g f, qs_pk M g f ∧ X6_peak σ x = some (qpo x (nI g) (nI f)) := by
  have hV := h.1
  have hl := qf_inv (step := X6_peak_s σ) (N := 20) (γ := Nat × Nat) (J := fun i (p : Nat × Nat) => p.1 ≤ 20 ∧ p.2 < 1440 ∧ (∀ k, k < i → qs_io M k = true → qs_tk M (qs_fn M k) ≤ p.1) ∧ ((p.1 = 0 ∧ p.2 = 0) ∨ (∃ k, k < i ∧ qs_io M k = true ∧ p.2 = qs_fn M k ∧ qs_tk M p.2 = p.1 ∧ 0 < p.1)) ∧ (∀ k, k < i → qs_io M k = true → qs_tk M (qs_fn M k) = p.1 → p.2 ≤ qs_fn M k))
    (Q := fun r => ∃ g f, qs_pk M g f ∧ r = qpo x (nI g) (nI f)) (fun i p => (x, nI p.1, nI p.2, nI i)) (fun i p hi hJ => ?_) (fun p hJ => ?_) 0 (0, 0) (by omega) ⟨by decide, by decide, fun k hk => by omega, Or.inl ⟨rfl, rfl⟩, fun k hk => by omega⟩
  · obtain ⟨r, h1, g, f, h2, h3⟩ := hl
    exact ⟨g, f, h2, by rw [← h3]; exact h1⟩
  · obtain ⟨j0, j00, j1, j2, j3⟩ := hJ
    refine Or.inl ?_
    show ∃ g', X6_peak_k0 σ x (nI p.1) (nI p.2) (nI i) = _ ∧ _
    unfold X6_peak_k0
    rw [if_neg (qk_20 hi), qk_s, qc_isOnStand h hi, qs, qb_if]
    cases c : qs_io M i with
    | false =>
      refine ⟨p, by rw [if_neg (by decide)], j0, j00, fun k hk hio => ?_, ?_, fun k hk hio => ?_⟩
      · by_cases e : k = i
        · rw [e, c] at hio; cases hio
        · exact j1 k (by omega) hio
      · rcases j2 with q | ⟨k, q1, q2⟩
        · exact Or.inl q
        · exact Or.inr ⟨k, by omega, q2⟩
      · by_cases e : k = i
        · rw [e, c] at hio; cases hio
        · exact j3 k (by omega) hio
    | true =>
      have his := qs_io_is c
      obtain ⟨q1, q2, q3, q4⟩ := qs_fnt hV his
      have hpos := qs_tk_in hV c
      have hle := qs_tk_le M (qs_fn M i)
      have ef : σ (24 + 9) i = nI (qs_fn M i) := (qr_fr h his).trans q1
      rw [if_pos rfl, qg_i hi (by decide), qk_c (by omega), ef, qc_thereAt h, qs]
      show ∃ g', (if nI p.1 < nI (qs_tk M (qs_fn M i)) then some (Sum.inl (x, nI (qs_tk M (qs_fn M i)), nI (qs_fn M i), nI (i + 1))) else if nI (qs_tk M (qs_fn M i)) = nI p.1 then (if nI p.2 ≤ nI (qs_fn M i) then some (Sum.inl (x, nI p.1, nI p.2, nI (i + 1))) else some (Sum.inl (x, nI (qs_tk M (qs_fn M i)), nI (qs_fn M i), nI (i + 1)))) else some (Sum.inl (x, nI p.1, nI p.2, nI (i + 1)))) = _ ∧ _
      by_cases c1 : p.1 < qs_tk M (qs_fn M i)
      · refine ⟨(qs_tk M (qs_fn M i), qs_fn M i), by rw [if_pos (nI_lt c1 (by omega))], hle, by show qs_fn M i < 1440; omega, fun k hk hio => ?_, Or.inr ⟨i, by omega, c, rfl, rfl, hpos⟩, fun k hk hio e => ?_⟩
        · by_cases e : k = i
          · rw [e]; exact Nat.le_refl _
          · have := j1 k (by omega) hio
            show _ ≤ qs_tk M (qs_fn M i)
            omega
        · by_cases e2 : k = i
          · rw [e2]; exact Nat.le_refl _
          · have := j1 k (by omega) hio
            have e : qs_tk M (qs_fn M k) = qs_tk M (qs_fn M i) := e
            omega
      · rw [if_neg (nI_nlt (by omega) (by omega))]
        by_cases c2 : qs_tk M (qs_fn M i) = p.1
        · rw [if_pos (by rw [c2])]
          by_cases c3 : p.2 ≤ qs_fn M i
          · refine ⟨p, by rw [if_pos (nI_le c3 (by omega))], j0, j00, fun k hk hio => ?_, ?_, fun k hk hio e => ?_⟩
            · by_cases e : k = i
              · rw [e]; omega
              · exact j1 k (by omega) hio
            · rcases j2 with q | ⟨k, q1, q2⟩
              · exact Or.inl q
              · exact Or.inr ⟨k, by omega, q2⟩
            · by_cases e2 : k = i
              · rw [e2]; exact c3
              · exact j3 k (by omega) hio e
          · refine ⟨(qs_tk M (qs_fn M i), qs_fn M i), by rw [if_neg (nI_ge (by omega) (by omega))], hle, by show qs_fn M i < 1440; omega, fun k hk hio => ?_, Or.inr ⟨i, by omega, c, rfl, rfl, hpos⟩, fun k hk hio e => ?_⟩
            · by_cases e : k = i
              · rw [e]; exact Nat.le_refl _
              · have := j1 k (by omega) hio
                show _ ≤ qs_tk M (qs_fn M i)
                omega
            · by_cases e2 : k = i
              · rw [e2]; exact Nat.le_refl _
              · have e : qs_tk M (qs_fn M k) = qs_tk M (qs_fn M i) := e
                have := j3 k (by omega) hio (by omega)
                show qs_fn M i ≤ _
                omega
        · refine ⟨p, by rw [if_neg (fun q => c2 ((qk_eq (by omega) (by omega)).mp q))], j0, j00, fun k hk hio => ?_, ?_, fun k hk hio e => ?_⟩
          · by_cases e : k = i
            · rw [e]; omega
            · exact j1 k (by omega) hio
          · rcases j2 with q | ⟨k, q1, q2⟩
            · exact Or.inl q
            · exact Or.inr ⟨k, by omega, q2⟩
          · by_cases e2 : k = i
            · rw [e2] at e; omega
            · exact j3 k (by omega) hio e
  · obtain ⟨j0, j00, j1, j2, j3⟩ := hJ
    show ∃ b, X6_peak_k0 σ x (nI p.1) (nI p.2) (nI 20) = _ ∧ _
    unfold X6_peak_k0
    rw [if_pos qk_e20]
    refine ⟨qpo x (nI p.1) (nI p.2), ?_, p.1, p.2, qs_pk_of hV j1 j2 j3, rfl⟩
    unfold qpo
    by_cases c : x = 0
    · rw [if_pos c, if_pos c]
    · rw [if_neg c, if_neg c]
theorem qd_peak {σ : gS} (hV : qs_V (σ 133)) (x : Int32) : ∃ g f, qs_pk (σ 133) g f ∧ gr X7_peak_s (x, 0, 0, 0, σ) = some (qpo x (nI g) (nI f), σ) := by
  have hl := qf_inv (step := X7_peak_s) (N := 1440) (γ := Nat × Nat) (J := fun i (p : Nat × Nat) => p.1 ≤ 20 ∧ p.2 < 1440 ∧ (∀ m, m < i → qs_tk (σ 133) m ≤ p.1) ∧ ((p.1 = 0 ∧ p.2 = 0) ∨ (p.2 < i ∧ qs_tk (σ 133) p.2 = p.1 ∧ 0 < p.1 ∧ ∀ m, m < p.2 → qs_tk (σ 133) m < p.1)))
    (Q := fun r => ∃ g f, qs_pk (σ 133) g f ∧ r = (qpo x (nI g) (nI f), σ)) (fun i p => (x, nI p.1, nI p.2, nI i, σ)) (fun i p hi hJ => ?_) (fun p hJ => ?_) 0 (0, 0) (by omega) ⟨by decide, by decide, fun k hk => by omega, Or.inl ⟨rfl, rfl⟩⟩
  · obtain ⟨r, h1, g, f, h2, h3⟩ := hl
    exact ⟨g, f, h2, by rw [← h3]; exact h1⟩
  · obtain ⟨j0, j00, j1, j2⟩ := hJ
    refine Or.inl ?_
    have hle := qs_tk_le (σ 133) i
    show ∃ g', X7_peak_k0 σ x (nI p.1) (nI p.2) (nI i) = _ ∧ _
    unfold X7_peak_k0
    rw [if_neg (show ¬ (1440 : Int32) ≤ nI i from nI_ge (b := 1440) hi (by decide)), qk_s, qd_staysAt hV, qs]
    show ∃ g', (if nI (qs_tk (σ 133) i) ≤ nI p.1 then some (Sum.inl (x, (if nI p.1 < nI (qs_tk (σ 133) i) then nI (qs_tk (σ 133) i) else nI p.1), nI p.2, nI (i + 1), σ)) else some (Sum.inl (x, (if nI p.1 < nI (qs_tk (σ 133) i) then nI (qs_tk (σ 133) i) else nI p.1), nI i, nI (i + 1), σ))) = _ ∧ _
    by_cases c1 : qs_tk (σ 133) i ≤ p.1
    · refine ⟨p, by rw [if_pos (nI_le c1 (by omega)), if_neg (nI_nlt c1 (by omega))], j0, j00, fun m hm => ?_, ?_⟩
      · by_cases e : m = i
        · rw [e]; exact c1
        · exact j1 m (by omega)
      · rcases j2 with q | ⟨q1, q2⟩
        · exact Or.inl q
        · exact Or.inr ⟨by omega, q2⟩
    · refine ⟨(qs_tk (σ 133) i, i), by rw [if_neg (nI_ge (by omega) (by omega)), if_pos (nI_lt (by omega) (by omega))], hle, hi, fun m hm => ?_, Or.inr ⟨by show i < i + 1; omega, rfl, by show 0 < qs_tk (σ 133) i; omega, fun m hm => ?_⟩⟩
      · by_cases e : m = i
        · rw [e]; exact Nat.le_refl _
        · have := j1 m (by omega)
          show _ ≤ qs_tk (σ 133) i
          omega
      · have := j1 m hm
        show _ < qs_tk (σ 133) i
        omega
  · obtain ⟨j0, j00, j1, j2⟩ := hJ
    show ∃ b, X7_peak_k0 σ x (nI p.1) (nI p.2) (nI 1440) = _ ∧ _
    unfold X7_peak_k0
    rw [if_pos (show (1440 : Int32) ≤ nI 1440 from nI_le (a := 1440) (b := 1440) (by omega) (by decide))]
    refine ⟨(qpo x (nI p.1) (nI p.2), σ), ?_, p.1, p.2, ⟨j1, ?_⟩, rfl⟩
    · unfold qpo
      by_cases c : x = 0
      · rw [if_pos c, if_pos c]
      · rw [if_neg c, if_neg c]
    · exact j2
theorem qo_peak : o_peak qi := by
  intro σ hI x1
  have hV := qi_V hI
  obtain ⟨g, f, h1, h2⟩ := qc_peak (qi_R hI) (bx x1)
  obtain ⟨g', f', h3, h4⟩ := qd_peak (qth_V hV 0) (bx x1)
  rw [qth_133] at h3
  obtain ⟨rfl, rfl⟩ := qs_pk_1 h1 h3
  refine ⟨qpo (bx x1) (nI g) (nI f), qth σ 0, h2, ?_, qth_i hI 0⟩
  unfold X7_peak
  rw [qth_e]
  exact h4
