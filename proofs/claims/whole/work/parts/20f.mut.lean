/-! ===== what a change does to both sides ===== -/
/-- a stay is put -/
theorem qr_put {σ : gS} {b : Nat} {M : Nat → Int32} (h : qr_R (qr_b σ b) M) {k : Nat} (hk : qs_is M k = true) {v : Int32} (h1 : -1 ≤ v.toInt) (h2 : v.toInt < qs_n M) : qr_R (qr_b (g_up σ (b + 11) k v) b) (qs_pt M k v) := by
  have hV := qpt_V h.1 hk h1 h2
  have k20 := qv_k h.1 hk
  have h8 := qv_n8 h.1
  have h10 := qv_t10 h.1
  obtain ⟨-, ⟨b0, b1, b2, b3⟩, ⟨w, w1, w2, w3⟩, b5, b6, b7, b8, b9⟩ := h
  have e : ∀ r, r < 11 → qr_b (g_up σ (b + 11) k v) b r = qr_b σ b r := by
    intro r hr
    unfold qr_b
    rw [if_pos (by omega), if_pos (by omega), qu_a _ _ (by omega)]
  refine ⟨hV, ⟨?_, ?_, ?_, ?_⟩, ⟨w, w1, ?_, fun i hi => ?_⟩, fun i hi => ?_, fun i j hi hj => ?_, fun i hi => ?_, fun o ho hs => ?_, fun o ho => ?_⟩
  · rw [e 0 (by decide), qpt_ne (by omega)]; exact b0
  · rw [e 0 (by decide), qpt_ne (by omega)]; exact b1
  · rw [e 0 (by decide), qpt_ne (by omega)]; exact b2
  · rw [e 0 (by decide), qpt_ne (by omega)]; exact b3
  · rw [e 0 (by decide)]; exact w2
  · rw [qpt_n] at hi
    rw [qpt_ne (by omega)]; exact w3 i hi
  · rw [qpt_n] at hi
    rw [e 1 (by decide), e 2 (by decide), qpt_ne (by omega), qpt_ne (by omega)]; exact b5 i hi
  · rw [qpt_n] at hi hj
    rw [e 3 (by decide), qpt_li (by omega) (by omega)]; exact b6 i j hi hj
  · rw [qpt_t] at hi
    rw [e 4 (by decide), e 5 (by decide), e 6 (by decide), e 7 (by decide), e 8 (by decide), qpt_ne (by omega), qpt_ne (by omega), qpt_ne (by omega), qpt_ne (by omega), qpt_ne (by omega)]; exact b7 i hi
  · rw [qpt_is] at hs
    rw [e 9 (by decide), e 10 (by decide), qpt_fr, qpt_to]; exact b8 o ho hs
  · by_cases c : o = k
    · subst c
      have : qr_b (g_up σ (b + 11) o v) b 11 o = v := by
        unfold qr_b
        rw [if_pos (by decide), qu_at]
      rw [this, qpt_iok, hk, Bool.true_and, qpt_k]
      by_cases c2 : 0 ≤ v
      · rw [if_pos (decide_eq_true c2)]
      · rw [if_neg (by rw [decide_eq_false c2]; decide)]
        have e0 : (0 : Int32).toInt = 0 := rfl
        have e1 : (-1 : Int32).toInt = -1 := by decide
        rw [qf_le, e0] at c2
        rw [qf_eq, e1]; omega
    · have : qr_b (g_up σ (b + 11) k v) b 11 o = qr_b σ b 11 o := by
        unfold qr_b
        rw [if_pos (by decide), if_pos (by decide), qu_j _ _ c]
      rw [this, qpt_io c, qpt_o c]; exact b9 o ho
theorem qu_row (σ : gS) (i j : Nat) (v : Int32) : g_up σ i j v i = fun x => if x = j then v else σ i x := g_up_eq
/-- one number of the row is another one -/
def qu1 (M : Nat → Int32) (j : Nat) (v : Int32) : Nat → Int32 := fun x => if x = j then v else M x
theorem qu1_at (M : Nat → Int32) (j : Nat) (v : Int32) : qu1 M j v j = v := if_pos rfl
theorem qu1_ne (M : Nat → Int32) {j x : Nat} (v : Int32) (h : x ≠ j) : qu1 M j v x = M x := if_neg h
theorem qu1_133 (σ : gS) (j : Nat) (v : Int32) : g_up σ 133 j v 133 = qu1 (σ 133) j v := g_up_eq
theorem qu1_cut {M : Nat → Int32} (h : qcut M = M) {j : Nat} (hj : j < 162) (v : Int32) : qcut (qu1 M j v) = qu1 M j v := by
  funext x
  unfold qcut qu1
  by_cases c : x < 162
  · rw [if_pos c]
  · rw [if_neg c, if_neg (by omega), ← h]
    exact (if_neg c).symm
theorem qpt_qu1 (M : Nat → Int32) (k : Nat) (v : Int32) : qs_pt M k v = qu1 M (97 + 7 * (k / 2) + k % 2) v := rfl
/-- a turn's numbers are others -/
def qm_T (M M' : Nat → Int32) (t : Nat) : Prop := (∀ j, j ≠ 1 → (j < 92 + 7 * t ∨ 99 + 7 * t ≤ j) → M' j = M j) ∧ M' 1 = nI (qs_t M') ∧ qs_t M' ≤ 10 ∧ t < qs_t M' ∧ qs_t M ≤ qs_t M' ∧ (∀ i, i < qs_t M' → i ≠ t → i < qs_t M)
section MT
variable {M M' : Nat → Int32} {t : Nat}
theorem qmt_n (h : qm_T M M' t) : qs_n M' = qs_n M := by
  unfold qs_n
  rw [h.1 0 (by decide) (by omega)]
theorem qmt_V (hV : qs_V M) (h : qm_T M M' t) (hT : qs_T M' t) : qs_V M' := by
  obtain ⟨h1, h2, h3, h4, h5, h6⟩ := id h
  have hn := qmt_n h
  obtain ⟨⟨a1, a2⟩, ⟨a3, a4⟩, a5, a6, a7, a8⟩ := hV
  refine ⟨⟨?_, by rw [hn]; exact a2⟩, ⟨h2, h3⟩, ?_, fun i hi => ?_, fun i j hi hj => ?_, fun i hi => ?_⟩
  · rw [hn, h1 0 (by decide) (by omega)]; exact a1
  · rw [h1 2 (by decide) (by omega)]; exact a5
  · rw [hn] at hi
    rw [h1 (4 + i) (by omega) (by omega), h1 (20 + i) (by omega) (by omega)]; exact a6 i hi
  · rw [hn]
    unfold qs_li
    rw [h1 (28 + 8 * i + j) (by omega) (by omega), h1 (28 + 8 * j + i) (by omega) (by omega)]; exact a7 i j hi hj
  · by_cases c : i = t
    · subst c; exact hT
    · have := a8 i (h6 i hi c)
      unfold qs_T at this ⊢
      rw [hn, h1 (93 + 7 * i) (by omega) (by omega), h1 (94 + 7 * i) (by omega) (by omega), h1 (95 + 7 * i) (by omega) (by omega), h1 (96 + 7 * i) (by omega) (by omega), h1 (97 + 7 * i) (by omega) (by omega), h1 (98 + 7 * i) (by omega) (by omega)]
      exact this
theorem qmt_is (h : qm_T M M' t) {k : Nat} (hk : k / 2 ≠ t) : qs_is M' k = qs_is M k := by
  obtain ⟨h1, h2, h3, h4, h5, h6⟩ := h
  unfold qs_is
  rw [h1 (96 + 7 * (k / 2)) (by omega) (by omega)]
  congr 1
  exact decide_eq_decide.mpr ⟨fun q => h6 _ q hk, fun q => by omega⟩
theorem qmt_on (h : qm_T M M' t) {k : Nat} (hk : k / 2 ≠ t) : qs_on M' k = qs_on M k := by
  unfold qs_on
  rw [h.1 _ (by omega) (by omega)]
theorem qmt_io (h : qm_T M M' t) {k : Nat} (hk : k / 2 ≠ t) : qs_io M' k = qs_io M k := by
  unfold qs_io
  rw [qmt_is h hk, qmt_on h hk]
theorem qmt_fr (h : qm_T M M' t) {k : Nat} (hk : k / 2 ≠ t) : qs_fr M' k = qs_fr M k := by
  unfold qs_fr
  rw [h.1 (93 + 7 * (k / 2)) (by omega) (by omega), h.1 (96 + 7 * (k / 2)) (by omega) (by omega)]
theorem qmt_to (h : qm_T M M' t) {k : Nat} (hk : k / 2 ≠ t) : qs_to M' k = qs_to M k := by
  unfold qs_to
  rw [h.1 (94 + 7 * (k / 2)) (by omega) (by omega), h.1 (96 + 7 * (k / 2)) (by omega) (by omega)]
/-- the rows after it -/
theorem qmt_R {A A' : Nat → Nat → Int32} (h : qr_R A M) (hm : qm_T M M' t) (hT : qs_T M' t)
    (e0 : ∀ j, j ≠ 1 → A' 0 j = A 0 j) (e1 : A' 0 1 = M' 1) (e3 : ∀ r, 1 ≤ r → r < 4 → A' r = A r) (e4 : ∀ r i, 4 ≤ r → r < 9 → i ≠ t → A' r i = A r i)
    (f : A' 4 t = M' (92 + 7 * t) ∧ A' 5 t = M' (93 + 7 * t) ∧ A' 6 t = M' (94 + 7 * t) ∧ A' 7 t = M' (95 + 7 * t) ∧ A' 8 t = M' (96 + 7 * t))
    (e5 : ∀ r k, 9 ≤ r → r < 12 → k / 2 ≠ t → A' r k = A r k)
    (g : ∀ k, k / 2 = t → qs_is M' k = true → A' 9 k = qs_fr M' k ∧ A' 10 k = qs_to M' k)
    (g2 : ∀ k, k / 2 = t → A' 11 k = if qs_io M' k = true then qs_on M' k else -1) : qr_R A' M' := by
  have hV := qmt_V h.1 hm hT
  have hn := qmt_n hm
  obtain ⟨h1, h2, h3, h4, h5, h6⟩ := id hm
  have h8 := qv_n8 h.1
  obtain ⟨-, ⟨b0, b1, b2, b3⟩, ⟨w, w1, w2, w3⟩, b5, b6, b7, b8, b9⟩ := h
  refine ⟨hV, ⟨?_, e1, ?_, ?_⟩, ⟨w, w1, ?_, fun i hi => ?_⟩, fun i hi => ?_, fun i j hi hj => ?_, fun i hi => ?_, fun k hk hs => ?_, fun k hk => ?_⟩
  · rw [e0 0 (by decide), h1 0 (by decide) (by omega)]; exact b0
  · rw [e0 2 (by decide), h1 2 (by decide) (by omega)]; exact b2
  · rw [e0 3 (by decide), h1 3 (by decide) (by omega)]; exact b3
  · rw [e0 4 (by decide)]; exact w2
  · rw [hn] at hi
    rw [h1 (20 + i) (by omega) (by omega)]; exact w3 i hi
  · rw [hn] at hi
    rw [e3 1 (by decide) (by decide), e3 2 (by decide) (by decide), h1 (4 + i) (by omega) (by omega), h1 (12 + i) (by omega) (by omega)]; exact b5 i hi
  · rw [hn] at hi hj
    have := b6 i j hi hj
    unfold qs_li at this ⊢
    rw [e3 3 (by decide) (by decide), h1 (28 + 8 * i + j) (by omega) (by omega)]; exact this
  · by_cases c : i = t
    · subst c; exact f
    · have := b7 i (h6 i hi c)
      rw [e4 4 i (by decide) (by decide) c, e4 5 i (by decide) (by decide) c, e4 6 i (by decide) (by decide) c, e4 7 i (by decide) (by decide) c, e4 8 i (by decide) (by decide) c, h1 (92 + 7 * i) (by omega) (by omega), h1 (93 + 7 * i) (by omega) (by omega), h1 (94 + 7 * i) (by omega) (by omega), h1 (95 + 7 * i) (by omega) (by omega), h1 (96 + 7 * i) (by omega) (by omega)]
      exact this
  · by_cases c : k / 2 = t
    · exact g k c hs
    · rw [qmt_is hm c] at hs
      rw [e5 9 k (by decide) (by decide) c, e5 10 k (by decide) (by decide) c, qmt_fr hm c, qmt_to hm c]
      exact b8 k hk hs
  · by_cases c : k / 2 = t
    · exact g2 k c
    · rw [e5 11 k (by decide) (by decide) c, qmt_io hm c, qmt_on hm c]
      exact b9 k hk
end MT
/-- the stays of a turn are set anew -/
def qst (σ : gS) (b t : Nat) : gS := g_up (g_up (g_up (g_up σ (b + 9) (2 * t) (σ (b + 5) t)) (b + 10) (2 * t) (if σ (b + 8) t < 0 then σ (b + 6) t else σ (b + 8) t)) (b + 9) (2 * t + 1) (if σ (b + 8) t < 0 then σ (b + 6) t else σ (b + 8) t + 10)) (b + 10) (2 * t + 1) (σ (b + 6) t)
theorem qc_hasTowR (σ : gS) {b t : Nat} (ht : t < 10) : X0_hasTow σ b (nI t) = some (qb (!decide (σ (b + 8) t < 0))) := by
  unfold X0_hasTow
  rw [qg_i ht (by decide), qk_c (by omega), qb_iten]
theorem qc_setStays (σ : gS) {b t : Nat} (ht : t < 10) : X0_setStays σ b (nI t) = some (qst σ b t) := by
  unfold X0_setStays qst
  rw [qk_m2p, qk_m2, qg_i ht (by decide), qg_i (show 2 * t < 20 by omega) (by decide), qk_c (by omega), qk_c (by omega), qk_c (by omega), ql, qc_hasTowR _ ht, qs, qb_if, qu_a _ _ (by omega)]
  by_cases c : σ (b + 8) t < 0
  · rw [decide_eq_true c, if_neg (by decide), if_pos c, if_pos c, ql, qc_hasTowR _ ht, qs, qb_if, qu_a _ _ (by omega), qu_a _ _ (by omega), decide_eq_true c, if_neg (by decide), qg_i (show 2 * t + 1 < 20 by omega) (by decide), ql, ql]
  · rw [decide_eq_false c, if_pos (by decide), if_neg c, if_neg c, ql, qc_hasTowR _ ht, qs, qb_if, qu_a _ _ (by omega), qu_a _ _ (by omega), decide_eq_false c, if_pos (by decide), qg_i (show 2 * t + 1 < 20 by omega) (by decide), ql, ql]
theorem qst_a (σ : gS) {b t a : Nat} (h : a ≠ b + 9) (h2 : a ≠ b + 10) : qst σ b t a = σ a := by
  unfold qst
  rw [qu_a _ _ h2, qu_a _ _ h, qu_a _ _ h2, qu_a _ _ h]
theorem qst_o (σ : gS) {b t a k : Nat} (h : k / 2 ≠ t) : qst σ b t a k = σ a k := by
  unfold qst g_up
  rw [if_neg (fun q => by omega), if_neg (fun q => by omega), if_neg (fun q => by omega), if_neg (fun q => by omega)]
theorem qst_9 (σ : gS) (b t : Nat) : qst σ b t (b + 9) (2 * t) = σ (b + 5) t := by
  unfold qst
  rw [qu_a _ _ (by omega), qu_j _ _ (by omega), qu_a _ _ (by omega), qu_at]
theorem qst_91 (σ : gS) (b t : Nat) : qst σ b t (b + 9) (2 * t + 1) = if σ (b + 8) t < 0 then σ (b + 6) t else σ (b + 8) t + 10 := by
  unfold qst
  rw [qu_a _ _ (by omega), qu_at]
theorem qst_10 (σ : gS) (b t : Nat) : qst σ b t (b + 10) (2 * t) = if σ (b + 8) t < 0 then σ (b + 6) t else σ (b + 8) t := by
  unfold qst
  rw [qu_j _ _ (by omega), qu_a _ _ (by omega), qu_at]
theorem qst_101 (σ : gS) (b t : Nat) : qst σ b t (b + 10) (2 * t + 1) = σ (b + 6) t := by
  unfold qst
  rw [qu_at]
/-- the rows, once a turn's numbers are others and its stays set anew: σ' is what stands before the stays are set -/
theorem qst_R {σ σ' : gS} {b t : Nat} {M M' : Nat → Int32} (h : qr_R (qr_b σ b) M) (hm : qm_T M M' t) (hT : qs_T M' t)
    (e0 : ∀ j, j ≠ 1 → σ' b j = σ b j) (e1 : σ' b 1 = M' 1) (e3 : ∀ r, 1 ≤ r → r < 4 → σ' (b + r) = σ (b + r)) (e4 : ∀ r i, 4 ≤ r → r < 9 → i ≠ t → σ' (b + r) i = σ (b + r) i)
    (f : σ' (b + 4) t = M' (92 + 7 * t) ∧ σ' (b + 5) t = M' (93 + 7 * t) ∧ σ' (b + 6) t = M' (94 + 7 * t) ∧ σ' (b + 7) t = M' (95 + 7 * t) ∧ σ' (b + 8) t = M' (96 + 7 * t))
    (e5 : ∀ r k, 9 ≤ r → r < 12 → k / 2 ≠ t → σ' (b + r) k = σ (b + r) k)
    (g2 : ∀ k, k / 2 = t → σ' (b + 11) k = if qs_io M' k = true then qs_on M' k else -1) : qr_R (qr_b (qst σ' b t) b) M' := by
  have q : ∀ (τ : gS) (r : Nat), r < 12 → qr_b τ b r = τ (b + r) := fun τ r hr => by unfold qr_b; rw [if_pos hr]
  refine qmt_R h hm hT (fun j hj => ?_) ?_ (fun r h1 h2 => ?_) (fun r i h1 h2 h3 => ?_) ?_ (fun r k h1 h2 h3 => ?_) (fun k h1 h2 => ?_) (fun k h1 => ?_)
  · rw [q _ 0 (by decide), q _ 0 (by decide), qst_a _ (by omega) (by omega)]; exact e0 j hj
  · rw [q _ 0 (by decide), qst_a _ (by omega) (by omega)]; exact e1
  · rw [q _ r (by omega), q _ r (by omega), qst_a _ (by omega) (by omega)]; exact e3 r h1 h2
  · rw [q _ r (by omega), q _ r (by omega), qst_a _ (by omega) (by omega)]; exact e4 r i h1 h2 h3
  · rw [q _ 4 (by decide), q _ 5 (by decide), q _ 6 (by decide), q _ 7 (by decide), q _ 8 (by decide), qst_a _ (by omega) (by omega), qst_a _ (by omega) (by omega), qst_a _ (by omega) (by omega), qst_a _ (by omega) (by omega), qst_a _ (by omega) (by omega)]; exact f
  · rw [q _ r (by omega), q _ r (by omega), qst_o _ h3]; exact e5 r k h1 h2 h3
  · rw [q _ 9 (by decide), q _ 10 (by decide)]
    obtain ⟨f1, f2, f3, f4, f5⟩ := f
    unfold qs_fr qs_to
    have hk2 := Nat.mod_two_eq_zero_or_one k
    rcases hk2 with c | c
    · have ek : k = 2 * t := by omega
      rw [if_pos c, if_pos c, h1, ek, qst_9, qst_10, f2, f3, f5]
      exact ⟨rfl, rfl⟩
    · have ek : k = 2 * t + 1 := by omega
      have hnt : ¬ M' (96 + 7 * t) < 0 := by
        unfold qs_is at h2
        simp only [Bool.and_eq_true, Bool.or_eq_true, decide_eq_true_eq] at h2
        rcases h2.2 with h3 | h3
        · omega
        · rw [h1] at h3
          exact fun q => (qf_lt0 _).mp q h3
      rw [if_neg (by omega), if_neg (by omega), h1, ek, qst_91, qst_101, f3, f5, if_neg hnt]
      exact ⟨rfl, rfl⟩
  · rw [q _ 11 (by decide), qst_a _ (by omega) (by omega)]; exact g2 k h1
