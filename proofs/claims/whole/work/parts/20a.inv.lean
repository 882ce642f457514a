/-! ===== what holds of the cells between two calls ===== -/
theorem qu_at (σ : gS) (i j : Nat) (v : Int32) : g_up σ i j v i j = v := by unfold g_up; simp
theorem qu_j (σ : gS) {i j k : Nat} (v : Int32) (h : k ≠ j) : g_up σ i j v i k = σ i k := by unfold g_up; simp [h]
theorem qu_a (σ : gS) {i j a : Nat} (v : Int32) (h : a ≠ i) : g_up σ i j v a = σ a := g_up_ne h
theorem qw_at (σ : gS) (i : Nat) (f : Nat → Int32) : g_row σ i f i = f := by unfold g_row; simp
theorem qw_a (σ : gS) {i a : Nat} (f : Nat → Int32) (h : a ≠ i) : g_row σ i f a = σ a := by unfold g_row; simp [h]
def qcut (g : Nat → Int32) : Nat → Int32 := fun j => if j < 162 then g j else 0
theorem qcut_in {g : Nat → Int32} {j : Nat} (h : j < 162) : qcut g j = g j := if_pos h
theorem qcut_cut (g : Nat → Int32) : qcut (qcut g) = qcut g := by
  funext j
  unfold qcut
  by_cases h : j < 162
  · rw [if_pos h, if_pos h]
  · rw [if_neg h, if_neg h]
theorem qcut_eq {f g : Nat → Int32} (h : ∀ j, j < 162 → f j = g j) : qcut f = qcut g := by
  funext j
  unfold qcut
  by_cases c : j < 162
  · rw [if_pos c, if_pos c, h j c]
  · rw [if_neg c, if_neg c]
/-- the class keeps its history in a ring of rows, the law's second program in the row 137 -/
def qh_C (σ : gS) (ms : Nat → Nat → Int32) (c : Nat) : Prop := c ≤ 6 ∧ ∃ f : Nat, f < 6 ∧ σ 2 1 = nI f ∧ σ 2 2 = nI c ∧ ∀ i, i < c → qr_R (qr_b σ (60 + 12 * ((f + i) % 6))) (ms i)
def qh_M (σ : gS) (ms : Nat → Nat → Int32) (c : Nat) : Prop := σ 132 6 = nI c ∧ ∀ i, i < c → qcut (fun j => σ 137 (162 * i + j)) = ms i
def qi_1 (σ : gS) : Prop := qr_R (qr_b σ 24) (σ 133) ∧ qcut (σ 133) = σ 133
def qi_2 (σ : gS) : Prop := ∃ ms c, qh_C σ ms c ∧ qh_M σ ms c
def qi_3 (σ : gS) : Prop := (σ 0 8 = 0 ∧ σ 132 4 = 0) ∨ (σ 0 8 = 1 ∧ σ 132 4 = 1 ∧ qr_R (qr_b σ 48) (qcut (σ 136)))
def qi_4 (σ : gS) : Prop := σ 0 9 = σ 132 7 ∧ σ 0 10 = σ 132 15
def qi_5 (σ : gS) : Prop := ∃ L : Nat, L ≤ 60 ∧ σ 4 3 = nI L ∧ σ 132 12 = nI L ∧ ∀ i, i < L → σ 5 i = σ 140 i ∧ ∃ ch : Nat, ch < 127 ∧ σ 5 i = nI ch
def qi (σ : gS) : Prop := qi_1 σ ∧ qi_2 σ ∧ qi_3 σ ∧ qi_4 σ ∧ qi_5 σ
theorem qr_bc {σ σ' : gS} {b : Nat} (h : ∀ a, b ≤ a → a < b + 12 → σ' a = σ a) : qr_b σ' b = qr_b σ b := by
  funext j
  unfold qr_b
  by_cases c : j < 12
  · rw [if_pos c, if_pos c, h (b + j) (by omega) (by omega)]
  · rw [if_neg c, if_neg c]
theorem qi_1c {σ σ' : gS} (h : qi_1 σ) (h1 : ∀ a, 24 ≤ a → a < 36 → σ' a = σ a) (h2 : σ' 133 = σ 133) : qi_1 σ' := by
  unfold qi_1 at h ⊢
  rw [qr_bc (fun a p q => h1 a p (by omega)), h2]; exact h
theorem qh_Cc {σ σ' : gS} {ms : Nat → Nat → Int32} {c : Nat} (h : qh_C σ ms c) (h1 : ∀ a, 60 ≤ a → a < 132 → σ' a = σ a) (h2 : σ' 2 = σ 2) : qh_C σ' ms c := by
  obtain ⟨a1, f, a2, a3, a4, a5⟩ := h
  refine ⟨a1, f, a2, by rw [h2]; exact a3, by rw [h2]; exact a4, fun i hi => ?_⟩
  have : (f + i) % 6 < 6 := Nat.mod_lt _ (by decide)
  rw [qr_bc (fun a p q => h1 a (by omega) (by omega))]
  exact a5 i hi
theorem qh_Mc {σ σ' : gS} {ms : Nat → Nat → Int32} {c : Nat} (h : qh_M σ ms c) (h1 : σ' 132 6 = σ 132 6) (h2 : σ' 137 = σ 137) : qh_M σ' ms c := by
  obtain ⟨a1, a2⟩ := h
  exact ⟨h1.trans a1, fun i hi => by rw [h2]; exact a2 i hi⟩
theorem qi_2c {σ σ' : gS} (h : qi_2 σ) (h1 : ∀ a, 60 ≤ a → a < 132 → σ' a = σ a) (h2 : σ' 2 = σ 2) (h3 : σ' 132 6 = σ 132 6) (h4 : σ' 137 = σ 137) : qi_2 σ' := by
  obtain ⟨ms, c, a1, a2⟩ := h
  exact ⟨ms, c, qh_Cc a1 h1 h2, qh_Mc a2 h3 h4⟩
theorem qi_3c {σ σ' : gS} (h : qi_3 σ) (h1 : σ' 0 8 = σ 0 8) (h2 : σ' 132 4 = σ 132 4) (h3 : ∀ a, 48 ≤ a → a < 60 → σ' a = σ a) (h4 : σ' 136 = σ 136) : qi_3 σ' := by
  unfold qi_3 at h ⊢
  rw [qr_bc (fun a p q => h3 a p (by omega)), h1, h2, h4]; exact h
theorem qi_4c {σ σ' : gS} (h : qi_4 σ) (h1 : σ' 0 9 = σ 0 9) (h2 : σ' 132 7 = σ 132 7) (h3 : σ' 0 10 = σ 0 10) (h4 : σ' 132 15 = σ 132 15) : qi_4 σ' := by
  unfold qi_4 at h ⊢
  rw [h1, h2, h3, h4]; exact h
theorem qi_5c {σ σ' : gS} (h : qi_5 σ) (h1 : σ' 4 3 = σ 4 3) (h2 : σ' 132 12 = σ 132 12) (h3 : σ' 5 = σ 5) (h4 : σ' 140 = σ 140) : qi_5 σ' := by
  unfold qi_5 at h ⊢
  rw [h1, h2, h3, h4]; exact h
/-- what a call that only asks may change -/
theorem qi_c {σ σ' : gS} (h : qi σ) (h1 : ∀ a, (a = 2 ∨ a = 5 ∨ (24 ≤ a ∧ a < 36) ∨ (48 ≤ a ∧ a < 132) ∨ a = 133 ∨ a = 136 ∨ a = 137 ∨ a = 140) → σ' a = σ a) (h2 : ∀ j, (j = 8 ∨ j = 9 ∨ j = 10) → σ' 0 j = σ 0 j) (h3 : σ' 4 3 = σ 4 3) (h4 : ∀ j, (j = 4 ∨ j = 6 ∨ j = 7 ∨ j = 12 ∨ j = 15) → σ' 132 j = σ 132 j) : qi σ' := by
  obtain ⟨a1, a2, a3, a4, a5⟩ := h
  exact ⟨qi_1c a1 (fun a p q => h1 a (by omega)) (h1 133 (by omega)), qi_2c a2 (fun a p q => h1 a (by omega)) (h1 2 (by omega)) (h4 6 (by omega)) (h1 137 (by omega)), qi_3c a3 (h2 8 (by omega)) (h4 4 (by omega)) (fun a p q => h1 a (by omega)) (h1 136 (by omega)), qi_4c a4 (h2 9 (by omega)) (h4 7 (by omega)) (h2 10 (by omega)) (h4 15 (by omega)), qi_5c a5 h3 (h4 12 (by omega)) (h1 5 (by omega)) (h1 140 (by omega))⟩
/-- what was thrown is noted -/
def qth (σ : gS) (v : Int32) : gS := g_up σ 132 8 v
theorem qth_8 (σ : gS) (v : Int32) : qth σ v 132 8 = v := qu_at σ 132 8 v
theorem qth_a (σ : gS) (v : Int32) {a : Nat} (h : a ≠ 132) : qth σ v a = σ a := qu_a σ v h
theorem qth_j (σ : gS) (v : Int32) {j : Nat} (h : j ≠ 8) : qth σ v 132 j = σ 132 j := qu_j σ v h
theorem qth_133 (σ : gS) (v : Int32) : qth σ v 133 = σ 133 := qth_a σ v (by decide)
theorem qth_i {σ : gS} (h : qi σ) (v : Int32) : qi (qth σ v) :=
  qi_c h (fun a p => qth_a σ v (by omega)) (fun j p => by rw [qth_a σ v (by decide)]) (by rw [qth_a σ v (by decide)]) (fun j p => qth_j σ v (by omega))
theorem qth_y {α : Type} (σ : gS) (x y : α) : (if (qth σ 0) 132 8 ≤ 0 then x else y) = x := by rw [qth_8, if_pos (by decide)]
theorem qth_1 {α : Type} (σ : gS) (x y : α) : (if (qth σ 1) 132 8 ≤ 0 then x else y) = y := by rw [qth_8, if_neg (by decide)]
theorem qth_2 {α : Type} (σ : gS) (x y : α) : (if (qth σ 2) 132 8 ≤ 0 then x else y) = y := by rw [qth_8, if_neg (by decide)]
theorem qth_3 {α : Type} (σ : gS) (x y : α) : (if (qth σ 3) 132 8 ≤ 0 then x else y) = y := by rw [qth_8, if_neg (by decide)]
theorem qth_e {α : Type} (σ : gS) (v : Int32) (f : gS → Option α) : lt_ (g_up σ 132 8 v) f = f (qth σ v) := rfl
theorem qi_R {σ : gS} (h : qi σ) : qr_R (qr_b σ 24) (σ 133) := h.1.1
theorem qi_V {σ : gS} (h : qi σ) : qs_V (σ 133) := h.1.1.1
/-! a copy of the rows -/
def qy1 (σ : gS) (b b2 r : Nat) (n : Int32) : gS := g_row σ (b + r) (va_cpy (σ (b2 + r)) (σ (b + r)) (0 : Int32).toNatClampNeg (0 : Int32).toNatClampNeg n.toNatClampNeg)
theorem qy1_o (σ : gS) {b b2 r a : Nat} {n : Int32} (h : a ≠ b + r) : qy1 σ b b2 r n a = σ a := qw_a σ _ h
theorem qy1_r (σ : gS) {b b2 r j : Nat} {n : Int32} (h : j < n.toNatClampNeg) : qy1 σ b b2 r n (b + r) j = σ (b2 + r) j := by
  unfold qy1
  rw [qw_at]
  unfold va_cpy
  rw [qk_z0, if_pos ⟨Nat.zero_le _, by omega⟩]
  congr 1
  omega
def qy0 (σ : gS) (b b2 : Nat) : gS := g_up (g_up (g_up (g_up (g_up σ b 0 (σ b2 0)) b 1 ((g_up σ b 0 (σ b2 0)) b2 1)) b 2 ((g_up (g_up σ b 0 (σ b2 0)) b 1 ((g_up σ b 0 (σ b2 0)) b2 1)) b2 2)) b 3 ((g_up (g_up (g_up σ b 0 (σ b2 0)) b 1 ((g_up σ b 0 (σ b2 0)) b2 1)) b 2 ((g_up (g_up σ b 0 (σ b2 0)) b 1 ((g_up σ b 0 (σ b2 0)) b2 1)) b2 2)) b2 3)) b 4 ((g_up (g_up (g_up (g_up σ b 0 (σ b2 0)) b 1 ((g_up σ b 0 (σ b2 0)) b2 1)) b 2 ((g_up (g_up σ b 0 (σ b2 0)) b 1 ((g_up σ b 0 (σ b2 0)) b2 1)) b2 2)) b 3 ((g_up (g_up (g_up σ b 0 (σ b2 0)) b 1 ((g_up σ b 0 (σ b2 0)) b2 1)) b 2 ((g_up (g_up σ b 0 (σ b2 0)) b 1 ((g_up σ b 0 (σ b2 0)) b2 1)) b2 2)) b2 3)) b2 4)
theorem qy0_o (σ : gS) {b b2 a : Nat} (h : a ≠ b) : qy0 σ b b2 a = σ a := by
  unfold qy0
  rw [qu_a _ _ h, qu_a _ _ h, qu_a _ _ h, qu_a _ _ h, qu_a _ _ h]
theorem qy0_r (σ : gS) {b b2 j : Nat} (h : b2 ≠ b) (hj : j < 5) : qy0 σ b b2 b j = σ b2 j := by
  unfold qy0
  have e : ∀ (τ : gS) (i : Nat) (v : Int32), g_up τ b i v b2 = τ b2 := fun τ i v => qu_a τ v h
  simp only [e]
  rcases (show j = 0 ∨ j = 1 ∨ j = 2 ∨ j = 3 ∨ j = 4 by omega) with rfl | rfl | rfl | rfl | rfl
  · rw [qu_j _ _ (by decide), qu_j _ _ (by decide), qu_j _ _ (by decide), qu_j _ _ (by decide), qu_at]
  · rw [qu_j _ _ (by decide), qu_j _ _ (by decide), qu_j _ _ (by decide), qu_at]
  · rw [qu_j _ _ (by decide), qu_j _ _ (by decide), qu_at]
  · rw [qu_j _ _ (by decide), qu_at]
  · rw [qu_at]
def qy (σ : gS) (b b2 : Nat) : gS := qy1 (qy1 (qy1 (qy1 (qy1 (qy1 (qy1 (qy1 (qy1 (qy1 (qy1 (qy0 σ b b2) b b2 1 8) b b2 2 8) b b2 3 64) b b2 4 10) b b2 5 10) b b2 6 10) b b2 7 10) b b2 8 10) b b2 9 20) b b2 10 20) b b2 11 20
theorem qy_eq (σ : gS) (b b2 : Nat) : X0_copyFrom σ b b2 = some (qy σ b b2) := rfl
theorem qy_o (σ : gS) {b b2 a : Nat} (h : a < b ∨ b + 12 ≤ a) : qy σ b b2 a = σ a := by
  unfold qy
  rw [qy1_o _ (by omega), qy1_o _ (by omega), qy1_o _ (by omega), qy1_o _ (by omega), qy1_o _ (by omega), qy1_o _ (by omega), qy1_o _ (by omega), qy1_o _ (by omega), qy1_o _ (by omega), qy1_o _ (by omega), qy1_o _ (by omega), qy0_o _ (by omega)]
/-- the rows that matter agree -/
def qr_e (A A' : Nat → Nat → Int32) : Prop := ∀ r j, r < 12 → j < (if r = 0 then 5 else g_al r) → A' r j = A r j
theorem qr_Rc {A A' : Nat → Nat → Int32} {M : Nat → Int32} (h : qr_R A M) (e : qr_e A A') : qr_R A' M := by
  obtain ⟨hV, ⟨b0, b1, b2, b3⟩, ⟨w, w1, w2, w3⟩, b5, b6, b7, b8, b9⟩ := h
  have h8 := qv_n8 hV
  have h10 := qv_t10 hV
  refine ⟨hV, ⟨?_, ?_, ?_, ?_⟩, ⟨w, w1, ?_, w3⟩, fun i hi => ⟨?_, ?_⟩, fun i j hi hj => ?_, fun i hi => ⟨?_, ?_, ?_, ?_, ?_⟩, fun k hk hs => ⟨?_, ?_⟩, fun k hk => ?_⟩
  · rw [e 0 0 (by decide) (by decide)]; exact b0
  · rw [e 0 1 (by decide) (by decide)]; exact b1
  · rw [e 0 2 (by decide) (by decide)]; exact b2
  · rw [e 0 3 (by decide) (by decide)]; exact b3
  · rw [e 0 4 (by decide) (by decide)]; exact w2
  · rw [e 1 i (by decide) (show i < 8 by omega)]; exact (b5 i hi).1
  · rw [e 2 i (by decide) (show i < 8 by omega)]; exact (b5 i hi).2
  · rw [e 3 (i * 8 + j) (by decide) (show i * 8 + j < 64 by omega)]; exact b6 i j hi hj
  · rw [e 4 i (by decide) (show i < 10 by omega)]; exact (b7 i hi).1
  · rw [e 5 i (by decide) (show i < 10 by omega)]; exact (b7 i hi).2.1
  · rw [e 6 i (by decide) (show i < 10 by omega)]; exact (b7 i hi).2.2.1
  · rw [e 7 i (by decide) (show i < 10 by omega)]; exact (b7 i hi).2.2.2.1
  · rw [e 8 i (by decide) (show i < 10 by omega)]; exact (b7 i hi).2.2.2.2
  · rw [e 9 k (by decide) (show k < 20 by omega)]; exact (b8 k hk hs).1
  · rw [e 10 k (by decide) (show k < 20 by omega)]; exact (b8 k hk hs).2
  · rw [e 11 k (by decide) (show k < 20 by omega)]; exact b9 k hk
theorem qy_e (σ : gS) {b b2 : Nat} (h : b + 12 ≤ b2 ∨ b2 + 12 ≤ b) : qr_e (qr_b σ b2) (qr_b (qy σ b b2) b) := by
  intro r j hr hj
  unfold qr_b
  rw [if_pos hr, if_pos hr]
  unfold qy
  rcases (show r = 0 ∨ r = 1 ∨ r = 2 ∨ r = 3 ∨ r = 4 ∨ r = 5 ∨ r = 6 ∨ r = 7 ∨ r = 8 ∨ r = 9 ∨ r = 10 ∨ r = 11 by omega) with rfl | rfl | rfl | rfl | rfl | rfl | rfl | rfl | rfl | rfl | rfl | rfl
  · rw [qy1_o _ (by omega), qy1_o _ (by omega), qy1_o _ (by omega), qy1_o _ (by omega), qy1_o _ (by omega), qy1_o _ (by omega), qy1_o _ (by omega), qy1_o _ (by omega), qy1_o _ (by omega), qy1_o _ (by omega), qy1_o _ (by omega)]
    exact qy0_r σ (by omega) hj
  · rw [qy1_o _ (by omega), qy1_o _ (by omega), qy1_o _ (by omega), qy1_o _ (by omega), qy1_o _ (by omega), qy1_o _ (by omega), qy1_o _ (by omega), qy1_o _ (by omega), qy1_o _ (by omega), qy1_o _ (by omega), qy1_r _ hj, qy0_o _ (by omega)]
  · rw [qy1_o _ (by omega), qy1_o _ (by omega), qy1_o _ (by omega), qy1_o _ (by omega), qy1_o _ (by omega), qy1_o _ (by omega), qy1_o _ (by omega), qy1_o _ (by omega), qy1_o _ (by omega), qy1_r _ hj, qy1_o _ (by omega), qy0_o _ (by omega)]
  · rw [qy1_o _ (by omega), qy1_o _ (by omega), qy1_o _ (by omega), qy1_o _ (by omega), qy1_o _ (by omega), qy1_o _ (by omega), qy1_o _ (by omega), qy1_o _ (by omega), qy1_r _ hj, qy1_o _ (by omega), qy1_o _ (by omega), qy0_o _ (by omega)]
  · rw [qy1_o _ (by omega), qy1_o _ (by omega), qy1_o _ (by omega), qy1_o _ (by omega), qy1_o _ (by omega), qy1_o _ (by omega), qy1_o _ (by omega), qy1_r _ hj, qy1_o _ (by omega), qy1_o _ (by omega), qy1_o _ (by omega), qy0_o _ (by omega)]
  · rw [qy1_o _ (by omega), qy1_o _ (by omega), qy1_o _ (by omega), qy1_o _ (by omega), qy1_o _ (by omega), qy1_o _ (by omega), qy1_r _ hj, qy1_o _ (by omega), qy1_o _ (by omega), qy1_o _ (by omega), qy1_o _ (by omega), qy0_o _ (by omega)]
  · rw [qy1_o _ (by omega), qy1_o _ (by omega), qy1_o _ (by omega), qy1_o _ (by omega), qy1_o _ (by omega), qy1_r _ hj, qy1_o _ (by omega), qy1_o _ (by omega), qy1_o _ (by omega), qy1_o _ (by omega), qy1_o _ (by omega), qy0_o _ (by omega)]
  · rw [qy1_o _ (by omega), qy1_o _ (by omega), qy1_o _ (by omega), qy1_o _ (by omega), qy1_r _ hj, qy1_o _ (by omega), qy1_o _ (by omega), qy1_o _ (by omega), qy1_o _ (by omega), qy1_o _ (by omega), qy1_o _ (by omega), qy0_o _ (by omega)]
  · rw [qy1_o _ (by omega), qy1_o _ (by omega), qy1_o _ (by omega), qy1_r _ hj, qy1_o _ (by omega), qy1_o _ (by omega), qy1_o _ (by omega), qy1_o _ (by omega), qy1_o _ (by omega), qy1_o _ (by omega), qy1_o _ (by omega), qy0_o _ (by omega)]
  · rw [qy1_o _ (by omega), qy1_o _ (by omega), qy1_r _ hj, qy1_o _ (by omega), qy1_o _ (by omega), qy1_o _ (by omega), qy1_o _ (by omega), qy1_o _ (by omega), qy1_o _ (by omega), qy1_o _ (by omega), qy1_o _ (by omega), qy0_o _ (by omega)]
  · rw [qy1_o _ (by omega), qy1_r _ hj, qy1_o _ (by omega), qy1_o _ (by omega), qy1_o _ (by omega), qy1_o _ (by omega), qy1_o _ (by omega), qy1_o _ (by omega), qy1_o _ (by omega), qy1_o _ (by omega), qy1_o _ (by omega), qy0_o _ (by omega)]
  · rw [qy1_r _ hj, qy1_o _ (by omega), qy1_o _ (by omega), qy1_o _ (by omega), qy1_o _ (by omega), qy1_o _ (by omega), qy1_o _ (by omega), qy1_o _ (by omega), qy1_o _ (by omega), qy1_o _ (by omega), qy1_o _ (by omega), qy0_o _ (by omega)]
theorem qy_R {σ : gS} {b b2 : Nat} {M : Nat → Int32} (h : b + 12 ≤ b2 ∨ b2 + 12 ≤ b) (hR : qr_R (qr_b σ b2) M) : qr_R (qr_b (qy σ b b2) b) M := qr_Rc hR (qy_e σ h)
/-! a change is remembered -/
def qps (ms : Nat → Nat → Int32) (c : Nat) (M : Nat → Int32) : Nat → Nat → Int32 := fun i => if c < 6 then (if i = c then M else ms i) else (if i = 5 then M else ms (i + 1))
def qpc (c : Nat) : Nat := if c < 6 then c + 1 else 6
theorem qk_r6 {a : Nat} (h : a < 100) : nI a - nI a / (6 : Int32) * (6 : Int32) = nI (a % 6) := pk_rem (a := a) (d := 6) (by omega) (by decide) (by decide)
theorem qc_remember {σ : gS} {ms : Nat → Nat → Int32} {c : Nat} {M : Nat → Int32} (hC : qh_C σ ms c) (hR : qr_R (qr_b σ 24) M) : ∃ σ1, X4_remember σ 24 = some σ1 ∧ (∀ a, a ≠ 2 → (a < 60 ∨ 132 ≤ a) → σ1 a = σ a) ∧ qh_C σ1 (qps ms c M) (qpc c) := by
  obtain ⟨a1, f, a2, a3, a4, a5⟩ := hC
  have hm : (f + c) % 6 < 6 := Nat.mod_lt _ (by decide)
  unfold X4_remember
  rw [a3, a4, nI_add, qk_r6 (by omega), qg_i hm (by decide), qk_c (by omega), qy_eq, qs]
  have hRy := qy_R (σ := σ) (b := 60 + 12 * ((f + c) % 6)) (b2 := 24) (by omega) hR
  have o2 : qy σ (60 + 12 * ((f + c) % 6)) 24 2 = σ 2 := qy_o σ (by omega)
  rw [o2, a3, a4]
  by_cases h6 : c < 6
  · rw [if_neg (show ¬ (6 : Int32) ≤ nI c from nI_ge (b := 6) h6 (by decide)), ql, qk_s]
    refine ⟨_, rfl, fun a p q => ?_, ?_⟩
    · rw [qu_a _ _ p, qy_o σ (by omega)]
    · unfold qpc
      rw [if_pos h6]
      refine ⟨by omega, f, a2, ?_, ?_, fun i hi => ?_⟩
      · rw [qu_j _ _ (by decide), o2]; exact a3
      · rw [qu_at]
      · have hmi : (f + i) % 6 < 6 := Nat.mod_lt _ (by decide)
        rw [qr_bc (σ := qy σ (60 + 12 * ((f + c) % 6)) 24) (fun a p q => qu_a _ _ (by omega))]
        unfold qps
        rw [if_pos h6]
        by_cases e : i = c
        · rw [if_pos e, e]; exact hRy
        · rw [if_neg e, qr_bc (σ := σ) (fun a p q => qy_o σ (by omega))]
          exact a5 i (by omega)
  · have e6 : c = 6 := by omega
    subst e6
    rw [if_pos (show (6 : Int32) ≤ nI 6 from nI_le (a := 6) (b := 6) (by omega) (by decide)), ql, qk_s, qk_r6 (by omega)]
    refine ⟨_, rfl, fun a p q => ?_, ?_⟩
    · rw [qu_a _ _ p, qy_o σ (by omega)]
    · unfold qpc
      rw [if_neg h6]
      refine ⟨by omega, (f + 1) % 6, Nat.mod_lt _ (by decide), ?_, ?_, fun i hi => ?_⟩
      · rw [qu_at]
      · rw [qu_j _ _ (by decide), o2]; exact a4
      · have hmi : ((f + 1) % 6 + i) % 6 < 6 := Nat.mod_lt _ (by decide)
        rw [qr_bc (σ := qy σ (60 + 12 * ((f + 6) % 6)) 24) (fun a p q => qu_a _ _ (by omega))]
        unfold qps
        rw [if_neg h6]
        by_cases e : i = 5
        · subst e
          rw [if_pos rfl, show ((f + 1) % 6 + 5) % 6 = (f + 6) % 6 by omega]; exact hRy
        · rw [if_neg e, qr_bc (σ := σ) (fun a p q => qy_o σ (by omega)), show ((f + 1) % 6 + i) % 6 = (f + (i + 1)) % 6 by omega]
          exact a5 (i + 1) (by omega)
/-- the second program keeps the state -/
def qks (σ : gS) : gS := g_row σ 135 (va_cpy (σ 133) (σ 135) (0 : Int32).toNatClampNeg (0 : Int32).toNatClampNeg (162 : Int32).toNatClampNeg)
theorem qks_eq (σ : gS) : X7_keepState σ = some (qks σ) := rfl
theorem qks_a (σ : gS) {a : Nat} (h : a ≠ 135) : qks σ a = σ a := qw_a σ _ h
theorem qcpy0 (f g : Nat → Int32) {j : Nat} (h : j < 162) : va_cpy f g (0 : Int32).toNatClampNeg (0 : Int32).toNatClampNeg (162 : Int32).toNatClampNeg j = f j := by
  unfold va_cpy
  rw [qk_z0, if_pos ⟨Nat.zero_le _, by show j < 0 + 162; omega⟩]
  congr 1
  omega
theorem qcpy_cut (f g : Nat → Int32) : qcut (va_cpy f g (0 : Int32).toNatClampNeg (0 : Int32).toNatClampNeg (162 : Int32).toNatClampNeg) = qcut f := qcut_eq (fun j h => qcpy0 f g h)
theorem qcpy_z {f g : Nat → Int32} (hg : qcut g = g) : va_cpy f g (0 : Int32).toNatClampNeg (0 : Int32).toNatClampNeg (162 : Int32).toNatClampNeg = qcut f := by
  funext j
  by_cases h : j < 162
  · rw [qcpy0 f g h, qcut_in h]
  · unfold va_cpy
    rw [qk_z0, if_neg (fun q => h (by have : j < 0 + 162 := q.2; omega)), ← hg]
    unfold qcut
    rw [if_neg h, if_neg h]
theorem qks_cut (σ : gS) : qcut (qks σ 135) = qcut (σ 133) := by
  unfold qks
  rw [qw_at]
  exact qcpy_cut _ _
theorem qd_change {σ : gS} {ms : Nat → Nat → Int32} {c : Nat} (hc : c ≤ 6) (hM : qh_M σ ms c) : ∃ σ1, X7_change σ = some σ1 ∧ (∀ a, a ≠ 132 → a ≠ 137 → σ1 a = σ a) ∧ (∀ j, j ≠ 6 → σ1 132 j = σ 132 j) ∧ qh_M σ1 (qps ms c (qcut (σ 135))) (qpc c) := by
  obtain ⟨a1, a2⟩ := hM
  have e162 : (162 : Int32).toNatClampNeg = 162 := rfl
  have e810 : (810 : Int32).toNatClampNeg = 810 := rfl
  have gg : ∀ {x : Option gS} {d : Nat}, d < 6 → gd (decide (0 ≤ (0 : Int32).toInt ∧ 0 ≤ ((162 : Int32) * nI d : Int32).toInt ∧ 0 ≤ (162 : Int32).toInt ∧ (0 : Int32).toNatClampNeg + (162 : Int32).toNatClampNeg ≤ 162 ∧ ((162 : Int32) * nI d : Int32).toNatClampNeg + (162 : Int32).toNatClampNeg ≤ 972)) x = x := by
    intro x d hd
    refine qg (decide_eq_true ?_) x
    rw [show (162 : Int32) * nI d = nI (162 * d) from pk_mul 162 d, nI_toInt (by omega), nI_clamp (by omega), e162]
    exact ⟨by decide, by omega, by decide, by decide, by omega⟩
  unfold X7_change
  rw [a1]
  by_cases h6 : c < 6
  · rw [if_neg (fun q => by have := (qk_eq (a := c) (b := 6) (by omega) (by decide)).mp q; omega), gg h6, ql, ql]
    refine ⟨_, rfl, fun a p q => ?_, fun j p => ?_, ?_⟩
    · rw [qu_a _ _ p, qw_a _ _ q]
    · rw [qu_j _ _ p, qw_a _ _ (by decide)]
    · unfold qpc
      rw [if_pos h6]
      refine ⟨?_, fun i hi => ?_⟩
      · rw [qu_at, qw_a _ _ (by decide), a1, qk_s]
      · rw [qu_a _ _ (by decide), qw_at, show (162 : Int32) * nI c = nI (162 * c) from pk_mul 162 c, nI_clamp (by omega), e162, qk_z0]
        unfold qps
        rw [if_pos h6]
        by_cases e : i = c
        · rw [if_pos e]
          refine qcut_eq (fun j hj => ?_)
          unfold va_cpy
          rw [if_pos ⟨by subst e; omega, by subst e; omega⟩]
          congr 1
          subst e; omega
        · rw [if_neg e, ← a2 i (by omega)]
          refine qcut_eq (fun j hj => ?_)
          unfold va_cpy
          rw [if_neg (fun q => by omega)]
  · have e6 : c = 6 := by omega
    subst e6
    rw [if_pos (show nI 6 = 6 from rfl), ql, ql]
    have e5 : (g_row σ 137 (va_cpy (σ 137) (σ 137) (162 : Int32).toNatClampNeg (0 : Int32).toNatClampNeg (810 : Int32).toNatClampNeg)) 132 6 - (1 : Int32) = nI 5 := by
      rw [qw_a _ _ (by decide), a1]; rfl
    rw [e5, qu_at, gg (d := 5) (by decide), ql, ql]
    refine ⟨_, rfl, fun a p q => ?_, fun j p => ?_, ?_⟩
    · rw [qu_a _ _ p, qw_a _ _ q, qu_a _ _ p, qw_a _ _ q]
    · rw [qu_j _ _ p, qw_a _ _ (by decide), qu_j _ _ p, qw_a _ _ (by decide)]
    · unfold qpc
      rw [if_neg h6]
      refine ⟨?_, fun i hi => ?_⟩
      · rw [qu_at, qw_a _ _ (by decide), qu_at]; rfl
      · rw [qu_a _ _ (by decide), qw_at, qu_a _ _ (by decide), qw_a _ _ (by decide), qu_a _ _ (by decide), qw_at, show ((162 : Int32) * nI 5).toNatClampNeg = 810 from rfl, e162, e810, qk_z0]
        unfold qps
        rw [if_neg h6]
        by_cases e : i = 5
        · rw [if_pos e]
          refine qcut_eq (fun j hj => ?_)
          unfold va_cpy
          rw [if_pos ⟨by subst e; omega, by subst e; omega⟩]
          subst e
          exact congrArg (σ 135) (by omega)
        · rw [if_neg e, ← a2 (i + 1) (by omega)]
          refine qcut_eq (fun j hj => ?_)
          unfold va_cpy
          rw [if_neg (fun q => by omega), if_pos ⟨by omega, by omega⟩]
          congr 1
          omega
theorem qd_changes {σ : gS} {ms : Nat → Nat → Int32} {c : Nat} (hc : c ≤ 6) (hM : qh_M σ ms c) (h1 : qcut (σ 133) = σ 133) : ∃ σ1, X7_changes σ = some σ1 ∧ (∀ a, a ≠ 132 → a ≠ 135 → a ≠ 137 → σ1 a = σ a) ∧ (∀ j, j ≠ 6 → σ1 132 j = σ 132 j) ∧ qh_M σ1 (qps ms c (σ 133)) (qpc c) := by
  have hM2 : qh_M (qks σ) ms c := qh_Mc hM (by rw [qks_a σ (by decide)]) (qks_a σ (by decide))
  obtain ⟨σ1, b1, b2, b3, b4⟩ := qd_change hc hM2
  refine ⟨σ1, ?_, fun a p q r => ?_, fun j p => ?_, ?_⟩
  · unfold X7_changes
    rw [qks_eq, qs, b1, qs]
  · rw [b2 a p r, qks_a σ q]
  · rw [b3 j p, qks_a σ (by decide)]
  · rw [qks_cut, h1] at b4
    exact b4
/-- a call that changes: what each side does, put together -/
theorem qi_mut {σ σ1 σ2 : gS} {ms ms' : Nat → Nat → Int32} {c' : Nat} (h : qi σ) (c1 : ∀ a, a ≠ 2 → (a < 24 ∨ (48 ≤ a ∧ a < 60) ∨ 132 ≤ a) → σ1 a = σ a) (c2 : qh_C σ1 ms' c') (c3 : qr_R (qr_b σ1 24) (σ2 133)) (c4 : qcut (σ2 133) = σ2 133)
    (d1 : ∀ a, (a < 132 ∨ a = 136 ∨ a = 140) → σ2 a = σ1 a) (d2 : ∀ j, j ≠ 6 → j ≠ 8 → σ2 132 j = σ1 132 j) (d3 : qh_M σ2 ms' c') : qi σ2 := by
  obtain ⟨a1, a2, a3, a4, a5⟩ := h
  refine ⟨⟨?_, c4⟩, ⟨ms', c', qh_Cc c2 (fun a p q => d1 a (by omega)) (d1 2 (by omega)), d3⟩, ?_, ?_, ?_⟩
  · rw [qr_bc (σ := σ1) (fun a p q => d1 a (by omega))]; exact c3
  · refine qi_3c a3 ?_ ?_ (fun a p q => ?_) ?_
    · rw [d1 0 (by omega), c1 0 (by decide) (by omega)]
    · rw [d2 4 (by decide) (by decide), c1 132 (by decide) (by omega)]
    · rw [d1 a (by omega), c1 a (by omega) (by omega)]
    · rw [d1 136 (by omega), c1 136 (by decide) (by omega)]
  · refine qi_4c a4 ?_ ?_ ?_ ?_
    · rw [d1 0 (by omega), c1 0 (by decide) (by omega)]
    · rw [d2 7 (by decide) (by decide), c1 132 (by decide) (by omega)]
    · rw [d1 0 (by omega), c1 0 (by decide) (by omega)]
    · rw [d2 15 (by decide) (by decide), c1 132 (by decide) (by omega)]
  · refine qi_5c a5 ?_ ?_ ?_ ?_
    · rw [d1 4 (by omega), c1 4 (by decide) (by omega)]
    · rw [d2 12 (by decide) (by decide), c1 132 (by decide) (by omega)]
    · rw [d1 5 (by omega), c1 5 (by decide) (by omega)]
    · rw [d1 140 (by omega), c1 140 (by decide) (by omega)]
