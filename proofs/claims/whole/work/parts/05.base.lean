/-! ===== the world of the claim: cells by numbers (ids); g_sh: what stands at an id; a state is (id, place) ↦ int ===== -/
abbrev gS : Type := Nat → Nat → Int32
def g_up (σ : gS) (i j : Nat) (v : Int32) : gS := fun a b => if a = i ∧ b = j then v else σ a b
/-- a whole row is put -/
def g_row (σ : gS) (i : Nat) (f : Nat → Int32) : gS := fun a => if a = i then f else σ a
def g_fv (ad : Nat → Nat) (f : Nat → Int32) : Nat → List (Option Nat) → List Value
  | _, [] => []
  | j, none :: t => .int (f j) :: g_fv ad f (j + 1) t
  | j, some r :: t => .ref (ad r) :: g_fv ad f (j + 1) t
def g_af (b : Nat) : List (Option Nat) := [none, none, none, none, none, some (b + 1), some (b + 2), some (b + 3), some (b + 4), some (b + 5), some (b + 6), some (b + 7), some (b + 8), some (b + 9), some (b + 10), some (b + 11)]
def g_al : Nat → Nat
  | 1 => 8 | 2 => 8 | 3 => 64 | 4 => 10 | 5 => 10 | 6 => 10 | 7 => 10 | 8 => 10 | _ => 20
def g_cf (b : Nat) : List (Option Nat) := [some (b + 1), some (b + 2), some (b + 3), some (b + 4), none, none, none]
/-- what stands at the ids that are no airport's -/
def g_s1 : Nat → (Nat × List (Option Nat)) ⊕ (Nat × Nat)
  | 0 => .inl (8, [some 24, some 36, some 48, some 2, some 4, some 7, some 11, some 1, none, none, none])
  | 1 => .inr (0, 1441)
  | 2 => .inl (6, [some 3, none, none])
  | 3 => .inr (2, 6)
  | 4 => .inl (7, [some 5, some 6, none, none, none, none])
  | 5 => .inr (1, 60)
  | 6 => .inr (0, 3)
  | 7 => .inl (5, [some 14, some 8, some 9, some 10, none])
  | 8 => .inr (0, 3)
  | 9 => .inr (0, 3)
  | 10 => .inr (0, 3)
  | 11 => .inl (4, [some 19, some 12, some 13, none])
  | 12 => .inr (0, 3)
  | 13 => .inr (0, 3)
  | 14 => .inl (3, g_cf 14)
  | 15 => .inr (0, 160)
  | 16 => .inr (0, 20)
  | 17 => .inr (0, 20)
  | 18 => .inr (0, 20)
  | 19 => .inl (3, g_cf 19)
  | 20 => .inr (0, 160)
  | 21 => .inr (0, 20)
  | 22 => .inr (0, 20)
  | 23 => .inr (0, 20)
  | 132 => .inl (9, [some 133, some 134, some 135, some 136, none, some 137, none, none, none, some 138, some 139, some 140, none, none, none, none, some 141, some 142, none])
  | 133 => .inr (0, 162)
  | 134 => .inr (0, 162)
  | 135 => .inr (0, 162)
  | 136 => .inr (0, 162)
  | 137 => .inr (0, 972)
  | 138 => .inr (0, 3)
  | 139 => .inr (0, 3)
  | 140 => .inr (1, 60)
  | 141 => .inr (1, 60)
  | _ => .inr (0, 180)
def g_sh (i : Nat) : (Nat × List (Option Nat)) ⊕ (Nat × Nat) :=
  if 24 ≤ i ∧ i < 132 then (if i % 12 = 0 then .inl (2, g_af i) else .inr (0, g_al (i % 12))) else g_s1 i
def g_air (b : Nat) : Prop := 24 ≤ b ∧ b < 132 ∧ b % 12 = 0
def g_cla (b : Nat) : Prop := b = 14 ∨ b = 19
theorem g_sh_air {b : Nat} (h : g_air b) : g_sh b = .inl (2, g_af b) := by
  unfold g_sh; rw [if_pos ⟨h.1, h.2.1⟩, if_pos h.2.2]
theorem g_sh_arr {b j : Nat} (h : g_air b) (h1 : 1 ≤ j) (h2 : j ≤ 11) : g_sh (b + j) = .inr (0, g_al j) := by
  obtain ⟨a1, a2, a3⟩ := h
  have e : (b + j) % 12 = j := by omega
  unfold g_sh; rw [if_pos ⟨by omega, by omega⟩, if_neg (by omega), e]
theorem g_sh_cla {b : Nat} (h : g_cla b) : g_sh b = .inl (3, g_cf b) := by
  rcases h with rfl | rfl <;> rfl
theorem g_lt_air {b : Nat} (h : g_air b) : b < 143 := by obtain ⟨a1, a2, a3⟩ := h; omega
theorem g_lt_arr {b j : Nat} (h : g_air b) (h2 : j ≤ 11) : b + j < 143 := by obtain ⟨a1, a2, a3⟩ := h; omega
theorem g_lt_cla {b j : Nat} (h : g_cla b) (h2 : j ≤ 4) : b + j < 143 := by rcases h with rfl | rfl <;> omega
def g_ce (y : ClassId × ClassId × ClassId) (ad : Nat → Nat) (σ : gS) (i : Nat) : va_E := match g_sh i with
  | .inl (ci, fl) => .inr (ci, g_fv ad (σ i) 0 fl)
  | .inr (k, n) => if k = 2 then .inl (y.2.2, n, .inr (.inr (.inr (.inr (fun j => some (ad (60 + 12 * j))))))) else .inl (if k = 1 then y.2.1 else y.1, n, .inl (σ i))
def g_wl (y : ClassId × ClassId × ClassId) (ad : Nat → Nat) (σ : gS) : va_W := (List.range 143).map (fun i => (ad i, g_ce y ad σ i))
abbrev g_ty (y : ClassId × ClassId × ClassId) : List (ClassId × FieldType) := [(y.1, .int), (y.2.1, .char), (y.2.2, .object "StandAssigner$Airport")]
def g_A (ad : Nat → Nat) (sz : Nat) : Nat → Prop := fun q => (∃ i, i < 143 ∧ q = ad i) ∨ sz ≤ q
theorem g_wl_len (y : ClassId × ClassId × ClassId) (ad : Nat → Nat) (σ : gS) : (g_wl y ad σ).length = 143 := by simp [g_wl]
theorem g_wl_get (y : ClassId × ClassId × ClassId) (ad : Nat → Nat) (σ : gS) (X : va_W) {i : Nat} (h : i < 143) : (g_wl y ad σ ++ X)[i]? = some (ad i, g_ce y ad σ i) := by
  rw [List.getElem?_append_left (by rw [g_wl_len]; exact h)]
  simp [g_wl, h]
theorem g_wl_inv {y : ClassId × ClassId × ClassId} {ad : Nat → Nat} {σ : gS} {k : Nat} {q : Nat × va_E} (h : (g_wl y ad σ)[k]? = some q) : k < 143 ∧ q = (ad k, g_ce y ad σ k) := by
  have hl := (List.getElem?_eq_some_iff.mp h).1
  rw [g_wl_len] at hl
  have h2 := g_wl_get y ad σ [] hl
  rw [List.append_nil, h] at h2
  exact ⟨hl, Option.some.inj h2⟩
theorem g_wl_set {y : ClassId × ClassId × ClassId} {ad : Nat → Nat} {σ σ' : gS} {X : va_W} {i : Nat} {e : va_E} (h : i < 143) (he : e = g_ce y ad σ' i) (ho : ∀ j, j ≠ i → σ' j = σ j) : (g_wl y ad σ ++ X).set i (ad i, e) = g_wl y ad σ' ++ X := by
  apply List.ext_getElem?
  intro k
  by_cases hk : k = i
  · subst hk
    rw [List.getElem?_set_self (by rw [List.length_append, g_wl_len]; omega), g_wl_get y ad σ' X h, he]
  · rw [List.getElem?_set_ne (Ne.symm hk)]
    by_cases hk2 : k < 143
    · rw [g_wl_get y ad σ X hk2, g_wl_get y ad σ' X hk2]
      have : g_ce y ad σ k = g_ce y ad σ' k := by unfold g_ce; rw [ho k hk]
      rw [this]
    · rw [List.getElem?_append_right (by rw [g_wl_len]; omega), List.getElem?_append_right (by rw [g_wl_len]; omega), g_wl_len, g_wl_len]
theorem g_fv_get (ad : Nat → Nat) (f : Nat → Int32) : ∀ (l : List (Option Nat)) (b k : Nat), (g_fv ad f b l)[k]? = (l[k]?).map (fun o => match o with | none => Value.int (f (b + k)) | some r => Value.ref (ad r))
  | [], b, k => by simp [g_fv]
  | none :: t, b, 0 => by simp [g_fv]
  | some r :: t, b, 0 => by simp [g_fv]
  | none :: t, b, k + 1 => by
    rw [g_fv, List.getElem?_cons_succ, List.getElem?_cons_succ, g_fv_get ad f t (b + 1) k]
    rw [show b + 1 + k = b + (k + 1) by omega]
  | some r :: t, b, k + 1 => by
    rw [g_fv, List.getElem?_cons_succ, List.getElem?_cons_succ, g_fv_get ad f t (b + 1) k]
    rw [show b + 1 + k = b + (k + 1) by omega]
theorem g_fv_len (ad : Nat → Nat) (f : Nat → Int32) : ∀ (l : List (Option Nat)) (b : Nat), (g_fv ad f b l).length = l.length
  | [], b => rfl
  | none :: t, b => by rw [g_fv, List.length_cons, List.length_cons, g_fv_len ad f t]
  | some r :: t, b => by rw [g_fv, List.length_cons, List.length_cons, g_fv_len ad f t]
theorem g_fv_cong (ad : Nat → Nat) (f g : Nat → Int32) : ∀ (l : List (Option Nat)) (b : Nat), (∀ j, b ≤ j → f j = g j) → g_fv ad f b l = g_fv ad g b l
  | [], b, h => rfl
  | none :: t, b, h => by rw [g_fv, g_fv, h b (Nat.le_refl b), g_fv_cong ad f g t (b + 1) (fun j hj => h j (by omega))]
  | some r :: t, b, h => by rw [g_fv, g_fv, g_fv_cong ad f g t (b + 1) (fun j hj => h j (by omega))]
theorem g_fv_set (ad : Nat → Nat) (f : Nat → Int32) (v : Int32) : ∀ (l : List (Option Nat)) (b k : Nat), l[k]? = some none → (g_fv ad f b l).set k (.int v) = g_fv ad (fun j => if j = b + k then v else f j) b l
  | [], b, k, h => by simp at h
  | none :: t, b, 0, h => by
    rw [g_fv, g_fv, List.set_cons_zero]
    have e : (if b = b + 0 then v else f b) = v := by simp
    rw [e]
    exact congrArg (List.cons _) (g_fv_cong ad _ _ t (b + 1) (fun j hj => by rw [if_neg (by omega)]))
  | some r :: t, b, 0, h => by simp at h
  | none :: t, b, k + 1, h => by
    rw [List.getElem?_cons_succ] at h
    rw [g_fv, g_fv, List.set_cons_succ, g_fv_set ad f v t (b + 1) k h, if_neg (by omega)]
    rw [show b + 1 + k = b + (k + 1) by omega]
  | some r :: t, b, k + 1, h => by
    rw [List.getElem?_cons_succ] at h
    rw [g_fv, g_fv, List.set_cons_succ, g_fv_set ad f v t (b + 1) k h]
    rw [show b + 1 + k = b + (k + 1) by omega]
theorem g_ce_obj {y : ClassId × ClassId × ClassId} {ad : Nat → Nat} {σ : gS} {i ci : Nat} {fl : List (Option Nat)} (h : g_sh i = .inl (ci, fl)) : g_ce y ad σ i = .inr (ci, g_fv ad (σ i) 0 fl) := by
  unfold g_ce; rw [h]
theorem g_ce_int {y : ClassId × ClassId × ClassId} {ad : Nat → Nat} {σ : gS} {i n : Nat} (h : g_sh i = .inr (0, n)) : g_ce y ad σ i = .inl (y.1, n, .inl (σ i)) := by
  unfold g_ce; rw [h]; rfl
theorem g_ce_chr {y : ClassId × ClassId × ClassId} {ad : Nat → Nat} {σ : gS} {i n : Nat} (h : g_sh i = .inr (1, n)) : g_ce y ad σ i = .inl (y.2.1, n, .inl (σ i)) := by
  unfold g_ce; rw [h]; rfl
theorem g_ce_ref {y : ClassId × ClassId × ClassId} {ad : Nat → Nat} {σ : gS} {i n : Nat} (h : g_sh i = .inr (2, n)) : g_ce y ad σ i = .inl (y.2.2, n, .inr (.inr (.inr (.inr (fun j => some (ad (60 + 12 * j))))))) := by
  unfold g_ce; rw [h]; rfl
theorem g_up_ne {σ : gS} {i j : Nat} {v : Int32} {a : Nat} (h : a ≠ i) : g_up σ i j v a = σ a := by
  funext b; unfold g_up; rw [if_neg (fun q => h q.1)]
theorem g_up_eq {σ : gS} {i j : Nat} {v : Int32} : g_up σ i j v i = fun b => if b = j then v else σ i b := by
  funext b; unfold g_up; simp
/-- a place in range -/
def ib (j : Int32) (n : Nat) : Bool := decide (0 ≤ j.toInt ∧ j.toInt < n)
theorem ib_in {j : Int32} {n : Nat} (h : ib j n = true) : vp_in j n := vp_in_iff.mpr (of_decide_eq_true h)
/-- a fact that the machine's step needs -/
def gd {α : Type} (c : Bool) (x : Option α) : Option α := if c = true then x else none
theorem gd_some {α : Type} {c : Bool} {x : Option α} {o : α} (h : gd c x = some o) : c = true ∧ x = some o := by
  unfold gd at h
  by_cases hc : c = true
  · rw [if_pos hc] at h; exact ⟨hc, h⟩
  · rw [if_neg hc] at h; cases h
theorem gb_some {α β : Type} {x : Option α} {f : α → Option β} {o : β} (h : x.bind f = some o) : ∃ r, x = some r ∧ f r = some o := by
  cases x with
  | none => cases h
  | some r => exact ⟨r, rfl, h⟩
theorem gif_p {α : Type} {c : Prop} [Decidable c] {x y : α} {o : α} (h : (if c then x else y) = o) (hc : c) : x = o := by rw [if_pos hc] at h; exact h
theorem gif_n {α : Type} {c : Prop} [Decidable c] {x y : α} {o : α} (h : (if c then x else y) = o) (hc : ¬ c) : y = o := by rw [if_neg hc] at h; exact h
/-- a boolean, a char -/
def bz (v : Int32) : Bool := decide (v = 0 ∨ v = 1)
def cz (v : Int32) : Bool := decide (0 ≤ v.toInt ∧ v.toInt < 65536)
/-! loops: a step gives the next point, or the answer -/
def gi {α β : Type} (step : α → Option (α ⊕ β)) : Nat → α → Option β
  | 0, _ => none
  | n + 1, a => match step a with
    | none => none
    | some (.inl a') => gi step n a'
    | some (.inr b) => some b
noncomputable def gr {α β : Type} (step : α → Option (α ⊕ β)) (a : α) : Option β := by
  classical exact if h : ∃ n b, gi step n a = some b then some (Classical.choose (Classical.choose_spec h)) else none
theorem gi_mono {α β : Type} {step : α → Option (α ⊕ β)} {b : β} : ∀ (n : Nat) (a : α), gi step n a = some b → ∀ k, gi step (n + k) a = some b
  | 0, a, h, k => by cases h
  | n + 1, a, h, k => by
    rw [show n + 1 + k = (n + k) + 1 by omega]
    unfold gi at h ⊢
    split at h
    · cases h
    · rename_i a' e
      exact gi_mono n a' h k
    · exact h
theorem gr_of {α β : Type} {step : α → Option (α ⊕ β)} {a : α} {n : Nat} {b : β} (h : gi step n a = some b) : gr step a = some b := by
  classical
  have hx : ∃ n b, gi step n a = some b := ⟨n, b, h⟩
  have h1 : gr step a = some (Classical.choose (Classical.choose_spec hx)) := by unfold gr; rw [dif_pos hx]
  have h2 := Classical.choose_spec (Classical.choose_spec hx)
  have h3 := gi_mono _ _ h2 n
  have h4 := gi_mono _ _ h (Classical.choose hx)
  rw [Nat.add_comm] at h4
  rw [h1]
  exact h3.symm.trans h4
theorem gr_to {α β : Type} {step : α → Option (α ⊕ β)} {a : α} {b : β} (h : gr step a = some b) : ∃ n, gi step n a = some b := by
  classical
  by_cases hx : ∃ n b, gi step n a = some b
  · have h1 : gr step a = some (Classical.choose (Classical.choose_spec hx)) := by unfold gr; rw [dif_pos hx]
    have h2 := Classical.choose_spec (Classical.choose_spec hx)
    rw [h1] at h
    rw [Option.some.inj h] at h2
    exact ⟨_, h2⟩
  · have h1 : gr step a = none := by unfold gr; rw [dif_neg hx]
    rw [h1] at h; cases h
/-- the loop's equation -/
theorem gr_eq {α β : Type} (step : α → Option (α ⊕ β)) (a : α) : gr step a = (step a).bind (fun o => match o with | .inl a' => gr step a' | .inr b => some b) := by
  cases hs : step a with
  | none =>
    cases hg : gr step a with
    | none => rfl
    | some b =>
      obtain ⟨n, hn⟩ := gr_to hg
      cases n with
      | zero => cases hn
      | succ n => unfold gi at hn; rw [hs] at hn; cases hn
  | some o =>
    cases o with
    | inr b => exact gr_of (n := 1) (by unfold gi; rw [hs])
    | inl a' =>
      show gr step a = gr step a'
      cases hg : gr step a' with
      | none =>
        cases hg2 : gr step a with
        | none => rfl
        | some b =>
          obtain ⟨n, hn⟩ := gr_to hg2
          cases n with
          | zero => cases hn
          | succ n =>
            unfold gi at hn; rw [hs] at hn
            rw [gr_of hn] at hg; cases hg
      | some b =>
        obtain ⟨n, hn⟩ := gr_to hg
        exact gr_of (n := n + 1) (by unfold gi; rw [hs]; exact hn)
/-- what a loop's walk needs: P at every point from which the loop gives r0 -/
theorem gr_ind {α β : Type} {step : α → Option (α ⊕ β)} {r0 : β} {P : α → Prop}
    (h : ∀ a o, step a = some o → (∀ b, o = .inr b → b = r0) → (∀ a', o = .inl a' → P a') → P a) {a : α} (hr : gr step a = some r0) : P a := by
  obtain ⟨n, hn⟩ := gr_to hr
  clear hr
  induction n generalizing a with
  | zero => cases hn
  | succ n ih =>
    unfold gi at hn
    split at hn
    · cases hn
    · rename_i a' e
      refine h a _ e (fun b hb => by cases hb) (fun a2 h2 => ?_)
      cases h2
      exact ih hn
    · rename_i b' e
      refine h a _ e (fun b hb => ?_) (fun a2 h2 => by cases h2)
      cases hb
      exact Option.some.inj hn
def lt_ {α β : Type} (x : α) (f : α → Option β) : Option β := f x
theorem lt_ex {α β : Type} {x : α} {f : α → Option β} {o : β} (h : lt_ x f = some o) : ∃ z, z = x ∧ f z = some o := ⟨x, rfl, h⟩
theorem g_air24 : g_air 24 := ⟨by decide, by decide, by decide⟩
theorem g_air36 : g_air 36 := ⟨by decide, by decide, by decide⟩
theorem g_air48 : g_air 48 := ⟨by decide, by decide, by decide⟩
theorem g_cla14 : g_cla 14 := Or.inl rfl
theorem g_cla19 : g_cla 19 := Or.inr rfl
theorem g_air_ring {j : Int32} (h : ib j 6 = true) : g_air (60 + 12 * j.toNatClampNeg) := by
  obtain ⟨h1, h2⟩ := of_decide_eq_true h
  have e : j.toNatClampNeg = j.toInt.toNat := rfl
  refine ⟨by omega, by omega, by omega⟩
theorem g_sa1 {b : Nat} (h : g_air b) : g_sh (b + 1) = .inr (0, 8) := g_sh_arr h (by decide) (by decide)
theorem g_sa2 {b : Nat} (h : g_air b) : g_sh (b + 2) = .inr (0, 8) := g_sh_arr h (by decide) (by decide)
theorem g_sa3 {b : Nat} (h : g_air b) : g_sh (b + 3) = .inr (0, 64) := g_sh_arr h (by decide) (by decide)
theorem g_sa4 {b : Nat} (h : g_air b) : g_sh (b + 4) = .inr (0, 10) := g_sh_arr h (by decide) (by decide)
theorem g_sa5 {b : Nat} (h : g_air b) : g_sh (b + 5) = .inr (0, 10) := g_sh_arr h (by decide) (by decide)
theorem g_sa6 {b : Nat} (h : g_air b) : g_sh (b + 6) = .inr (0, 10) := g_sh_arr h (by decide) (by decide)
theorem g_sa7 {b : Nat} (h : g_air b) : g_sh (b + 7) = .inr (0, 10) := g_sh_arr h (by decide) (by decide)
theorem g_sa8 {b : Nat} (h : g_air b) : g_sh (b + 8) = .inr (0, 10) := g_sh_arr h (by decide) (by decide)
theorem g_sa9 {b : Nat} (h : g_air b) : g_sh (b + 9) = .inr (0, 20) := g_sh_arr h (by decide) (by decide)
theorem g_sa10 {b : Nat} (h : g_air b) : g_sh (b + 10) = .inr (0, 20) := g_sh_arr h (by decide) (by decide)
theorem g_sa11 {b : Nat} (h : g_air b) : g_sh (b + 11) = .inr (0, 20) := g_sh_arr h (by decide) (by decide)
theorem g_sc1 {b : Nat} (h : g_cla b) : g_sh (b + 1) = .inr (0, 160) := by rcases h with rfl | rfl <;> rfl
theorem g_sc2 {b : Nat} (h : g_cla b) : g_sh (b + 2) = .inr (0, 20) := by rcases h with rfl | rfl <;> rfl
theorem g_sc3 {b : Nat} (h : g_cla b) : g_sh (b + 3) = .inr (0, 20) := by rcases h with rfl | rfl <;> rfl
theorem g_sc4 {b : Nat} (h : g_cla b) : g_sh (b + 4) = .inr (0, 20) := by rcases h with rfl | rfl <;> rfl
theorem bz_n {v : Int32} (h : bz v = true) : narrow .boolean (.int v) = .int v := by rcases of_decide_eq_true h with rfl | rfl <;> rfl
theorem bz_f {v : Int32} (h : bz v = true) : fits .boolean (.int v) = true := by rcases of_decide_eq_true h with rfl | rfl <;> rfl
/-- the first n places of a row hold v -/
def g_fill (σ : gS) (i n : Nat) (v : Int32) : gS := g_row σ i (fun j => if j < n then v else σ i j)
theorem gr_all {α β : Type} {step : α → Option (α ⊕ β)} {r0 : β} {P : α → Prop}
    (h : ∀ a o, step a = some o → (∀ b, o = .inr b → b = r0) → (∀ a', o = .inl a' → P a') → P a) : ∀ a, gr step a = some r0 → P a := fun _ hr => gr_ind h hr
/-- Java's >>>, and (char) -/
def ju (x y : Int32) : Int32 := (x.toUInt32 >>> (y.toUInt32 &&& Int32.toUInt32 31)).toInt32
def jc (x : Int32) : Int32 := (x.toUInt32 % 65536).toInt32
theorem cz_n {v : Int32} (h : cz v = true) : narrow .char (.int v) = .int v := by
  obtain ⟨h1, h2⟩ := of_decide_eq_true h
  have e : v = nI v.toInt.toNat := by
    rw [← Int32.toInt_inj, nI_toInt (by omega)]; omega
  rw [e]
  exact (pk_charN (by omega)).1
theorem cz_f {v : Int32} (h : cz v = true) : fits .char (.int v) = true := by
  obtain ⟨h1, h2⟩ := of_decide_eq_true h
  have e : v = nI v.toInt.toNat := by
    rw [← Int32.toInt_inj, nI_toInt (by omega)]; omega
  rw [e]
  exact (pk_charN (by omega)).2
