/-! ===== repairs: the second program's search ===== -/
def qz_ix (k : Nat) : Nat := 97 + 7 * (k / 2) + k % 2
/-- N is M with the first moved stays where they go -/
def qz_P (M : Nat → Int32) (l t : List Nat) (N : Nat → Int32) : Prop := (∀ j, (∀ i, i < t.length → j ≠ qz_ix (l.getD i 0)) → N j = M j) ∧ (∀ i, i < t.length → N (qz_ix (l.getD i 0)) = nI (t.getD i 0))
theorem qz_ixj {a b : Nat} (h : qz_ix a = qz_ix b) : a = b := by unfold qz_ix at h; omega
theorem qz_nd {l : List Nat} (hn : l.Nodup) {i j : Nat} (hi : i < l.length) (hj : j < l.length) (h : l.getD i 0 = l.getD j 0) : i = j := by
  rw [List.getD_eq_getElem?_getD, List.getElem?_eq_getElem hi, List.getD_eq_getElem?_getD, List.getElem?_eq_getElem hj] at h
  have h : l[i] = l[j] := h
  have hp : ∀ (i j : Nat) (hi : i < l.length) (hj : j < l.length), i < j → l[i] ≠ l[j] := List.pairwise_iff_getElem.mp hn
  rcases Nat.lt_trichotomy i j with q | q | q
  · exact absurd h (hp i j hi hj q)
  · exact q
  · exact absurd h.symm (hp j i hj hi q)
theorem qz_P_0 (M : Nat → Int32) (l : List Nat) : qz_P M l [] M := ⟨fun _ _ => rfl, fun i hi => by simp at hi⟩
theorem qz_P_s {M N : Nat → Int32} {l t : List Nat} {s : Nat} (hn : l.Nodup) (ht : t.length < l.length) (h : qz_P M l t N) : qz_P M l (t ++ [s]) (qs_pt N (l.getD t.length 0) (nI s)) := by
  have el : (t ++ [s]).length = t.length + 1 := by simp
  constructor
  · intro j hj
    rw [el] at hj
    have h1 := hj t.length (by omega)
    rw [qpt_ne h1]
    exact h.1 j (fun i hi => hj i (by omega))
  · intro i hi
    rw [el] at hi
    by_cases e : i = t.length
    · subst e
      rw [q_getl]
      exact if_pos rfl
    · have hi2 : i < t.length := by omega
      rw [q_geta t s hi2]
      have : qz_ix (l.getD i 0) ≠ qz_ix (l.getD t.length 0) := fun q => e (qz_nd hn (by omega) ht (qz_ixj q))
      refine (qpt_ne this).trans ?_
      exact h.2 i hi2
theorem qpt_pt (N : Nat → Int32) (k : Nat) (v w : Int32) : qs_pt (qs_pt N k v) k w = qs_pt N k w := by
  funext j
  unfold qs_pt
  by_cases c : j = 97 + 7 * (k / 2) + k % 2
  · rw [if_pos c, if_pos c]
  · rw [if_neg c, if_neg c, if_neg c]
theorem qpt_self (N : Nat → Int32) (k : Nat) : qs_pt N k (qs_on N k) = N := by
  funext j
  unfold qs_pt qs_on
  by_cases c : j = 97 + 7 * (k / 2) + k % 2
  · rw [if_pos c, c]
  · rw [if_neg c]
theorem qp_qp (σ : gS) (k : Nat) (v : Int32) : qp σ k v = g_row σ 133 (qs_pt (σ 133) k v) := by
  unfold qp
  rw [qrow_up]; rfl
/-! what P gives -/
section PP
variable {M N : Nat → Int32} {l t : List Nat}
theorem qzp_o (h : qz_P M l t N) {j : Nat} (hj : ∀ k, j ≠ 97 + 7 * (k / 2) + k % 2) : N j = M j := h.1 j (fun i _ => hj _)
theorem qzp_n (h : qz_P M l t N) : qs_n N = qs_n M := by unfold qs_n; rw [qzp_o h (fun k => by omega)]
theorem qzp_t (h : qz_P M l t N) : qs_t N = qs_t M := by unfold qs_t; rw [qzp_o h (fun k => by omega)]
theorem qzp_is (h : qz_P M l t N) (o : Nat) : qs_is N o = qs_is M o := by unfold qs_is; rw [qzp_t h, qzp_o h (fun k => by omega)]
theorem qzp_fr (h : qz_P M l t N) (o : Nat) : qs_fr N o = qs_fr M o := by unfold qs_fr; rw [qzp_o h (fun k => by omega), qzp_o h (fun k => by omega)]
theorem qzp_to (h : qz_P M l t N) (o : Nat) : qs_to N o = qs_to M o := by unfold qs_to; rw [qzp_o h (fun k => by omega), qzp_o h (fun k => by omega)]
theorem qzp_sz (h : qz_P M l t N) (o : Nat) : qs_sz N o = qs_sz M o := by unfold qs_sz; rw [qzp_o h (fun k => by omega)]
theorem qzp_w (h : qz_P M l t N) {a s o r : Nat} (hs : s < 8) (hr : r < 8) : qs_w N a s o r = qs_w M a s o r := by
  unfold qs_w qs_li
  rw [qzp_fr h, qzp_fr h, qzp_to h, qzp_to h, qzp_sz h, qzp_sz h, qzp_o (j := 28 + 8 * s + r) h (fun k => by omega), qzp_o (j := 2) h (fun k => by omega)]
theorem qzp_hs (h : qz_P M l t N) {o s : Nat} (hs : s < 8) : qs_hs N o s = qs_hs M o s := by
  unfold qs_hs
  rw [qzp_sz h, qzp_o (j := 20 + s) h (fun k => by omega), qzp_o (j := 12 + s) h (fun k => by omega)]
theorem qzp_on (h : qz_P M l t N) {k : Nat} (hk : ∀ i, i < t.length → l.getD i 0 ≠ k) : qs_on N k = qs_on M k := by
  unfold qs_on
  exact h.1 _ (fun i hi q => hk i hi (qz_ixj q.symm))
theorem qzp_oni (h : qz_P M l t N) {i : Nat} (hi : i < t.length) : qs_on N (l.getD i 0) = nI (t.getD i 0) := h.2 i hi
end PP
theorem qz_mv_l {l : List Nat} {k : Nat} (h : qz_mv l k = true) : ∃ i, i < l.length ∧ l.getD i 0 = k := by
  have hm : k ∈ l := of_decide_eq_true h
  obtain ⟨i, hi, e⟩ := List.getElem_of_mem hm
  refine ⟨i, hi, ?_⟩
  rw [List.getD_eq_getElem?_getD, List.getElem?_eq_getElem hi]
  exact e
/-- the moved ones, all at their places: what the second program asks at the end -/
theorem qz_full {M N : Nat → Int32} (hV : qs_V M) {l t : List Nat} (hn : l.Nodup) (hl : t.length = l.length) (hio : ∀ k, k ∈ l → k < 20 ∧ qs_io M k = true) (hP : qz_P M l t N) (htn : ∀ i, i < t.length → t.getD i 0 < qs_n M) {i : Nat} (hi : i < l.length) :
    qs_hi N (l.getD i 0) = qs_hs M (l.getD i 0) (t.getD i 0) ∧ (qm 20 (qs_cf N (l.getD i 0)) = 0 ↔ qm 20 (fun o => qs_cl M (l.getD i 0) (t.getD i 0) o && !decide (o ∈ l)) = 0 ∧ qm l.length (fun j => !decide (j = i) && qs_w M (l.getD i 0) (t.getD i 0) (l.getD j 0) (t.getD j 0)) = 0) := by
  have n8 := qv_n8 hV
  have iol : ∀ j, j < l.length → qs_io N (l.getD j 0) = true ∧ qs_sn N (l.getD j 0) = t.getD j 0 := by
    intro j hj
    have e := qzp_oni hP (i := j) (by omega)
    have ht := htn j (by omega)
    have hio2 := hio _ (qz_mem hj)
    constructor
    · unfold qs_io
      rw [qzp_is hP, qs_io_is hio2.2, e, decide_eq_true (nI_pos' (by omega))]; rfl
    · unfold qs_sn
      rw [e, nI_clamp (by omega)]
  have ion : ∀ k, qz_mv l k = false → qs_io N k = qs_io M k ∧ qs_sn N k = qs_sn M k := by
    intro k hk
    have e := qzp_on hP (k := k) (fun i hi q => by
      have : k ∈ l := by rw [← q]; exact qz_mem (by omega)
      unfold qz_mv at hk
      rw [decide_eq_true this] at hk; cases hk)
    constructor
    · unfold qs_io
      rw [qzp_is hP, e]
    · unfold qs_sn
      rw [e]
  obtain ⟨a1, a2⟩ := iol i hi
  have hti := htn i (by omega)
  constructor
  · unfold qs_hi
    rw [a1, a2, qzp_hs hP (by omega), Bool.true_and]
  · rw [qm_0, qm_0, qm_0]
    have cfn : ∀ o, qz_mv l o = false → qs_cf N (l.getD i 0) o = qs_cl M (l.getD i 0) (t.getD i 0) o := by
      intro o ho
      obtain ⟨b1, b2⟩ := ion o ho
      unfold qs_cf qs_cl
      rw [a1, a2, b1, b2, Bool.true_and]
      cases cio : qs_io M o with
      | false => rw [Bool.false_and, Bool.false_and]
      | true =>
        have := (qv_sn hV cio).2
        rw [qzp_w hP (by omega) (by omega)]
    have cfl : ∀ j, j < l.length → qs_cf N (l.getD i 0) (l.getD j 0) = (!decide (j = i) && qs_w M (l.getD i 0) (t.getD i 0) (l.getD j 0) (t.getD j 0)) := by
      intro j hj
      obtain ⟨b1, b2⟩ := iol j hj
      have htj := htn j (by omega)
      unfold qs_cf qs_cl
      rw [a1, a2, b1, b2, Bool.true_and, Bool.true_and, qzp_w hP (by omega) (by omega)]
      congr 2
      exact decide_eq_decide.mpr ⟨fun q => qz_nd hn hj hi q, fun q => by rw [q]⟩
    constructor
    · intro h
      constructor
      · intro o ho
        cases cm : qz_mv l o with
        | true =>
          have cm : decide (o ∈ l) = true := cm
          rw [cm]; simp
        | false =>
          have := h o ho
          rw [cfn o cm] at this
          rw [this]; rfl
      · intro j hj
        have := h (l.getD j 0) (hio _ (qz_mem hj)).1
        rw [cfl j hj] at this
        exact this
    · rintro ⟨h1, h2⟩ o ho
      cases cm : qz_mv l o with
      | true =>
        obtain ⟨j, hj, e⟩ := qz_mv_l cm
        rw [← e, cfl j hj]
        exact h2 j hj
      | false =>
        rw [cfn o cm]
        have := h1 o ho
        have cm : decide (o ∈ l) = false := cm
        rw [cm] at this
        simpa using this
theorem qd_movedGood {σ : gS} {M : Nat → Int32} (hV : qs_V M) (hVN : qs_V (σ 133)) {l t : List Nat} (hl3 : l.length ≤ 3) (hn : l.Nodup) (hl : t.length = l.length) (hio : ∀ k, k ∈ l → k < 20 ∧ qs_io M k = true) (hP : qz_P M l t (σ 133)) (htn : ∀ i, i < t.length → t.getD i 0 < qs_n M) (h138 : qz_L σ 138 l) : X7_areMovedGood σ (nI l.length) = some (qb (qz_mg M l t)) := by
  let bad : Nat → Bool := fun i => (qs_hs M (l.getD i 0) (t.getD i 0) || !decide (qm 20 (fun o => qs_cl M (l.getD i 0) (t.getD i 0) o && !decide (o ∈ l)) = 0)) || !decide (qm l.length (fun j => !decide (j = i) && qs_w M (l.getD i 0) (t.getD i 0) (l.getD j 0) (t.getD j 0)) = 0)
  have step : ∀ i, i < l.length → X7_areMovedGood_k0 σ (nI l.length) (nI i) = if bad i = true then some (.inr 0) else some (.inl (nI l.length, nI (i + 1))) := by
    intro i hi
    have hk := hio _ (qz_mem hi)
    obtain ⟨f1, f2⟩ := qz_full hV hn hl hio hP htn hi
    unfold X7_areMovedGood_k0
    rw [if_neg (nI_ge hi (by omega)), qg_i (show i < 3 by omega) (by decide), qk_c (by omega), h138 i hi, qk_s, qd_isHindered hVN hk.1, qs, qb_if, f1]
    show _ = if ((qs_hs M (l.getD i 0) (t.getD i 0) || !decide (qm 20 (fun o => qs_cl M (l.getD i 0) (t.getD i 0) o && !decide (o ∈ l)) = 0)) || !decide (qm l.length (fun j => !decide (j = i) && qs_w M (l.getD i 0) (t.getD i 0) (l.getD j 0) (t.getD j 0)) = 0)) = true then _ else _
    cases c1 : qs_hs M (l.getD i 0) (t.getD i 0) with
    | true => rw [if_pos rfl, if_pos (by simp)]
    | false =>
      rw [if_neg (by decide), qd_conflictsOf hVN hk.1, qs]
      by_cases c2 : qm 20 (qs_cf (σ 133) (l.getD i 0)) = 0
      · obtain ⟨g1, g2⟩ := f2.mp c2
        rw [if_pos (by rw [c2]; rfl), decide_eq_true g1, decide_eq_true g2, if_neg (by decide)]
      · rw [if_neg (nI_ne0 (by omega) (qm_small _ (by decide))), if_pos]
        by_cases g1 : qm 20 (fun o => qs_cl M (l.getD i 0) (t.getD i 0) o && !decide (o ∈ l)) = 0
        · have g2 := fun q => c2 (f2.mpr ⟨g1, q⟩)
          rw [decide_eq_false g2]; simp
        · rw [decide_eq_false g1]; simp
  have hl2 := qf_find (step := X7_areMovedGood_s σ) (N := l.length) (p := bad) (out := fun _ => (0 : Int32)) (b := 1) (fun i => (nI l.length, nI i)) (fun i hi hp => by
      show X7_areMovedGood_k0 σ (nI l.length) (nI i) = _
      rw [step i hi, hp]; rfl) (fun i hi hp => by
      show X7_areMovedGood_k0 σ (nI l.length) (nI i) = _
      rw [step i hi, hp]; rfl) (by
      show X7_areMovedGood_k0 σ (nI l.length) (nI l.length) = _
      unfold X7_areMovedGood_k0
      rw [if_pos (qk_end (by omega))]) l.length 0 (by omega)
  refine hl2.trans ?_
  have em : qz_mg M l t = decide (qm l.length bad = 0) := rfl
  rw [em]
  cases e : qfi bad l.length 0 with
  | none => rw [decide_eq_true (qm_0.mpr (fun j hj => qfi_none e j (Nat.zero_le _) (by omega)))]; rfl
  | some j =>
    obtain ⟨-, e1, e2, -⟩ := qfi_some e
    rw [decide_eq_false (fun q => by have := qm_0.mp q j (by omega); rw [e2] at this; cases this)]; rfl
theorem qd_fits {M : Nat → Int32} (hV : qs_V M) {l : List Nat} (hl3 : l.length ≤ 3) (hn : l.Nodup) (hio : ∀ k, k ∈ l → k < 20 ∧ qs_io M k = true) : ∀ (r : Nat) (t : List Nat) (d : Nat) (σ : gS), r + 1 ≤ d → t.length + r = l.length → qs_V (σ 133) → qz_P M l t (σ 133) → qz_rg M l t → qz_L σ 138 l → qz_L σ 139 t →
    ∃ σ', X7_fits d σ (nI t.length) (nI l.length) = some (qb (qtm M l r t).isSome, σ') ∧ (∀ a, a ≠ 139 → σ' a = σ a) ∧ (∀ j, j < t.length → σ' 139 j = σ 139 j) ∧ ∀ T, qtm M l r t = some T → qz_L σ' 139 T := by
  have n8 := qv_n8 hV
  intro r
  induction r with
  | zero =>
    intro t d σ hd hlen hVN hP hrg h138 h139
    obtain ⟨d', rfl⟩ : ∃ d', d = d' + 1 := ⟨d - 1, by omega⟩
    have el : t.length = l.length := by omega
    have htn : ∀ i, i < t.length → t.getD i 0 < qs_n M := fun i hi => (hrg i hi).1
    have eq : qtm M l 0 t = if qz_mg M l t = true then some t else none := rfl
    refine ⟨σ, ?_, fun a _ => rfl, fun j _ => rfl, fun T hT => ?_⟩
    · show X7_fits_e (X7_fits d') σ (nI t.length) (nI l.length) = _
      unfold X7_fits_e
      rw [el, if_pos rfl, qd_movedGood hV hVN hl3 hn el hio hP htn h138, qs, qg (qb_bz _), eq]
      cases qz_mg M l t <;> rfl
    · rw [eq] at hT
      by_cases c : qz_mg M l t = true
      · rw [if_pos c] at hT
        cases hT
        exact h139
      · rw [if_neg c] at hT; cases hT
  | succ r ih =>
    intro t d σ hd hlen hVN hP hrg h138 h139
    obtain ⟨d', rfl⟩ : ∃ d', d = d' + 1 := ⟨d - 1, by omega⟩
    have htl : t.length < l.length := by omega
    have hk := hio _ (qz_mem htl)
    have hki := qs_io_is hk.2
    have en : qs_n (σ 133) = qs_n M := qzp_n hP
    have eon : qs_on (σ 133) (l.getD t.length 0) = qs_on M (l.getD t.length 0) := qzp_on hP (fun i hi q => by
      have := qz_nd hn (by omega) htl q
      omega)
    have esn := qv_sn hV hk.2
    have loop : ∀ n i (τ : gS), i + n = qs_n M → (∀ a, a ≠ 133 → a ≠ 139 → τ a = σ a) → (∃ v, τ 133 = qs_pt (σ 133) (l.getD t.length 0) v) → (∀ j, j < t.length → τ 139 j = σ 139 j) → ∃ σ', gr (X7_fits_s (X7_fits d')) (nI t.length, nI l.length, nI (qs_sn M (l.getD t.length 0)), nI i, τ) = some (qb (qfs (fun s => if s = qs_sn M (l.getD t.length 0) then none else qtm M l r (t ++ [s])) n i).isSome, σ') ∧ (∀ a, a ≠ 139 → σ' a = σ a) ∧ (∀ j, j < t.length → σ' 139 j = σ 139 j) ∧ ∀ T, qfs (fun s => if s = qs_sn M (l.getD t.length 0) then none else qtm M l r (t ++ [s])) n i = some T → qz_L σ' 139 T := by
      intro n
      have back : ∀ (τ : gS), (∀ a, a ≠ 133 → a ≠ 139 → τ a = σ a) → (∃ v, τ 133 = qs_pt (σ 133) (l.getD t.length 0) v) → ∀ a, a ≠ 139 → (qp τ (l.getD t.length 0) (nI (qs_sn M (l.getD t.length 0)))) a = σ a := by
        rintro τ o1 ⟨v, hv⟩ a ha
        rw [qp_qp]
        by_cases c : a = 133
        · subst c
          rw [qw_at, hv, qpt_pt, ← esn.1, ← eon, qpt_self]
        · rw [qw_a _ _ c]; exact o1 a c ha
      induction n with
      | zero =>
        intro i τ hi o1 hv o2
        have hnt : τ 133 0 = nI (qs_n M) := by
          obtain ⟨v, hv⟩ := hv
          rw [hv, qpt_ne (by omega), qv_n hVN, en]
        have h138t : τ 138 t.length = nI (l.getD t.length 0) := by rw [o1 138 (by decide) (by decide)]; exact h138 _ htl
        refine ⟨qp τ (l.getD t.length 0) (nI (qs_sn M (l.getD t.length 0))), ?_, back τ o1 hv, fun j hj => ?_, fun T hT => by cases hT⟩
        · rw [show i = qs_n M by omega, gr_eq]
          show (X7_fits_k0 (X7_fits d') τ (nI t.length) (nI l.length) (nI (qs_sn M (l.getD t.length 0))) (nI (qs_n M))).bind _ = _
          unfold X7_fits_k0
          rw [qk_z0, hnt, if_pos (qk_end (by omega)), qg_i (show t.length < 3 by omega) (by decide), qk_c (by omega), h138t, qd_put hk.1, qs, qs]; rfl
        · rw [qp_qp, qw_a _ _ (by decide)]; exact o2 j hj
      | succ n ihn =>
        intro i τ hi o1 hv o2
        have hin : i < qs_n M := by omega
        have hnt : τ 133 0 = nI (qs_n M) := by
          obtain ⟨v, hv⟩ := hv
          rw [hv, qpt_ne (by omega), qv_n hVN, en]
        have h138t : τ 138 t.length = nI (l.getD t.length 0) := by rw [o1 138 (by decide) (by decide)]; exact h138 _ htl
        rw [gr_eq]
        show ∃ σ', (X7_fits_k0 (X7_fits d') τ (nI t.length) (nI l.length) (nI (qs_sn M (l.getD t.length 0))) (nI i)).bind _ = _ ∧ _
        unfold X7_fits_k0
        rw [qk_z0, hnt, if_neg (qk_ge hin (by omega)), qk_s, qk_s]
        by_cases c1 : i = qs_sn M (l.getD t.length 0)
        · rw [if_pos (by rw [← c1]), qs, qfs_n (if_pos c1)]
          exact ihn (i + 1) τ (by omega) o1 hv o2
        · rw [if_neg (fun q => c1 ((qk_eq (by omega) (by omega)).mp q)), qg_i (show t.length < 3 by omega) (by decide), qk_c (by omega), h138t, qd_put hk.1, qs, ql, qp_qp]
          have e133 : (g_up (g_row τ 133 (qs_pt (τ 133) (l.getD t.length 0) (nI i))) 139 t.length (nI i)) 133 = qs_pt (σ 133) (l.getD t.length 0) (nI i) := by
            obtain ⟨v, hv⟩ := hv
            rw [qu_a _ _ (by decide), qw_at, hv, qpt_pt]
          have hVu : qs_V ((g_up (g_row τ 133 (qs_pt (τ 133) (l.getD t.length 0) (nI i))) 139 t.length (nI i)) 133) := by
            rw [e133]
            exact qpt_V hVN (by rw [qzp_is hP]; exact hki) (by rw [nI_toInt (by omega)]; omega) (by rw [nI_toInt (by omega), en]; omega)
          have hPu : qz_P M l (t ++ [i]) ((g_up (g_row τ 133 (qs_pt (τ 133) (l.getD t.length 0) (nI i))) 139 t.length (nI i)) 133) := by
            rw [e133]
            exact qz_P_s hn htl hP
          have h139t : qz_L (g_row τ 133 (qs_pt (τ 133) (l.getD t.length 0) (nI i))) 139 t := fun j hj => by rw [qw_a _ _ (by decide), o2 j hj]; exact h139 j hj
          obtain ⟨σ2, k1, k2, k3, k4⟩ := ih (t ++ [i]) d' _ (by omega) (by simp; omega) hVu hPu (qz_rg_s hrg hin c1) (fun j hj => by rw [qu_a _ _ (by decide), qw_a _ _ (by decide), o1 138 (by decide) (by decide)]; exact h138 j hj) (qz_L_s h139t)
          have el : (t ++ [i]).length = t.length + 1 := by simp
          rw [el] at k1 k3
          have o1' : ∀ a, a ≠ 133 → a ≠ 139 → σ2 a = σ a := fun a p q => by rw [k2 a q, qu_a _ _ q, qw_a _ _ p, o1 a p q]
          have hv' : ∃ v, σ2 133 = qs_pt (σ 133) (l.getD t.length 0) v := ⟨nI i, by rw [k2 133 (by decide), e133]⟩
          have o2' : ∀ j, j < t.length → σ2 139 j = σ 139 j := fun j hj => by rw [k3 j (by omega), qu_j _ _ (by omega), qw_a _ _ (by decide), o2 j hj]
          rw [k1, qs]
          show ∃ σ', Option.bind (if qb (qtm M l r (t ++ [i])).isSome = 0 then _ else _) _ = _ ∧ _
          rw [qb_if]
          cases cq : qtm M l r (t ++ [i]) with
          | none =>
            rw [if_neg (by decide), qs, qfs_n (by rw [if_neg c1]; exact cq)]
            exact ihn (i + 1) σ2 (by omega) o1' hv' o2'
          | some T =>
            have h138s : σ2 138 t.length = nI (l.getD t.length 0) := by rw [o1' 138 (by decide) (by decide)]; exact h138 _ htl
            rw [if_pos (show (some T).isSome = true from rfl)]
            dsimp only
            rw [h138s, qd_put hk.1, qs, qs, qfs_s (x := T) (by rw [if_neg c1]; exact cq)]
            refine ⟨_, rfl, back σ2 o1' hv', fun j hj => by rw [qp_qp, qw_a _ _ (by decide)]; exact o2' j hj, fun T' hT => ?_⟩
            cases hT
            exact qz_L_c (k4 T cq) (fun j _ => by rw [qp_qp, qw_a _ _ (by decide)])
    obtain ⟨σ', k1, k2, k3, k4⟩ := loop (qs_n M) 0 σ (by omega) (fun a _ _ => rfl) ⟨qs_on (σ 133) (l.getD t.length 0), (qpt_self _ _).symm⟩ (fun j _ => rfl)
    refine ⟨σ', ?_, k2, k3, k4⟩
    show X7_fits_e (X7_fits d') σ (nI t.length) (nI l.length) = _
    unfold X7_fits_e
    rw [if_neg (fun q => by have := (qk_eq (by omega) (by omega)).mp q; omega), qg_i (show t.length < 3 by omega) (by decide), qk_c (by omega), h138 _ htl, qd_on hk.1, qs, eon, esn.1]
    exact k1
theorem qd_isMoved {σ : gS} {l : List Nat} (hl3 : l.length ≤ 3) (h138 : qz_L σ 138 l) (hl20 : ∀ k, k ∈ l → k < 20) {k : Nat} (hk : k < 20) : X7_isMoved σ (nI k) (nI l.length) = some (qb (qz_mv l k)) := by
  have loop : ∀ n i, i + n = l.length → gr (X7_isMoved_s σ) (nI k, nI l.length, qb (qz_mv (l.take i) k), nI i) = some (qb (qz_mv l k)) := by
    intro n
    induction n with
    | zero =>
      intro i hi
      rw [show i = l.length by omega, gr_eq]
      show (X7_isMoved_k0 σ (nI k) (nI l.length) (qb (qz_mv (l.take l.length) k)) (nI l.length)).bind _ = _
      unfold X7_isMoved_k0
      rw [if_pos (qk_end (by omega)), qg (qb_bz _), qs, List.take_length]
    | succ n ih =>
      intro i hi
      have hi2 : i < l.length := by omega
      have hx := hl20 _ (qz_mem hi2)
      have ih2 := ih (i + 1) (by omega)
      rw [qz_take hi2] at ih2
      rw [gr_eq]
      show (X7_isMoved_k0 σ (nI k) (nI l.length) (qb (qz_mv (l.take i) k)) (nI i)).bind _ = _
      unfold X7_isMoved_k0
      rw [if_neg (nI_ge hi2 (by omega)), qb_if, qk_s, qg_i (show i < 3 by omega) (by decide), qk_c (by omega), h138 i hi2]
      cases c : qz_mv (l.take i) k with
      | true =>
        rw [if_pos rfl, qs]
        rw [c] at ih2
        exact ih2
      | false =>
        rw [c] at ih2
        rw [if_neg (by decide)]
        by_cases e : l.getD i 0 = k
        · rw [if_pos (by rw [e]), qs]
          rw [decide_eq_true e.symm] at ih2
          exact ih2
        · rw [if_neg (fun q => e ((qk_eq (by omega) (by omega)).mp q)), qs]
          rw [decide_eq_false (fun q => e q.symm)] at ih2
          exact ih2
  have h0 : qz_mv (l.take 0) k = false := by unfold qz_mv; simp
  have := loop l.length 0 (by omega)
  rw [h0] at this
  exact this
theorem qd_othersGood {σ : gS} (hV : qs_V (σ 133)) {l : List Nat} (hl3 : l.length ≤ 3) (h138 : qz_L σ 138 l) (hl20 : ∀ k, k ∈ l → k < 20) : X7_areOthersGood σ (nI l.length) = some (qb (qz_og (σ 133) l)) := by
  let inb : Nat → Nat → Bool := fun a b => !(qz_mv l b) && qs_cf (σ 133) a b
  let bad : Nat → Bool := fun a => (qs_io (σ 133) a && !(qz_mv l a)) && (qs_hi (σ 133) a || (qfi (inb a) a 0).isSome)
  have inner : ∀ a, a < 20 → ∀ n b, b + n = a → gr (X7_areOthersGood_s σ) (1, nI l.length, nI a, nI b) = match qfi (inb a) n b with | some _ => some 0 | none => gr (X7_areOthersGood_s σ) (0, nI l.length, nI (a + 1), 0) := by
    intro a ha n
    induction n with
    | zero =>
      intro b hb
      rw [show b = a by omega, gr_eq]
      show (X7_areOthersGood_k1 σ (nI l.length) (nI a) (nI a)).bind _ = _
      unfold X7_areOthersGood_k1
      rw [if_pos (qk_end (by omega)), qs, qk_s]; rfl
    | succ n ih =>
      intro b hb
      have hb2 : b < a := by omega
      rw [gr_eq]
      show (X7_areOthersGood_k1 σ (nI l.length) (nI a) (nI b)).bind _ = _
      unfold X7_areOthersGood_k1 qfi
      rw [if_neg (qk_ge hb2 (by omega)), qd_isMoved hl3 h138 hl20 (by omega), qs, qb_if, qk_s]
      rw [show inb a b = (!(qz_mv l b) && qs_cf (σ 133) a b) from rfl]
      cases cm : qz_mv l b with
      | true =>
        rw [if_pos rfl, qs, if_neg (by simp)]
        exact ih (b + 1) (by omega)
      | false =>
        rw [if_neg (by decide), qd_areInConflict hV ha (by omega), qs, qb_if]
        cases cc : qs_cf (σ 133) a b with
        | true => rw [if_pos rfl, qs, if_pos (show (!false && true) = true from rfl)]
        | false =>
          rw [if_neg (by decide), qs, if_neg (by decide)]
          exact ih (b + 1) (by omega)
  have outer : ∀ n a, a + n = 20 → gr (X7_areOthersGood_s σ) (0, nI l.length, nI a, 0) = some (qb (qfi bad n a).isNone) := by
    intro n
    induction n with
    | zero =>
      intro a ha
      rw [show a = 20 by omega, gr_eq]
      show (X7_areOthersGood_k0 σ (nI l.length) (nI 20)).bind _ = _
      unfold X7_areOthersGood_k0
      rw [if_pos qk_e20, qs]; rfl
    | succ n ih =>
      intro a ha
      have ha2 : a < 20 := by omega
      rw [gr_eq]
      show (X7_areOthersGood_k0 σ (nI l.length) (nI a)).bind _ = _
      unfold X7_areOthersGood_k0 qfi
      rw [if_neg (qk_20 ha2), qd_isOn hV ha2, qs, qb_if, qk_s]
      show _ = some (qb (if ((qs_io (σ 133) a && !(qz_mv l a)) && (qs_hi (σ 133) a || (qfi (inb a) a 0).isSome)) = true then some a else qfi bad n (a + 1)).isNone)
      cases cio : qs_io (σ 133) a with
      | false =>
        rw [if_neg (by decide), qs, if_neg (by simp)]
        exact ih (a + 1) (by omega)
      | true =>
        rw [if_pos rfl, qd_isMoved hl3 h138 hl20 ha2, qs, qb_if]
        cases cm : qz_mv l a with
        | true =>
          rw [if_pos rfl, qs, if_neg (by simp)]
          exact ih (a + 1) (by omega)
        | false =>
          rw [if_neg (by decide), qd_isHindered hV ha2, qs, qb_if]
          cases ch : qs_hi (σ 133) a with
          | true => rw [if_pos rfl, qs, if_pos (by simp)]; rfl
          | false =>
            rw [if_neg (by decide), qs]
            refine (inner a ha2 a 0 (by omega)).trans ?_
            cases e : qfi (inb a) a 0 with
            | some b => rw [if_pos (by simp)]; rfl
            | none =>
              rw [if_neg (by simp)]
              exact ih (a + 1) (by omega)
  have h0 := outer 20 0 (by omega)
  refine (show gr (X7_areOthersGood_s σ) (0, nI l.length, 0, 0) = _ from h0).trans ?_
  congr 2
  rw [Bool.eq_iff_iff]
  unfold qz_og
  rw [decide_eq_true_eq, qm_0]
  constructor
  · intro h a ha
    have hnone : qfi bad 20 0 = none := by
      cases e : qfi bad 20 0 with
      | none => rfl
      | some x => rw [e] at h; cases h
    have hb := qfi_none hnone a (Nat.zero_le _) (by omega)
    cases cio : qs_io (σ 133) a with
    | false => rfl
    | true =>
      cases cm : decide (a ∈ l) with
      | true => rfl
      | false =>
        have hb : ((qs_io (σ 133) a && !(qz_mv l a)) && (qs_hi (σ 133) a || (qfi (inb a) a 0).isSome)) = false := hb
        have cm2 : qz_mv l a = false := cm
        rw [cio, cm2] at hb
        simp only [Bool.true_and, Bool.not_false, Bool.or_eq_false_iff] at hb
        rw [hb.1, decide_eq_true (qm_0.mpr (fun b hb20 => ?_))]
        · rfl
        · cases cmb : decide (b ∈ l) with
          | true => simp
          | false =>
            have cmb2 : qz_mv l b = false := cmb
            have goal : qs_cf (σ 133) a b = false := by
              rcases Nat.lt_trichotomy b a with q | q | q
              · have e : qfi (inb a) a 0 = none := by
                  cases e : qfi (inb a) a 0 with
                  | none => rfl
                  | some x => rw [e] at hb; cases hb.2
                have : (!(qz_mv l b) && qs_cf (σ 133) a b) = false := qfi_none e b (Nat.zero_le _) (by omega)
                rw [cmb2] at this
                simpa using this
              · rw [q]; exact qs_cf_irr _ _
              · rw [qs_cf_sym hV]
                cases cb : qs_io (σ 133) b with
                | false => unfold qs_cf; rw [cb, Bool.false_and]
                | true =>
                  have hb3 := qfi_none hnone b (Nat.zero_le _) (by omega)
                  have hb3 : ((qs_io (σ 133) b && !(qz_mv l b)) && (qs_hi (σ 133) b || (qfi (inb b) b 0).isSome)) = false := hb3
                  rw [cb, cmb2] at hb3
                  simp only [Bool.true_and, Bool.not_false, Bool.or_eq_false_iff] at hb3
                  have e : qfi (inb b) b 0 = none := by
                    cases e : qfi (inb b) b 0 with
                    | none => rfl
                    | some x => rw [e] at hb3; cases hb3.2
                  have : (!(qz_mv l a) && qs_cf (σ 133) b a) = false := qfi_none e a (Nat.zero_le _) (by omega)
                  rw [cm2] at this
                  simpa using this
            rw [goal]; rfl
  · intro h
    have : qfi bad 20 0 = none := qfi_no (fun a _ ha => by
      have hb := h a (by omega)
      show ((qs_io (σ 133) a && !(qz_mv l a)) && (qs_hi (σ 133) a || (qfi (inb a) a 0).isSome)) = false
      cases cio : qs_io (σ 133) a with
      | false => rfl
      | true =>
        cases cm : qz_mv l a with
        | true => rfl
        | false =>
          have cm2 : decide (a ∈ l) = false := cm
          rw [cio, cm2] at hb
          simp only [Bool.true_and, Bool.not_false, Bool.or_eq_false_iff, Bool.not_eq_false', decide_eq_true_eq] at hb
          have hz := qm_0.mp hb.2
          have e : qfi (inb a) a 0 = none := qfi_no (fun b _ hb2 => by
            have := hz b (by omega)
            show (!(qz_mv l b) && qs_cf (σ 133) a b) = false
            rw [Bool.and_comm]
            exact this)
          rw [hb.1, e]; rfl)
    rw [this]; rfl
