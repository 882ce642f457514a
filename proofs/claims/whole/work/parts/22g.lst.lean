/-! ===== repairs: the other method, which counts through all rows of stands ===== -/
def qe (ρ i : Nat) : Nat := ρ / 2 ^ (3 * i) % 8
theorem qe_lt (ρ i : Nat) : qe ρ i < 8 := Nat.mod_lt _ (by decide)
theorem qx_stand (σ : gS) {ρ i : Nat} (hρ : ρ < 2 ^ 31) (hi : i < 10) : X2_standIn σ (nI ρ) (nI i) = some (nI (qe ρ i)) := by
  unfold X2_standIn qe
  rw [show (3 : Int32) * nI i = nI (3 * i) from pk_mul 3 i, qf_shr hρ (by omega), show (7 : Int32) = nI 7 from rfl, qf_and, show (7 : Nat) = 2 ^ 3 - 1 from rfl, Nat.and_two_pow_sub_one_eq_mod]
def qzb (M : Nat → Int32) (l : List Nat) (ρ i : Nat) : Bool := !(qz_fr M l (l.getD i 0) (qe ρ i)) || (qfi (fun j => qs_w M (l.getD i 0) (qe ρ i) (l.getD j 0) (qe ρ j)) i 0).isSome
theorem qx_row {σ : gS} {M : Nat → Int32} (h : qr_R (qr_b σ 24) M) {l : List Nat} (hl3 : l.length ≤ 3) (hio : ∀ k, k ∈ l → k < 20 ∧ qs_io M k = true) (h12 : qz_L σ 12 l) (h13 : ∀ i, i < l.length → σ 13 i = nI (qm 8 (qz_fr M l (l.getD i 0)))) {ρ : Nat} (hρ : ρ < 2 ^ 31) :
    X2_isRowSound σ 24 (nI ρ) (nI l.length) = some (qb (qfi (qzb M l ρ) l.length 0).isNone) := by
  have inner : ∀ i, i < l.length → (∀ j, j ≤ i → qe ρ j < qs_n M) → ∀ n j, j + n = i → gr (X2_isRowSound_s σ 24) (1, nI ρ, nI l.length, nI i, nI (qe ρ i), nI j) = match qfi (fun j => qs_w M (l.getD i 0) (qe ρ i) (l.getD j 0) (qe ρ j)) n j with | some _ => some 0 | none => gr (X2_isRowSound_s σ 24) (0, nI ρ, nI l.length, nI (i + 1), 0, 0) := by
    intro i hi hfr n
    induction n with
    | zero =>
      intro j hj
      rw [show j = i by omega, gr_eq]
      show (X2_isRowSound_k1 σ 24 (nI ρ) (nI l.length) (nI i) (nI (qe ρ i)) (nI i)).bind _ = _
      unfold X2_isRowSound_k1
      rw [if_pos (qk_end (by omega)), qs, qk_s]; rfl
    | succ n ih =>
      intro j hj
      have hj2 : j < i := by omega
      have hk1 := hio _ (qz_mem hi)
      have hk2 := hio _ (qz_mem (l := l) (j := j) (by omega))
      rw [gr_eq]
      show (X2_isRowSound_k1 σ 24 (nI ρ) (nI l.length) (nI i) (nI (qe ρ i)) (nI j)).bind _ = _
      unfold X2_isRowSound_k1 qfi
      rw [if_neg (qk_ge hj2 (by omega)), qg_i (show i < 3 by omega) (by decide), qg_i (show j < 3 by omega) (by decide), qx_stand σ hρ (by omega), qs, qk_c (by omega), qk_c (by omega), h12 i hi, h12 j (by omega), qc_wouldClash h (qs_io_is hk1.2) (hfr i (Nat.le_refl i)) (qs_io_is hk2.2) (hfr j (by omega)), qs, qb_if, qk_s]
      cases cw : qs_w M (l.getD i 0) (qe ρ i) (l.getD j 0) (qe ρ j) with
      | true => rw [if_pos rfl, qs, if_pos rfl]
      | false =>
        rw [if_neg (by decide), qs, if_neg (by decide)]
        exact ih (j + 1) (by omega)
  have outer : ∀ n i, i + n = l.length → (∀ j, j < i → qe ρ j < qs_n M) → gr (X2_isRowSound_s σ 24) (0, nI ρ, nI l.length, nI i, 0, 0) = some (qb (qfi (qzb M l ρ) n i).isNone) := by
    intro n
    induction n with
    | zero =>
      intro i hi hj
      rw [show i = l.length by omega, gr_eq]
      show (X2_isRowSound_k0 σ 24 (nI ρ) (nI l.length) (nI l.length)).bind _ = _
      unfold X2_isRowSound_k0
      rw [if_pos (qk_end (by omega)), qs]; rfl
    | succ n ih =>
      intro i hi hj
      have hi2 : i < l.length := by omega
      rw [gr_eq]
      show (X2_isRowSound_k0 σ 24 (nI ρ) (nI l.length) (nI i)).bind _ = _
      unfold X2_isRowSound_k0 qfi
      rw [if_neg (qk_ge hi2 (by omega)), qx_stand σ hρ (by omega), qs, qg_i (show i < 3 by omega) (by decide), qk_c (by omega), h13 i hi2]
      have eb : qzb M l ρ i = (!(qz_fr M l (l.getD i 0) (qe ρ i)) || (qfi (fun j => qs_w M (l.getD i 0) (qe ρ i) (l.getD j 0) (qe ρ j)) i 0).isSome) := rfl
      rw [eb]
      cases cf : qz_fr M l (l.getD i 0) (qe ρ i) with
      | false =>
        rw [if_pos ((qz_bit8 (qe_lt ρ i)).mpr cf), qs, if_pos (by simp)]; rfl
      | true =>
        have hfr : ∀ j, j ≤ i → qe ρ j < qs_n M := fun j q => by
          by_cases e : j = i
          · rw [e]; exact qz_frn cf
          · exact hj j (by omega)
        rw [if_neg (fun q => by have := (qz_bit8 (qe_lt ρ i)).mp q; rw [cf] at this; cases this), qs]
        refine (inner i hi2 hfr i 0 (by omega)).trans ?_
        cases e : qfi (fun j => qs_w M (l.getD i 0) (qe ρ i) (l.getD j 0) (qe ρ j)) i 0 with
        | some b => rw [if_pos (by simp)]; rfl
        | none =>
          rw [if_neg (by simp)]
          exact ih (i + 1) (by omega) (fun j q => hfr j (by omega))
  exact outer l.length 0 (by omega) (fun j hj => by omega)
theorem qzb_ok {M : Nat → Int32} {l T : List Nat} {ρ : Nat} (hT : ∀ i, i < l.length → T.getD i 0 = qe ρ i) (ht : T.length = l.length) : (qfi (qzb M l ρ) l.length 0).isNone = true ↔ qz_ok M l T := by
  constructor
  · intro h i hi
    have hn : qfi (qzb M l ρ) l.length 0 = none := by
      cases e : qfi (qzb M l ρ) l.length 0 with
      | none => rfl
      | some x => rw [e] at h; cases h
    have hb := qfi_none hn i (Nat.zero_le _) (by omega)
    unfold qzb at hb
    simp only [Bool.or_eq_false_iff, Bool.not_eq_false'] at hb
    rw [hT i (by omega)]
    refine ⟨hb.1, fun j hj => ?_⟩
    rw [hT j (by omega)]
    have e : qfi (fun j => qs_w M (l.getD i 0) (qe ρ i) (l.getD j 0) (qe ρ j)) i 0 = none := by
      cases e : qfi (fun j => qs_w M (l.getD i 0) (qe ρ i) (l.getD j 0) (qe ρ j)) i 0 with
      | none => rfl
      | some x => rw [e] at hb; cases hb.2
    exact qfi_none e j (Nat.zero_le _) (by omega)
  · intro h
    rw [qfi_no (fun i _ hi => ?_)]
    · rfl
    · have hi2 : i < l.length := by omega
      obtain ⟨h1, h2⟩ := h i (by omega)
      rw [hT i hi2] at h1
      unfold qzb
      rw [h1, qfi_no (fun j _ hj => ?_)]
      · rfl
      · have := h2 j (by omega)
        rw [hT i hi2, hT j (by omega)] at this
        exact this
theorem qe_enc {T : List Nat} {c : Nat} (hc : c ≤ 3) (h : ∀ i, i < c → T.getD i 0 < 8) : ∃ ρ, ρ < 2 ^ (3 * c) ∧ ∀ i, i < c → qe ρ i = T.getD i 0 := by
  rcases (show c = 0 ∨ c = 1 ∨ c = 2 ∨ c = 3 by omega) with e | e | e | e
  · subst e
    exact ⟨0, by decide, fun i hi => by omega⟩
  · subst e
    have h0 := h 0 (by omega)
    refine ⟨T.getD 0 0, h0, fun i hi => ?_⟩
    rw [show i = 0 by omega]
    show T.getD 0 0 / 1 % 8 = T.getD 0 0
    omega
  · subst e
    have h0 := h 0 (by omega)
    have h1 := h 1 (by omega)
    refine ⟨T.getD 0 0 + 8 * T.getD 1 0, (show _ < 64 by omega), fun i hi => ?_⟩
    rcases (show i = 0 ∨ i = 1 by omega) with e | e
    · subst e
      show (T.getD 0 0 + 8 * T.getD 1 0) / 1 % 8 = T.getD 0 0
      omega
    · subst e
      show (T.getD 0 0 + 8 * T.getD 1 0) / 8 % 8 = T.getD 1 0
      omega
  · subst e
    have h0 := h 0 (by omega)
    have h1 := h 1 (by omega)
    have h2 := h 2 (by omega)
    refine ⟨T.getD 0 0 + 8 * T.getD 1 0 + 64 * T.getD 2 0, (show _ < 512 by omega), fun i hi => ?_⟩
    rcases (show i = 0 ∨ i = 1 ∨ i = 2 by omega) with e | e | e
    · subst e
      show (T.getD 0 0 + 8 * T.getD 1 0 + 64 * T.getD 2 0) / 1 % 8 = T.getD 0 0
      omega
    · subst e
      show (T.getD 0 0 + 8 * T.getD 1 0 + 64 * T.getD 2 0) / 8 % 8 = T.getD 1 0
      omega
    · subst e
      show (T.getD 0 0 + 8 * T.getD 1 0 + 64 * T.getD 2 0) / 64 % 8 = T.getD 2 0
      omega
theorem qe_dec (ρ c : Nat) : ∃ T : List Nat, T.length = c ∧ ∀ i, i < c → T.getD i 0 = qe ρ i := by
  refine ⟨(List.range c).map (qe ρ), by simp, fun i hi => ?_⟩
  rw [List.getD_eq_getElem?_getD, List.getElem?_map, List.getElem?_range hi]
  rfl
theorem qz_app {t T : List Nat} (hp : ∀ i, i < t.length → T.getD i 0 = t.getD i 0) : ∀ i, i < (t ++ [T.getD t.length 0]).length → T.getD i 0 = (t ++ [T.getD t.length 0]).getD i 0 := by
  intro i hi
  rw [List.length_append] at hi
  by_cases e : i = t.length
  · subst e; rw [q_getl]
  · have hi2 : i < t.length := by simp at hi; omega
    rw [q_geta t _ hi2]; exact hp i hi2
theorem qtg_ex {M : Nat → Int32} (hV : qs_V M) {l T : List Nat} (hok : qz_ok M l T) : ∀ (r : Nat) (t : List Nat), T.length = t.length + r → (∀ i, i < t.length → T.getD i 0 = t.getD i 0) → ∃ y, qtg M l r t = some y
  | 0, t, h, hp => ⟨t, rfl⟩
  | r + 1, t, h, hp => by
    have n8 := qv_n8 hV
    have hi := hok t.length (by omega)
    have hs := qz_frn hi.1
    obtain ⟨y, hy⟩ := qtg_ex hV hok r (t ++ [T.getD t.length 0]) (by simp; omega) (qz_app hp)
    refine qfs_ex (k := T.getD t.length 0) (x := y) (Nat.zero_le _) (by omega) ?_
    rw [hi.1, Bool.true_and, if_pos]
    · exact hy
    · unfold qz_ag
      refine decide_eq_true (qm_0.mpr (fun j hj => ?_))
      rw [← hp j hj]
      exact hi.2 j hj
theorem qlf_ok {M : Nat → Int32} (hV : qs_V M) {l : List Nat} (og : qz_og M l = true) : (qlf M l).isSome = true ↔ ∃ T : List Nat, T.length = l.length ∧ qz_ok M l T := by
  unfold qlf
  rw [og, if_pos rfl]
  constructor
  · intro h
    cases e : qtg M l l.length [] with
    | none => rw [e] at h; cases h
    | some T =>
      have := qtg_ok l.length [] T (fun i hi => by simp at hi) e
      refine ⟨T, ?_, this.1⟩
      have h2 := this.2
      simp at h2; omega
  · rintro ⟨T, h1, h2⟩
    obtain ⟨y, hy⟩ := qtg_ex hV h2 l.length [] (by simp; omega) (fun i hi => by simp at hi)
    rw [hy]; rfl
theorem qx_try {σ : gS} {M : Nat → Int32} (h : qr_R (qr_b σ 24) M) (hT : qx_T σ 19 M) {l : List Nat} (hl3 : l.length ≤ 3) (hio : ∀ k, k ∈ l → k < 20 ∧ qs_io M k = true) (h12 : qz_L σ 12 l) {b : Nat} (hb : σ 11 3 = nI b) (hb4 : b ≤ 4) :
    ∃ σ', X2_trySet σ 24 (nI l.length) = some σ' ∧ (∀ a, a ≠ 11 → a ≠ 13 → σ' a = σ a) ∧ σ' 11 3 = nI (if l.length < b ∧ (qlf M l).isSome = true then l.length else b) := by
  have hV := h.1
  have n8 := qv_n8 hV
  unfold X2_trySet
  by_cases clt : l.length < b
  · rw [hb, if_pos (nI_lt clt (by omega))]
    have phase1 : ∀ n i, i + n = l.length → gr (X2_trySet_s 24) (0, nI l.length, nI (qm 20 (qz_mv (l.take i))), nI i, σ) = gr (X2_trySet_s 24) (0, nI l.length, nI (qm 20 (qz_mv l)), nI l.length, σ) := by
      intro n
      induction n with
      | zero =>
        intro i hi
        rw [show i = l.length by omega, List.take_length]
      | succ n ih =>
        intro i hi
        have hi2 : i < l.length := by omega
        have hk := hio _ (qz_mem hi2)
        rw [← ih (i + 1) (by omega), gr_eq]
        show (X2_trySet_k0 σ 24 (nI l.length) (nI (qm 20 (qz_mv (l.take i)))) (nI i)).bind _ = _
        unfold X2_trySet_k0
        rw [if_neg (nI_ge hi2 (by omega)), qg_i (show i < 3 by omega) (by decide), qk_c (by omega), h12 i hi2, qk_s, qm_add (by decide) hk.1, qs, qm_congr (fun k _ => (qz_take hi2 k).symm)]
    have h1 := phase1 l.length 0 (by omega)
    have e0 : (0 : Int32) = nI (qm 20 (qz_mv (l.take 0))) := by
      have : qm 20 (qz_mv (l.take 0)) = 0 := qm_0.mpr (fun k _ => by unfold qz_mv; simp)
      rw [this]; rfl
    rw [show ((0 : Nat), nI l.length, (0 : Int32), (0 : Int32), σ) = (0, nI l.length, nI (qm 20 (qz_mv (l.take 0))), nI 0, σ) by rw [← e0]; rfl, h1, gr_eq]
    show ∃ σ', (X2_trySet_k0 σ 24 (nI l.length) (nI (qm 20 (qz_mv l))) (nI l.length)).bind _ = _ ∧ _
    unfold X2_trySet_k0
    rw [if_pos (qk_end (by omega)), qx_rest hV hT l, qs, qb_if]
    cases cog : qz_og M l with
    | false =>
      have e : qlf M l = none := by unfold qlf; rw [cog]; rfl
      rw [if_neg (by decide), qs, e]
      exact ⟨σ, rfl, fun a _ _ => rfl, by rw [if_neg (fun q => by cases q.2)]; exact hb⟩
    | true =>
      rw [if_pos rfl, qs]
      have phase2 : ∀ n i (τ : gS), i + n = l.length → (∀ a, a ≠ 13 → τ a = σ a) → (∀ j, j < i → τ 13 j = nI (qm 8 (qz_fr M l (l.getD j 0)))) → ∃ σ', gr (X2_trySet_s 24) (1, nI l.length, nI (qm 20 (qz_mv l)), nI i, τ) = some σ' ∧ (∀ a, a ≠ 11 → a ≠ 13 → σ' a = σ a) ∧ σ' 11 3 = nI (if l.length < b ∧ (qlf M l).isSome = true then l.length else b) := by
        intro n
        induction n with
        | zero =>
          intro i τ hi o1 o2
          have e : i = l.length := by omega
          subst e
          have hRt : qr_R (qr_b τ 24) M := by rw [qr_bc (σ := σ) (fun a p q => o1 a (by omega))]; exact h
          have h12t : qz_L τ 12 l := qz_L_c h12 (fun j _ => by rw [o1 12 (by decide)])
          have hN : 2 ^ (3 * l.length) ≤ 512 := by
            have : 2 ^ (3 * l.length) ≤ 2 ^ 9 := Nat.pow_le_pow_right (by decide) (by omega)
            exact this
          have eN : (1 : Int32) <<< (((3 : Int32) * nI l.length) &&& 31) = nI (2 ^ (3 * l.length)) := by
            rw [show (3 : Int32) * nI l.length = nI (3 * l.length) from pk_mul 3 _]
            exact qf_shl1 (by omega)
          rw [gr_eq]
          show ∃ σ', (X2_trySet_k1 τ 24 (nI l.length) (nI (qm 20 (qz_mv l))) (nI l.length)).bind _ = _ ∧ _
          unfold X2_trySet_k1
          rw [if_pos (qk_end (by omega)), qs, eN]
          have hl2 := qf_find (step := X2_trySet_s 24) (N := 2 ^ (3 * l.length)) (p := fun ρ => (qfi (qzb M l ρ) l.length 0).isNone) (out := fun _ => g_up τ 11 3 (nI l.length)) (b := τ) (fun ρ => (2, nI l.length, nI (2 ^ (3 * l.length)), nI ρ, τ)) (fun ρ hρ hp => by
            show X2_trySet_k2 τ 24 (nI l.length) (nI (2 ^ (3 * l.length))) (nI ρ) = _
            unfold X2_trySet_k2
            rw [if_neg (qk_ge hρ (by omega)), qx_row hRt hl3 hio h12t o2 (by omega), qs, qb_if, if_neg (by rw [hp]; decide), qk_s]) (fun ρ hρ hp => by
            show X2_trySet_k2 τ 24 (nI l.length) (nI (2 ^ (3 * l.length))) (nI ρ) = _
            unfold X2_trySet_k2
            rw [if_neg (qk_ge hρ (by omega)), qx_row hRt hl3 hio h12t o2 (by omega), qs, qb_if, if_pos hp, ql]) (by
            show X2_trySet_k2 τ 24 (nI l.length) (nI (2 ^ (3 * l.length))) (nI (2 ^ (3 * l.length))) = _
            unfold X2_trySet_k2
            rw [if_pos (qk_end (by omega))]) (2 ^ (3 * l.length)) 0 (by omega)
          have hl2 : gr (X2_trySet_s 24) (2, nI l.length, nI (2 ^ (3 * l.length)), 0, τ) = _ := hl2
          show ∃ σ', gr (X2_trySet_s 24) (2, nI l.length, nI (2 ^ (3 * l.length)), 0, τ) = _ ∧ _
          rw [hl2]
          cases e : qfi (fun ρ => (qfi (qzb M l ρ) l.length 0).isNone) (2 ^ (3 * l.length)) 0 with
          | some ρ =>
            obtain ⟨-, e1, e2, -⟩ := qfi_some e
            obtain ⟨T, t1, t2⟩ := qe_dec ρ l.length
            have hs : (qlf M l).isSome = true := (qlf_ok hV cog).mpr ⟨T, t1, (qzb_ok t2 t1).mp e2⟩
            refine ⟨g_up τ 11 3 (nI l.length), rfl, fun a p q => by rw [qu_a _ _ p]; exact o1 a q, ?_⟩
            rw [qu_at, if_pos ⟨clt, hs⟩]
          | none =>
            refine ⟨τ, rfl, fun a p q => o1 a q, ?_⟩
            rw [if_neg]
            · rw [o1 11 (by decide)]; exact hb
            · rintro ⟨-, q⟩
              obtain ⟨T, t1, t2⟩ := (qlf_ok hV cog).mp q
              obtain ⟨ρ, r1, r2⟩ := qe_enc hl3 (T := T) (fun i hi => by have := qz_frn (t2 i (by omega)).1; omega)
              have := (qzb_ok (M := M) (l := l) (T := T) (ρ := ρ) (fun i hi => (r2 i hi).symm) t1).mpr t2
              have e3 := qfi_none e ρ (Nat.zero_le _) (by omega)
              rw [this] at e3; cases e3
        | succ n ih =>
          intro i τ hi o1 o2
          have hi2 : i < l.length := by omega
          have hk := hio _ (qz_mem hi2)
          have hTt : qx_T τ 19 M := qz_tt hT (fun a p q => o1 a (by omega))
          have e12 : τ 12 i = nI (l.getD i 0) := by rw [o1 12 (by decide)]; exact h12 i hi2
          rw [gr_eq]
          show ∃ σ', (X2_trySet_k1 τ 24 (nI l.length) (nI (qm 20 (qz_mv l))) (nI i)).bind _ = _ ∧ _
          unfold X2_trySet_k1
          rw [if_neg (nI_ge hi2 (by omega)), qg_i (show i < 3 by omega) (by decide), qk_c (by omega), e12, qx_free hV hTt l hk.1 hk.2, qs, ql, qu_at, qk_s]
          by_cases c0 : nI (qm 8 (qz_fr M l (l.getD i 0))) = 0
          · rw [if_pos c0, qs]
            refine ⟨_, rfl, fun a p q => by rw [qu_a _ _ q]; exact o1 a q, ?_⟩
            rw [if_neg]
            · rw [qu_a _ _ (by decide), o1 11 (by decide)]; exact hb
            · rintro ⟨-, q⟩
              obtain ⟨T, t1, t2⟩ := (qlf_ok hV cog).mp q
              have hf := (t2 i (by omega)).1
              have hn := qz_frn hf
              have := (qm_i0 (by decide)).mp c0 (T.getD i 0) (by omega)
              rw [hf] at this; cases this
          · rw [if_neg c0, qs]
            refine ih (i + 1) _ (by omega) (fun a ha => by rw [qu_a _ _ ha]; exact o1 a ha) (fun j hj => ?_)
            by_cases e : j = i
            · subst e; rw [qu_at]
            · rw [qu_j _ _ e]; exact o2 j (by omega)
      exact phase2 l.length 0 σ (by omega) (fun a _ => rfl) (fun j hj => by omega)
  · rw [hb, if_neg (fun q => clt (by have := (qf_lt _ _).mp q; rw [nI_toInt (by omega), nI_toInt (by omega)] at this; omega))]
    exact ⟨σ, rfl, fun a _ _ => rfl, by rw [if_neg (fun q => clt q.1)]; exact hb⟩
