/-! ===== repairs: the rows' side, the search ===== -/
theorem qz_bit8 {p : Nat → Bool} {s : Nat} (h : s < 8) : ((nI (qm 8 p) >>> (nI s &&& 31)) &&& (1 : Int32)) = 0 ↔ p s = false := qm_b0 (by decide) h
def qz_L (σ : gS) (i : Nat) (l : List Nat) : Prop := ∀ j, j < l.length → σ i j = nI (l.getD j 0)
theorem qz_L_s {σ : gS} {i : Nat} {l : List Nat} {s : Nat} (h : qz_L σ i l) : qz_L (g_up σ i l.length (nI s)) i (l ++ [s]) := by
  intro j hj
  rw [List.length_append] at hj
  by_cases e : j = l.length
  · subst e; rw [qu_at, q_getl]
  · have hj2 : j < l.length := by simp at hj; omega
    rw [qu_j _ _ e, q_geta l s hj2]; exact h j hj2
theorem qz_L_c {σ σ' : gS} {i : Nat} {l : List Nat} (h : qz_L σ i l) (e : ∀ j, j < l.length → σ' i j = σ i j) : qz_L σ' i l := fun j hj => (e j hj).trans (h j hj)
theorem qc_agrees {σ : gS} {M : Nat → Int32} (h : qr_R (qr_b σ 24) M) {l t : List Nat} (hl3 : l.length ≤ 3) (hio : ∀ k, k ∈ l → k < 20 ∧ qs_io M k = true) (ht : t.length < l.length) (h9 : qz_L σ 9 l) (h10 : qz_L σ 10 t) (htn : ∀ j, j < t.length → t.getD j 0 < qs_n M) {s : Nat} (hs : s < qs_n M) :
    X3_agreesWithEarlier σ 24 (nI t.length) (nI s) = some (qb (qz_ag M l t (l.getD t.length 0) s)) := by
  have h8 := qv_n8 h.1
  have mem : ∀ j, j < l.length → l.getD j 0 ∈ l := fun j hj => by
    rw [List.getD_eq_getElem?_getD, List.getElem?_eq_getElem hj]
    exact List.getElem_mem hj
  have loop : ∀ n j, j + n = t.length → gr (X3_agreesWithEarlier_s σ 24) (nI t.length, nI s, nI j) = some (qb (!(match qfi (fun j => qs_w M (l.getD t.length 0) s (l.getD j 0) (t.getD j 0)) n j with | some _ => true | none => false))) := by
    intro n
    induction n with
    | zero =>
      intro j hj
      rw [show j = t.length by omega, gr_eq]
      show (X3_agreesWithEarlier_k0 σ 24 (nI t.length) (nI s) (nI t.length)).bind _ = _
      unfold X3_agreesWithEarlier_k0
      rw [if_pos (qk_end (by omega)), qs]; rfl
    | succ n ih =>
      intro j hj
      have hj2 : j < t.length := by omega
      have ih2 := ih (j + 1) (by omega)
      have hk1 := hio _ (mem t.length ht)
      have hk2 := hio _ (mem j (by omega))
      rw [gr_eq]
      show (X3_agreesWithEarlier_k0 σ 24 (nI t.length) (nI s) (nI j)).bind _ = _
      unfold X3_agreesWithEarlier_k0 qfi
      rw [if_neg (qk_ge hj2 (by omega)), qg_i (show t.length < 3 by omega) (by decide), qg_i (show j < 3 by omega) (by decide), qk_c (by omega), qk_c (by omega), h9 _ ht, h9 j (by omega), h10 j hj2, qk_s, qc_wouldClash h (qs_io_is hk1.2) hs (qs_io_is hk2.2) (htn j hj2), qs, qb_if]
      cases cw : qs_w M (l.getD t.length 0) s (l.getD j 0) (t.getD j 0) with
      | true => rw [if_pos rfl, if_pos rfl, qs]; rfl
      | false => rw [if_neg (by decide), if_neg (by decide), qs]; exact ih2
  have h1 := loop t.length 0 (by omega)
  refine (show gr (X3_agreesWithEarlier_s σ 24) (nI t.length, nI s, 0) = _ from h1).trans ?_
  congr 2
  unfold qz_ag
  cases e : qfi (fun j => qs_w M (l.getD t.length 0) s (l.getD j 0) (t.getD j 0)) t.length 0 with
  | none => rw [decide_eq_true (qm_0.mpr (fun j hj => qfi_none e j (Nat.zero_le _) (by omega)))]; rfl
  | some j =>
    obtain ⟨-, e1, e2, -⟩ := qfi_some e
    rw [decide_eq_false (fun q => by have := qm_0.mp q j (by omega); rw [e2] at this; cases this)]; rfl
theorem qz_mem {l : List Nat} {j : Nat} (hj : j < l.length) : l.getD j 0 ∈ l := by
  rw [List.getD_eq_getElem?_getD, List.getElem?_eq_getElem hj]
  exact List.getElem_mem hj
theorem qz_frn {M : Nat → Int32} {l : List Nat} {k s : Nat} (h : qz_fr M l k s = true) : s < qs_n M := by
  unfold qz_fr at h
  simp only [Bool.and_eq_true, decide_eq_true_eq] at h
  exact h.1.1.1
theorem qc_stands {M : Nat → Int32} {l : List Nat} (hl3 : l.length ≤ 3) (hio : ∀ k, k ∈ l → k < 20 ∧ qs_io M k = true) : ∀ (r : Nat) (t : List Nat) (d : Nat) (σ : gS), r + 1 ≤ d → t.length + r = l.length → qr_R (qr_b σ 24) M → σ 7 4 = nI l.length → qz_L σ 9 l → (∀ i, i < l.length → σ 8 i = nI (qm 8 (qz_fr M l (l.getD i 0)))) → qz_L σ 10 t → qz_ok M l t →
    ∃ σ', X3_chooseStands d σ 24 (nI t.length) = some (qb (qtg M l r t).isSome, σ') ∧ (∀ a, a ≠ 10 → σ' a = σ a) ∧ (∀ j, j < t.length → σ' 10 j = σ 10 j) ∧ ∀ T, qtg M l r t = some T → qz_L σ' 10 T := by
  intro r
  induction r with
  | zero =>
    intro t d σ hd hlen h h7 h9 h8 h10 hok
    obtain ⟨d', rfl⟩ : ∃ d', d = d' + 1 := ⟨d - 1, by omega⟩
    refine ⟨σ, ?_, fun a _ => rfl, fun j _ => rfl, fun T hT => ?_⟩
    · show X3_chooseStands_e (X3_chooseStands d') σ 24 (nI t.length) = _
      unfold X3_chooseStands_e
      rw [h7, if_pos (nI_le (by omega) (by omega))]; rfl
    · have : some t = some T := hT
      cases this
      exact h10
  | succ r ih =>
    intro t d σ hd hlen h h7 h9 h8 h10 hok
    obtain ⟨d', rfl⟩ : ∃ d', d = d' + 1 := ⟨d - 1, by omega⟩
    have n8 := qv_n8 h.1
    have htl : t.length < l.length := by omega
    have loop : ∀ n i (τ : gS), i + n = 8 → (∀ a, a ≠ 10 → τ a = σ a) → (∀ j, j < t.length → τ 10 j = σ 10 j) → ∃ σ', gr (X3_chooseStands_s (X3_chooseStands d') 24) (nI t.length, nI i, τ) = some (qb (qfs (fun s => if (qz_fr M l (l.getD t.length 0) s && qz_ag M l t (l.getD t.length 0) s) = true then qtg M l r (t ++ [s]) else none) n i).isSome, σ') ∧ (∀ a, a ≠ 10 → σ' a = σ a) ∧ (∀ j, j < t.length → σ' 10 j = σ 10 j) ∧ ∀ T, qfs (fun s => if (qz_fr M l (l.getD t.length 0) s && qz_ag M l t (l.getD t.length 0) s) = true then qtg M l r (t ++ [s]) else none) n i = some T → qz_L σ' 10 T := by
      intro n
      induction n with
      | zero =>
        intro i τ hi o1 o2
        refine ⟨τ, ?_, o1, o2, fun T hT => by cases hT⟩
        rw [show i = 8 by omega, gr_eq]
        show (X3_chooseStands_k0 (X3_chooseStands d') τ 24 (nI t.length) (nI 8)).bind _ = _
        unfold X3_chooseStands_k0
        rw [if_pos qk_e8, qs]; rfl
      | succ n ihn =>
        intro i τ hi o1 o2
        have hi8 : i < 8 := by omega
        have hRt : qr_R (qr_b τ 24) M := by rw [qr_bc (σ := σ) (fun a p q => o1 a (by omega))]; exact h
        have e8 : τ 8 t.length = nI (qm 8 (qz_fr M l (l.getD t.length 0))) := by rw [o1 8 (by decide)]; exact h8 _ htl
        have h9t : qz_L τ 9 l := qz_L_c h9 (fun j _ => by rw [o1 9 (by decide)])
        have h10t : qz_L τ 10 t := qz_L_c h10 o2
        have next := ihn (i + 1) τ (by omega) o1 o2
        rw [gr_eq]
        show ∃ σ', (X3_chooseStands_k0 (X3_chooseStands d') τ 24 (nI t.length) (nI i)).bind _ = _ ∧ _
        unfold X3_chooseStands_k0
        rw [if_neg (qk_8 hi8), qg_i (show t.length < 3 by omega) (by decide), qk_c (by omega), e8, qk_s, qk_s]
        cases cf : qz_fr M l (l.getD t.length 0) i with
        | false =>
          rw [if_pos ((qz_bit8 hi8).mpr cf), qs, qfs_n (by rw [cf]; rfl)]
          exact next
        | true =>
          have hin := qz_frn cf
          rw [if_neg (fun q => by have := (qz_bit8 hi8).mp q; rw [cf] at this; cases this), qc_agrees hRt hl3 hio htl h9t h10t (fun j hj => qz_frn (hok j hj).1) hin, qs, qb_if]
          cases ca : qz_ag M l t (l.getD t.length 0) i with
          | false =>
            rw [if_neg (by decide), qs, qfs_n (by rw [cf, ca]; rfl)]
            exact next
          | true =>
            rw [if_pos rfl, ql]
            have hok2 : qz_ok M l (t ++ [i]) := qz_ok_s.mpr ⟨hok, by rw [cf, ca]; rfl⟩
            obtain ⟨σ2, k1, k2, k3, k4⟩ := ih (t ++ [i]) d' (g_up τ 10 t.length (nI i)) (by omega) (by simp; omega) (by rw [qr_bc (σ := τ) (fun a p q => qu_a _ _ (by omega))]; exact hRt) (by rw [qu_a _ _ (by decide), o1 7 (by decide)]; exact h7) (qz_L_c h9t (fun j _ => by rw [qu_a _ _ (by decide)])) (fun j hj => by rw [qu_a _ _ (by decide), o1 8 (by decide)]; exact h8 j hj) (qz_L_s h10t) hok2
            have el : (t ++ [i]).length = t.length + 1 := by simp
            rw [el] at k1 k3
            have o1' : ∀ a, a ≠ 10 → σ2 a = σ a := fun a ha => by rw [k2 a ha, qu_a _ _ ha, o1 a ha]
            have o2' : ∀ j, j < t.length → σ2 10 j = σ 10 j := fun j hj => by rw [k3 j (by omega), qu_j _ _ (by omega), o2 j hj]
            rw [k1, qs]
            show ∃ σ', Option.bind (if qb (qtg M l r (t ++ [i])).isSome = 0 then _ else _) _ = _ ∧ _
            rw [qb_if]
            cases cq : qtg M l r (t ++ [i]) with
            | none =>
              rw [if_neg (by decide), qs, qfs_n (by rw [cf, ca]; exact cq)]
              exact ihn (i + 1) σ2 (by omega) o1' o2'
            | some T =>
              rw [if_pos (show (some T).isSome = true from rfl), qs, qfs_s (x := T) (by rw [cf, ca]; exact cq)]
              exact ⟨σ2, rfl, o1', o2', fun T' hT => by cases hT; exact k4 T cq⟩
    obtain ⟨σ', k1, k2, k3, k4⟩ := loop 8 0 σ (by omega) (fun a _ => rfl) (fun j _ => rfl)
    refine ⟨σ', ?_, k2, k3, k4⟩
    show X3_chooseStands_e (X3_chooseStands d') σ 24 (nI t.length) = _
    unfold X3_chooseStands_e
    rw [h7, if_neg (nI_ge htl (by omega)), if_pos (show nI t.length < 3 from nI_lt (b := 3) (by omega) (by decide))]
    exact k1
theorem qz_take {l : List Nat} {i : Nat} (hi : i < l.length) (k : Nat) : qz_mv (l.take (i + 1)) k = (qz_mv (l.take i) k || decide (k = l.getD i 0)) := by
  unfold qz_mv
  have e : l.take (i + 1) = l.take i ++ [l.getD i 0] := by
    rw [List.take_succ, List.getD_eq_getElem?_getD, List.getElem?_eq_getElem hi]
    rfl
  rw [e, Bool.eq_iff_iff]
  simp
theorem qc_canBeMoved {σ : gS} {M : Nat → Int32} {l : List Nat} (hV : qs_V M) (hl3 : l.length ≤ 3) (hio : ∀ k, k ∈ l → k < 20 ∧ qs_io M k = true) (hT : qx_T σ 14 M) (h7 : σ 7 4 = nI l.length) (h9 : qz_L σ 9 l) :
    ∃ v σ', X3_canBeMoved σ = some (qb v, σ') ∧ (∀ a, a ≠ 8 → σ' a = σ a) ∧ (v = true → qz_og M l = true ∧ ∀ i, i < l.length → σ' 8 i = nI (qm 8 (qz_fr M l (l.getD i 0)))) ∧ (v = false → qlf M l = none) := by
  have e0 : (0 : Int32) = nI (qm 20 (qz_mv (l.take 0))) := by
    have : qm 20 (qz_mv (l.take 0)) = 0 := qm_0.mpr (fun k _ => by unfold qz_mv; simp)
    rw [this]; rfl
  have phase1 : ∀ n i, i + n = l.length → gr X3_canBeMoved_s (0, nI (qm 20 (qz_mv (l.take i))), nI i, σ) = gr X3_canBeMoved_s (0, nI (qm 20 (qz_mv l)), nI l.length, σ) := by
    intro n
    induction n with
    | zero =>
      intro i hi
      rw [show i = l.length by omega, List.take_length]
    | succ n ih =>
      intro i hi
      have hi2 : i < l.length := by omega
      have hk := hio _ (qz_mem hi2)
      rw [← ih (i + 1) (by omega), gr_eq]
      show (X3_canBeMoved_k0 σ (nI (qm 20 (qz_mv (l.take i)))) (nI i)).bind _ = _
      unfold X3_canBeMoved_k0
      rw [h7, if_neg (nI_ge hi2 (by omega)), qg_i (show i < 3 by omega) (by decide), qk_c (by omega), h9 i hi2, qk_s, qm_add (by decide) hk.1, qs, qm_congr (fun k _ => (qz_take hi2 k).symm)]
  have h1 := phase1 l.length 0 (by omega)
  unfold X3_canBeMoved
  rw [show ((0 : Nat), (0 : Int32), (0 : Int32), σ) = (0, nI (qm 20 (qz_mv (l.take 0))), nI 0, σ) by rw [← e0]; rfl, h1, gr_eq]
  show ∃ v σ', (X3_canBeMoved_k0 σ (nI (qm 20 (qz_mv l))) (nI l.length)).bind _ = _ ∧ _
  unfold X3_canBeMoved_k0
  rw [h7, if_pos (qk_end (by omega)), qx_rest hV hT l, qs, qb_if]
  cases cog : qz_og M l with
  | false =>
    refine ⟨false, σ, by rw [if_neg (by decide), qs]; rfl, fun a _ => rfl, fun q => absurd q (by decide), fun _ => ?_⟩
    unfold qlf
    rw [cog]; rfl
  | true =>
    rw [if_pos rfl, qs]
    have phase2 : ∀ n i (τ : gS), i + n = l.length → (∀ a, a ≠ 8 → τ a = σ a) → (∀ j, j < i → τ 8 j = nI (qm 8 (qz_fr M l (l.getD j 0)))) → ∃ v σ', gr X3_canBeMoved_s (1, nI (qm 20 (qz_mv l)), nI i, τ) = some (qb v, σ') ∧ (∀ a, a ≠ 8 → σ' a = σ a) ∧ (v = true → true = true ∧ ∀ i, i < l.length → σ' 8 i = nI (qm 8 (qz_fr M l (l.getD i 0)))) ∧ (v = false → qlf M l = none) := by
      intro n
      induction n with
      | zero =>
        intro i τ hi o1 o2
        have e : i = l.length := by omega
        subst e
        refine ⟨true, τ, ?_, o1, fun _ => ⟨rfl, o2⟩, fun q => by cases q⟩
        rw [gr_eq]
        show (X3_canBeMoved_k1 τ (nI (qm 20 (qz_mv l))) (nI l.length)).bind _ = _
        unfold X3_canBeMoved_k1
        rw [o1 7 (by decide), h7, if_pos (qk_end (by omega)), qs]; rfl
      | succ n ih =>
        intro i τ hi o1 o2
        have hi2 : i < l.length := by omega
        have hk := hio _ (qz_mem hi2)
        have hTt : qx_T τ 14 M := by
          unfold qx_T at hT ⊢
          rw [o1 14 (by decide), o1 (14 + 4) (by decide), o1 (14 + 3) (by decide), o1 (14 + 2) (by decide), o1 (14 + 1) (by decide)]
          exact hT
        have e9 : τ 9 i = nI (l.getD i 0) := by rw [o1 9 (by decide)]; exact h9 i hi2
        rw [gr_eq]
        show ∃ v σ', (X3_canBeMoved_k1 τ (nI (qm 20 (qz_mv l))) (nI i)).bind _ = _ ∧ _
        unfold X3_canBeMoved_k1
        rw [o1 7 (by decide), h7, if_neg (nI_ge hi2 (by omega)), qg_i (show i < 3 by omega) (by decide), qk_c (by omega), e9, qx_free hV hTt l hk.1 hk.2, qs, ql, qu_at, qk_s]
        by_cases c0 : nI (qm 8 (qz_fr M l (l.getD i 0))) = 0
        · rw [if_pos c0, qs]
          refine ⟨false, _, rfl, fun a ha => by rw [qu_a _ _ ha]; exact o1 a ha, fun q => absurd q (by decide), fun _ => ?_⟩
          unfold qlf
          rw [cog, if_pos rfl]
          cases cq : qtg M l l.length [] with
          | none => rfl
          | some T =>
            exfalso
            have ok := qtg_ok l.length [] T (fun i hi => by simp at hi) cq
            have hf := (ok.1 i (by have := ok.2; simp at this; omega)).1
            have hn := qz_frn hf
            have n8 := qv_n8 hV
            have := (qm_i0 (by decide)).mp c0 (T.getD i 0) (by omega)
            rw [hf] at this; cases this
        · rw [if_neg c0, qs]
          refine ih (i + 1) _ (by omega) (fun a ha => by rw [qu_a _ _ ha]; exact o1 a ha) (fun j hj => ?_)
          by_cases e : j = i
          · subst e; rw [qu_at]
          · rw [qu_j _ _ e]; exact o2 j (by omega)
    exact phase2 l.length 0 σ (by omega) (fun a _ => rfl) (fun j hj => by omega)
theorem qz_tt {σ σ' : gS} {c : Nat} {M : Nat → Int32} (hT : qx_T σ c M) (h : ∀ a, c ≤ a → a < c + 5 → σ' a = σ a) : qx_T σ' c M := by
  unfold qx_T at hT ⊢
  rw [h c (by omega) (by omega), h (c + 4) (by omega) (by omega), h (c + 3) (by omega) (by omega), h (c + 2) (by omega) (by omega), h (c + 1) (by omega) (by omega)]
  exact hT
/-- what a search leaves: the moves, if there are some -/
def qz_res (σ : gS) (o : Option (List Nat × List Nat)) : Prop := ∀ L T, o = some (L, T) → qz_L σ 9 L ∧ qz_L σ 10 T
theorem qc_stays {M : Nat → Int32} {m : Nat} (hm3 : m ≤ 3) : ∀ (r a : Nat) (l : List Nat) (d : Nat) (σ : gS), r + 1 ≤ d → l.length + r = m → a ≤ 20 → qz_asc M l a → qr_R (qr_b σ 24) M → qx_T σ 14 M → σ 7 4 = nI m → qz_L σ 9 l →
    ∃ σ', X3_chooseStays d σ 24 (nI l.length) (nI (qcnt a (qs_io M))) = some (qb (qlg M r a l).isSome, σ') ∧ (∀ a, a ≠ 8 → a ≠ 9 → a ≠ 10 → σ' a = σ a) ∧ (∀ j, j < l.length → σ' 9 j = σ 9 j) ∧ qz_res σ' (qlg M r a l) := by
  intro r
  induction r with
  | zero =>
    intro a l d σ hd hlen ha hasc h hT h7 h9
    obtain ⟨d', rfl⟩ : ∃ d', d = d' + 1 := ⟨d - 1, by omega⟩
    have hV := h.1
    have hlm : l.length = m := by omega
    have hio : ∀ k, k ∈ l → k < 20 ∧ qs_io M k = true := fun k hk => (hasc.1 k hk).2
    show ∃ σ', X3_chooseStays_e (X3_chooseStays d') σ 24 (nI l.length) (nI (qcnt a (qs_io M))) = _ ∧ _
    unfold X3_chooseStays_e
    rw [h7, hlm, if_pos (qk_end (by omega))]
    obtain ⟨v, σ1, k1, k2, k3, k4⟩ := qc_canBeMoved hV (by omega) hio hT (by rw [h7, hlm]) h9
    rw [k1, qs]
    show ∃ σ', (if qb v = 0 then _ else _) = some (qb ((qlf M l).map (fun t => (l, t))).isSome, σ') ∧ _ ∧ _ ∧ qz_res σ' ((qlf M l).map (fun t => (l, t)))
    rw [qb_if]
    cases v with
    | false =>
      rw [k4 rfl, if_neg (by decide)]
      exact ⟨σ1, rfl, fun a p _ _ => k2 a p, fun j _ => by rw [k2 9 (by decide)], fun L T e => by cases e⟩
    | true =>
      obtain ⟨og, f8⟩ := k3 rfl
      obtain ⟨σ2, s1, s2, s3, s4⟩ := qc_stands (M := M) (l := l) (by omega) hio l.length [] 4 σ1 (by omega) (by simp) (by rw [qr_bc (σ := σ) (fun a p q => k2 a (by omega))]; exact h) (by rw [k2 7 (by decide), h7, hlm]) (qz_L_c h9 (fun j _ => by rw [k2 9 (by decide)])) f8 (fun j hj => by simp at hj) (fun i hi => by simp at hi)
      have s1 : X3_chooseStands 4 σ1 24 0 = some (qb (qtg M l l.length []).isSome, σ2) := s1
      have el : qlf M l = qtg M l l.length [] := by unfold qlf; rw [og, if_pos rfl]
      rw [if_pos rfl, s1, qs, el]
      show ∃ σ', (if qb (qtg M l l.length []).isSome = 0 then _ else _) = _ ∧ _
      rw [qb_if]
      have o : ∀ a, a ≠ 8 → a ≠ 9 → a ≠ 10 → σ2 a = σ a := fun a p q z => by rw [s2 a z, k2 a p]
      have o9 : ∀ j, j < m → σ2 9 j = σ 9 j := fun j _ => by rw [s2 9 (by decide), k2 9 (by decide)]
      cases cq : qtg M l l.length [] with
      | none =>
        rw [if_neg (by decide)]
        exact ⟨σ2, rfl, o, o9, fun L T e => by cases e⟩
      | some T0 =>
        rw [if_pos (show (some T0).isSome = true from rfl)]
        refine ⟨σ2, rfl, o, o9, fun L T e => ?_⟩
        have e3 : (l, T0) = (L, T) := Option.some.inj e
        have e4 : l = L := congrArg Prod.fst e3
        have e5 : T0 = T := congrArg Prod.snd e3
        rw [← e4, ← e5]
        exact ⟨qz_L_c h9 (fun j hj => o9 j (by omega)), s4 T0 cq⟩
  | succ r ih =>
    intro a l d σ hd hlen ha hasc h hT h7 h9
    obtain ⟨d', rfl⟩ : ∃ d', d = d' + 1 := ⟨d - 1, by omega⟩
    have hlm : l.length < m := by omega
    have loop : ∀ n k (τ : gS), k + n = 20 → a ≤ k → (∀ a, a ≠ 8 → a ≠ 9 → a ≠ 10 → τ a = σ a) → (∀ j, j < l.length → τ 9 j = σ 9 j) → ∃ σ', gr (X3_chooseStays_s (X3_chooseStays d') 24) (nI l.length, nI (qcnt k (qs_io M)), τ) = some (qb (qfs (fun k => if qs_io M k = true then qlg M r (k + 1) (l ++ [k]) else none) n k).isSome, σ') ∧ (∀ a, a ≠ 8 → a ≠ 9 → a ≠ 10 → σ' a = σ a) ∧ (∀ j, j < l.length → σ' 9 j = σ 9 j) ∧ qz_res σ' (qfs (fun k => if qs_io M k = true then qlg M r (k + 1) (l ++ [k]) else none) n k) := by
      intro n
      induction n with
      | zero =>
        intro k τ hk hak o1 o2
        refine ⟨τ, ?_, o1, o2, fun L T e => by cases e⟩
        rw [show k = 20 by omega, gr_eq]
        show (X3_chooseStays_k0 (X3_chooseStays d') τ 24 (nI l.length) (nI (qcnt 20 (qs_io M)))).bind _ = _
        unfold X3_chooseStays_k0
        rw [o1 14 (by decide) (by decide) (by decide), hT.2.2.1, if_pos (qk_end (by have := qcnt_le 20 (qs_io M); omega)), qs]; rfl
      | succ n ihn =>
        intro k τ hk hak o1 o2
        have k20 : k < 20 := by omega
        cases cio : qs_io M k with
        | false =>
          rw [qfs_n (by rw [cio]; rfl)]
          have := ihn (k + 1) τ (by omega) (by omega) o1 o2
          rw [qcnt_n cio] at this
          exact this
        | true =>
          obtain ⟨m1, -, -, -⟩ := hT.2.2.2 k k20 cio
          have hlt : qcnt k (qs_io M) < qcnt 20 (qs_io M) := by
            have h2 := qcnt_y cio
            have : ∀ d, qcnt (k + 1) (qs_io M) ≤ qcnt (k + 1 + d) (qs_io M) := by
              intro d
              induction d with
              | zero => exact Nat.le_refl _
              | succ d ih =>
                rw [← Nat.add_assoc]
                show _ ≤ qcnt (k + 1 + d) (qs_io M) + _
                omega
            have := this (20 - (k + 1))
            rw [show k + 1 + (20 - (k + 1)) = 20 by omega] at this
            omega
          have hle := qcnt_le 20 (qs_io M)
          have h9t : qz_L τ 9 l := qz_L_c h9 o2
          rw [gr_eq]
          show ∃ σ', (X3_chooseStays_k0 (X3_chooseStays d') τ 24 (nI l.length) (nI (qcnt k (qs_io M)))).bind _ = _ ∧ _
          unfold X3_chooseStays_k0
          rw [o1 14 (by decide) (by decide) (by decide), hT.2.2.1, if_neg (qk_ge hlt (by omega)), qg_i (show qcnt k (qs_io M) < 20 by omega) (by decide), qg_i (show l.length < 3 by omega) (by decide), qk_c (by omega), qk_c (by omega), o1 (14 + 4) (by decide) (by decide) (by decide), m1, qk_s, qk_s, ql]
          obtain ⟨σ2, j1, j2, j3, j4⟩ := ih (k + 1) (l ++ [k]) d' (g_up τ 9 l.length (nI k)) (by omega) (by simp; omega) (by omega) (qz_asc_s hasc hak k20 cio) (by rw [qr_bc (σ := σ) (fun a p q => by rw [qu_a _ _ (by omega)]; exact o1 a (by omega) (by omega) (by omega))]; exact h) (qz_tt hT (fun a p q => by rw [qu_a _ _ (by omega)]; exact o1 a (by omega) (by omega) (by omega))) (by rw [qu_a _ _ (by decide), o1 7 (by decide) (by decide) (by decide)]; exact h7) (qz_L_s h9t)
          have el : (l ++ [k]).length = l.length + 1 := by simp
          rw [el, qcnt_y cio] at j1
          rw [el] at j3
          have o1' : ∀ a, a ≠ 8 → a ≠ 9 → a ≠ 10 → σ2 a = σ a := fun a p q z => by rw [j2 a p q z, qu_a _ _ q, o1 a p q z]
          have o2' : ∀ j, j < l.length → σ2 9 j = σ 9 j := fun j hj => by rw [j3 j (by omega), qu_j _ _ (by omega), o2 j hj]
          rw [j1, qs]
          show ∃ σ', Option.bind (if qb (qlg M r (k + 1) (l ++ [k])).isSome = 0 then _ else _) _ = _ ∧ _
          rw [qb_if]
          cases cq : qlg M r (k + 1) (l ++ [k]) with
          | none =>
            rw [if_neg (by decide), qs, qfs_n (by rw [cio]; exact cq)]
            have := ihn (k + 1) σ2 (by omega) (by omega) o1' o2'
            rw [qcnt_y cio] at this
            exact this
          | some x =>
            rw [if_pos (show (some x).isSome = true from rfl), qs, qfs_s (x := x) (by rw [cio]; exact cq)]
            exact ⟨σ2, rfl, o1', o2', by rw [cq] at j4; exact j4⟩
    obtain ⟨σ', k1, k2, k3, k4⟩ := loop (20 - a) a σ (by omega) (Nat.le_refl a) (fun a _ _ _ => rfl) (fun j _ => rfl)
    refine ⟨σ', ?_, k2, k3, k4⟩
    show X3_chooseStays_e (X3_chooseStays d') σ 24 (nI l.length) (nI (qcnt a (qs_io M))) = _
    unfold X3_chooseStays_e
    rw [h7, if_neg (nI_ge hlm (by omega)), if_pos (show nI l.length < 3 from nI_lt (b := 3) (by omega) (by decide))]
    exact k1
