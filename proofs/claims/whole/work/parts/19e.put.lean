/-! ===== a stay is put elsewhere: what changes of the airport M ===== -/
def qs_pt (M : Nat → Int32) (k : Nat) (v : Int32) : Nat → Int32 := fun j => if j = 97 + 7 * (k / 2) + k % 2 then v else M j
section PT
variable {M : Nat → Int32} {k : Nat} {v : Int32}
theorem qpt_ne {j : Nat} (h : j ≠ 97 + 7 * (k / 2) + k % 2) : qs_pt M k v j = M j := if_neg h
theorem qpt_n : qs_n (qs_pt M k v) = qs_n M := by unfold qs_n; rw [qpt_ne (by omega)]
theorem qpt_t : qs_t (qs_pt M k v) = qs_t M := by unfold qs_t; rw [qpt_ne (by omega)]
theorem qpt_is (o : Nat) : qs_is (qs_pt M k v) o = qs_is M o := by unfold qs_is; rw [qpt_t, qpt_ne (by omega)]
theorem qpt_fr (o : Nat) : qs_fr (qs_pt M k v) o = qs_fr M o := by unfold qs_fr; rw [qpt_ne (by omega), qpt_ne (by omega)]
theorem qpt_to (o : Nat) : qs_to (qs_pt M k v) o = qs_to M o := by unfold qs_to; rw [qpt_ne (by omega), qpt_ne (by omega)]
theorem qpt_sz (o : Nat) : qs_sz (qs_pt M k v) o = qs_sz M o := by unfold qs_sz; rw [qpt_ne (by omega)]
theorem qpt_wt (o : Nat) : qs_wt (qs_pt M k v) o = qs_wt M o := by unfold qs_wt; rw [qpt_ne (by omega)]
theorem qpt_li {i j : Nat} (hi : i < 8) (hj : j < 8) : qs_li (qs_pt M k v) i j = qs_li M i j := by unfold qs_li; rw [qpt_ne (by omega)]
theorem qpt_k : qs_on (qs_pt M k v) k = v := by unfold qs_on qs_pt; rw [if_pos rfl]
theorem qpt_o {o : Nat} (h : o ≠ k) : qs_on (qs_pt M k v) o = qs_on M o := by unfold qs_on; rw [qpt_ne (by omega)]
theorem qpt_io {o : Nat} (h : o ≠ k) : qs_io (qs_pt M k v) o = qs_io M o := by unfold qs_io; rw [qpt_is, qpt_o h]
theorem qpt_sn {o : Nat} (h : o ≠ k) : qs_sn (qs_pt M k v) o = qs_sn M o := by unfold qs_sn; rw [qpt_o h]
theorem qpt_iok : qs_io (qs_pt M k v) k = (qs_is M k && decide (0 ≤ v)) := by unfold qs_io; rw [qpt_is, qpt_k]
theorem qpt_snk {s : Nat} (hs : s < 2 ^ 31) : qs_sn (qs_pt M k (nI s)) k = s := by unfold qs_sn; rw [qpt_k, nI_clamp hs]
theorem qpt_w {a s o r : Nat} (hs : s < 8) (hr : r < 8) : qs_w (qs_pt M k v) a s o r = qs_w M a s o r := by
  unfold qs_w
  rw [qpt_fr, qpt_fr, qpt_to, qpt_to, qpt_sz, qpt_sz, qpt_li hs hr, qpt_ne (by omega)]
theorem qpt_hs {o s : Nat} (hs : s < 8) : qs_hs (qs_pt M k v) o s = qs_hs M o s := by
  unfold qs_hs
  rw [qpt_ne (by omega), qpt_ne (by omega), qpt_sz]
theorem qpt_V (hV : qs_V M) (hk : qs_is M k = true) (h1 : -1 ≤ v.toInt) (h2 : v.toInt < qs_n M) : qs_V (qs_pt M k v) := by
  obtain ⟨⟨a1, a2⟩, ⟨a3, a4⟩, a5, a6, a7, a8⟩ := hV
  refine ⟨⟨?_, ?_⟩, ⟨?_, ?_⟩, ?_, fun i hi => ?_, fun i j hi hj => ?_, fun i hi => ?_⟩
  · rw [qpt_n, qpt_ne (by omega)]; exact a1
  · rw [qpt_n]; exact a2
  · rw [qpt_t, qpt_ne (by omega)]; exact a3
  · rw [qpt_t]; exact a4
  · rw [qpt_ne (by omega)]; exact a5
  · rw [qpt_n] at hi
    rw [qpt_ne (by omega), qpt_ne (by omega)]
    exact a6 i hi
  · rw [qpt_n, qpt_li hi hj, qpt_li hj hi]
    exact a7 i j hi hj
  · rw [qpt_t] at hi
    obtain ⟨b1, b2, b3, b4, b5, b6, b7, b8⟩ := a8 i hi
    unfold qs_T
    rw [qpt_n, qpt_ne (j := 93 + 7 * i) (by omega), qpt_ne (j := 94 + 7 * i) (by omega), qpt_ne (j := 95 + 7 * i) (by omega), qpt_ne (j := 96 + 7 * i) (by omega)]
    refine ⟨b1, b2, b3, b4, b5, ?_, ?_, ?_⟩
    · by_cases c : 97 + 7 * i = 97 + 7 * (k / 2) + k % 2
      · unfold qs_pt; rw [if_pos c]; exact ⟨h1, h2⟩
      · rw [qpt_ne c]; exact b6
    · by_cases c : 98 + 7 * i = 97 + 7 * (k / 2) + k % 2
      · unfold qs_pt; rw [if_pos c]; exact ⟨h1, h2⟩
      · rw [qpt_ne c]; exact b7
    · intro q
      by_cases c : 98 + 7 * i = 97 + 7 * (k / 2) + k % 2
      · exfalso
        have e1 : k % 2 = 1 := by omega
        have e2 : k / 2 = i := by omega
        unfold qs_is at hk
        rw [e1, e2, q] at hk
        simp at hk
      · rw [qpt_ne c]; exact b8 q
/-- in conflict, once put there -/
theorem qpt_cl {s o : Nat} (hV : qs_V M) (hs : s < 8) : qs_cl (qs_pt M k v) k s o = qs_cl M k s o := by
  unfold qs_cl
  by_cases c : o = k
  · rw [decide_eq_true c, Bool.not_true, Bool.false_and, Bool.false_and]
  · rw [qpt_io c, qpt_sn c]
    cases c2 : qs_io M o with
    | false => rw [Bool.false_and, Bool.false_and]
    | true =>
      have h1 := (qv_sn hV c2).2
      have h2 := qv_n8 hV
      rw [qpt_w hs (by omega)]
theorem qpt_cf {s o : Nat} (hV : qs_V M) (hk : qs_is M k = true) (hs : s < 8) : qs_cf (qs_pt M k (nI s)) k o = qs_cl M k s o := by
  unfold qs_cf
  rw [qpt_snk (by omega), qpt_cl hV hs, qpt_iok, hk, decide_eq_true (nI_pos' (by omega))]
  rfl
end PT
theorem qp_133 (σ : gS) (k : Nat) (v : Int32) : (qp σ k v) 133 = qs_pt (σ 133) k v := by
  unfold qp
  rw [g_up_eq]
  rfl
theorem qp_ne (σ : gS) (k : Nat) (v : Int32) {a : Nat} (h : a ≠ 133) : (qp σ k v) a = σ a := g_up_ne h
theorem qp_back (σ : gS) (k : Nat) (v : Int32) : qp (qp σ k v) k (qs_on (σ 133) k) = σ := by
  funext a j
  unfold qp g_up qs_on
  by_cases h : a = 133 ∧ j = 97 + 7 * (k / 2) + k % 2
  · rw [if_pos h, h.1, h.2]
  · rw [if_neg h, if_neg h]
/-! why a stay cannot be placed -/
def qs_why (M : Nat → Int32) (k s : Nat) : Nat :=
  if qs_on M k = nI s then 1 else if M (20 + s) = 0 then 2 else if M (12 + s) < qs_sz M k then 3
  else if qm 20 (qs_cl M k s) = 0 then 0 else if qm 20 (fun o => qs_cl M k s o && qs_os M s o) = 0 then 5 else 4
theorem qs_why5 (M : Nat → Int32) (k s : Nat) : qs_why M k s < 6 := by
  unfold qs_why
  split; · decide
  split; · decide
  split; · decide
  split; · decide
  split <;> decide
theorem qc_refusal {σ : gS} {b : Nat} {M : Nat → Int32} (h : qr_R (qr_b σ b) M) {k s : Nat} (hk : qs_is M k = true) (hs : s < qs_n M) : X0_refusal σ b (nI k) (nI s) = some (nI (qs_why M k s)) := by
  have h8 := qv_n8 h.1
  have h3 := qv_k h.1 hk
  unfold X0_refusal qs_why
  rw [qg_i h3 (by decide), qk_c (by omega), qr_ons h hk]
  by_cases c1 : qs_on M k = nI s
  · rw [if_pos c1, if_pos c1]; rfl
  · rw [if_neg c1, if_neg c1, qc_isOpened h hs, qs, qb_if]
    by_cases c2 : M (20 + s) = 0
    · rw [decide_eq_true c2, if_neg (by decide), if_pos c2]; rfl
    · rw [decide_eq_false c2, if_pos (by decide), if_neg c2, qc_isLargeEnough h hs hk, qs, qb_if]
      by_cases c3 : M (12 + s) < qs_sz M k
      · rw [decide_eq_true c3, if_neg (by decide), if_pos c3]; rfl
      · rw [decide_eq_false c3, if_pos (by decide), if_neg c3, qc_clashesOn h hk hs, qs]
        by_cases c4 : qm 20 (qs_cl M k s) = 0
        · rw [c4, if_pos nI_0, if_pos rfl]; rfl
        · rw [if_neg (nI_ne0 (by omega) (qm_small _ (by decide))), if_neg c4, qc_staysOn h (by omega), qs, qf_and, qm_and]
          by_cases c5 : qm 20 (fun o => qs_cl M k s o && qs_os M s o) = 0
          · rw [c5, if_pos nI_0, if_pos rfl]; rfl
          · rw [if_neg (nI_ne0 (by omega) (qm_small _ (by decide))), if_neg c5]; rfl
theorem qd_why {σ : gS} (h : qs_V (σ 133)) {k s : Nat} (hk : qs_is (σ 133) k = true) (hs : s < qs_n (σ 133)) : X7_why σ (nI k) (nI s) = some (nI (qs_why (σ 133) k s), σ) := by
  have h8 := qv_n8 h
  have h3 := qv_k h hk
  unfold X7_why qs_why
  rw [qd_on h3, qs]
  by_cases c1 : qs_on (σ 133) k = nI s
  · rw [if_pos c1, if_pos c1]; rfl
  · rw [if_neg c1, if_neg c1, qk_20p, qg_i (by omega) (by decide), qk_c (by omega)]
    by_cases c2 : σ 133 (20 + s) = 0
    · rw [if_pos c2, if_pos c2]; rfl
    · rw [if_neg c2, if_neg c2, qk_12, qg_i (by omega) (by decide), qk_c (by omega), qd_size h3, qs]
      by_cases c3 : σ 133 (12 + s) < qs_sz (σ 133) k
      · rw [if_neg (fun q => (qf_nle _ _).mp q c3), if_pos c3]; rfl
      · have hV : qs_V (qp σ k (nI s) 133) := by
          rw [qp_133]
          exact qpt_V h hk (by rw [nI_toInt (by omega)]; omega) (by rw [nI_toInt (by omega)]; omega)
        have e : qm 20 (qs_cf (qp σ k (nI s) 133) k) = qm 20 (qs_cl (σ 133) k s) := by
          rw [qp_133]
          exact qm_congr (fun o _ => qpt_cf h hk (by omega))
        rw [if_pos ((qf_nle _ _).mpr c3), if_neg c3, qd_put h3, qs, qd_conflictsOf hV h3, qs, e, qd_put h3, qs, qp_back]
        have hl := qf_find (step := X7_why_s) (N := 20) (b := ((if qm 20 (qs_cl (σ 133) k s) = 0 then (0 : Int32) else 5), σ)) (p := fun o => qs_cl (σ 133) k s o && qs_os (σ 133) s o) (out := fun _ => ((4 : Int32), σ)) (fun i => (nI s, nI (qm 20 (qs_cl (σ 133) k s)), nI i, σ)) (fun i hi hp => ?_) (fun i hi hp => ?_) ?_ 20 0 rfl
        · refine hl.trans ?_
          by_cases c4 : qm 20 (qs_cl (σ 133) k s) = 0
          · have e2 : qfi (fun o => qs_cl (σ 133) k s o && qs_os (σ 133) s o) 20 0 = none := qfi_no (fun o _ ho => by have := qm_0.mp c4 o (by omega); simp [this])
            rw [e2, if_pos c4, if_pos c4]; rfl
          · rw [if_neg c4, if_neg c4]
            by_cases c5 : qm 20 (fun o => qs_cl (σ 133) k s o && qs_os (σ 133) s o) = 0
            · have e2 : qfi (fun o => qs_cl (σ 133) k s o && qs_os (σ 133) s o) 20 0 = none := qfi_no (fun o _ ho => qm_0.mp c5 o (by omega))
              rw [e2, if_pos c5]; rfl
            · rw [if_neg c5]
              cases e2 : qfi (fun o => qs_cl (σ 133) k s o && qs_os (σ 133) s o) 20 0 with
              | none => exact absurd (qm_0.mpr (fun o ho => qfi_none e2 o (Nat.zero_le _) (by omega))) c5
              | some j => rfl
        · show X7_why_k0 σ (nI s) (nI (qm 20 (qs_cl (σ 133) k s))) (nI i) = _
          unfold X7_why_k0
          rw [if_neg (qk_20 hi), qk_s]
          cases c6 : qs_cl (σ 133) k s i with
          | false => rw [if_neg (fun q => by have := (qm_b1 (by decide) hi).mp q; rw [c6] at this; cases this)]
          | true =>
            have c7 : qs_io (σ 133) i = true := by
              unfold qs_cl at c6
              simp only [Bool.and_eq_true] at c6
              exact c6.2.1
            simp only [c6, Bool.true_and] at hp
            rw [if_pos ((qm_b1 (by decide) hi).mpr c6), qd_on hi, qs, if_neg (fun q => by have := (qd_os h (by omega) c7).mp q; rw [hp] at this; cases this)]
        · show X7_why_k0 σ (nI s) (nI (qm 20 (qs_cl (σ 133) k s))) (nI i) = _
          unfold X7_why_k0
          simp only [Bool.and_eq_true] at hp
          have c7 : qs_io (σ 133) i = true := by
            have c6 := hp.1
            unfold qs_cl at c6
            simp only [Bool.and_eq_true] at c6
            exact c6.2.1
          rw [if_neg (qk_20 hi), if_pos ((qm_b1 (by decide) hi).mpr hp.1), qd_on hi, qs, if_pos ((qd_os h (by omega) c7).mpr hp.2)]
        · show X7_why_k0 σ (nI s) (nI (qm 20 (qs_cl (σ 133) k s))) (nI 20) = _
          unfold X7_why_k0
          rw [if_pos qk_e20]
          by_cases c4 : qm 20 (qs_cl (σ 133) k s) = 0
          · rw [c4, if_pos nI_0, if_pos rfl]
          · rw [if_neg (nI_ne0 (by omega) (qm_small _ (by decide))), if_neg c4]
