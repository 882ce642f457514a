/-! ===== the law from its entry, given what each operation must give ===== -/
theorem ac_long : Cond.arrayClass .long ∈ gl := gl_7 (i := 131) (by decide +kernel) rfl
theorem ac_dbl : Cond.arrayClass .double ∈ gl := gl_7 (i := 132) (by decide +kernel) rfl
set_option maxHeartbeats 4000000 in
set_option maxRecDepth 100000 in
theorem start_of {Inv : gS → Prop} {σ3 : gS} (hb3 : X7_begin (g_z1 g_z0) = some σ3) (hI : Inv σ3)
    (h_clear : o_clear Inv)
    (h_addStand : o_addStand Inv)
    (h_pair : o_pair Inv)
    (h_setOpen : o_setOpen Inv)
    (h_setBuffer : o_setBuffer Inv)
    (h_stand : o_stand Inv)
    (h_at : o_at Inv)
    (h_gap : o_gap Inv)
    (h_addTurn : o_addTurn Inv)
    (h_turn : o_turn Inv)
    (h_ofStay : o_ofStay Inv)
    (h_place : o_place Inv)
    (h_whyNot : o_whyNot Inv)
    (h_options : o_options Inv)
    (h_cheapest : o_cheapest Inv)
    (h_lift : o_lift Inv)
    (h_reason : o_reason Inv)
    (h_tow : o_tow Inv)
    (h_untow : o_untow Inv)
    (h_delay : o_delay Inv)
    (h_assignAll : o_assignAll Inv)
    (h_towGain : o_towGain Inv)
    (h_leastMoves : o_leastMoves Inv)
    (h_leastAgain : o_leastAgain Inv)
    (h_moveOf : o_moveOf Inv)
    (h_repair : o_repair Inv)
    (h_conflicts : o_conflicts Inv)
    (h_account : o_account Inv)
    (h_minutes : o_minutes Inv)
    (h_peak : o_peak Inv)
    (h_meanCost : o_meanCost Inv)
    (h_append : o_append Inv)
    (h_read : o_read Inv)
    (h_errorPosition : o_errorPosition Inv)
    (h_undo : o_undo Inv)
    (h_save : o_save Inv)
    (h_restore : o_restore Inv)
    {p : Program} {e : Env} {s : State} {m : MethodId} {below : List Frame} {meth : Method} {c : Code} (l : Launch) (hflags : l.flags = flags0) {b L : Nat} {xs : Nat → Int32} (hL : L ≤ 2560) (C0 : lw_At p s m meth c b L xs) : W p l e room_1 s m #[Value.ref b] below meth c s.heap [] 0 0 (lw_Z below #[Value.ref b] s) (entryFrame m ([Value.ref b] : List Value).toArray 8) := by
  have hfl : l.stackTraces = false := by
    unfold Launch.stackTraces
    rw [hflags]
    decide
  obtain ⟨hx, hcd, hr, hml, hown, hts, hX, hbl, hlocks, hgv⟩ := id C0
  have hg := flat_of_before _ hgv
  have hA : ∀ a : Nat, a < s.heap.size → ¬ (fun q : Nat => s.heap.size ≤ q) a := fun a h => Nat.not_le.mpr h
  obtain ⟨D, hD0⟩ := st_D hts
  obtain ⟨y, hK⟩ := st_y hts hD0
  have hY : g_Y (fun q : Nat => s.heap.size ≤ q) s s.heap := st_Y hts hg hA
  have hO : va_AO RX0 s := va_AO.of (hts (.arrayOver (.object "StandAssigner$Airport")) (by decide +kernel))
  have htg : ∀ w ∈ gl, w.before #[Value.ref b] s = true := fun w h => hts w (gl_tbl h)
  have hC : g_C p s m #[Value.ref b] c code 8 RL D y := ⟨hx, hcd, hml, hown, htg, hK⟩
  have hW : s_W (fun q : Nat => s.heap.size ≤ q) s.heap D [] s.heap [] := ⟨fun k q h => by simp at h, ⟨fun i j p q h => by simp at h, fun k q h => by simp at h⟩, va_S.rf, fun _ h => h⟩
  have hl := lv_entry ([.ref b]) (n := 8) (Nat.le_of_ble_eq_true rfl)
  rw [lg_entry_eq]
  generalize (lg_sl ([.ref b]) ++ List.replicate (8 - (lg_sl ([.ref b])).length) Slot.unset).toArray = ls at hl ⊢
  have hl : lv_has ls 8 [(0, .ref b)] := hl
  refine s_new (fs := [.null, .null, .null, .null, .null, .null, .null, .null, .int 0, .int 0, .int 0]) (ci := 8) hC hW tyX6 inGX6 tyX6_ok lk_8 it_X6 ii_X6 rfl (fun j hj => by rcases (show j = 0 ∨ j = 1 ∨ j = 2 ∨ j = 3 ∨ j = 4 ∨ j = 5 ∨ j = 6 ∨ j = 7 ∨ j = 8 ∨ j = 9 ∨ j = 10 by omega) with rfl | rfl | rfl | rfl | rfl | rfl | rfl | rfl | rfl | rfl | rfl <;> rfl) ⟨Nat.le_of_ble_eq_true rfl, Nat.le_of_ble_eq_true rfl⟩ dL_law_0 (fun q0 H hW => ?_)
  refine lv_dup hx hcd dL_law_3 rfl ?_
  refine s_callI (ws := []) (rest := [.ref q0]) hC hO hW (c_X6_init l D y q0 _) okI_L_123 ⟨rfl, rfl, Nat.le_of_ble_eq_true rfl, Nat.le_of_ble_eq_true rfl⟩ hl.1 (Nat.le_of_ble_eq_true rfl) dL_law_4 ⟨Nat.le_of_ble_eq_true rfl, Nat.le_of_ble_eq_true rfl⟩ (fun u0 H locs hW => ?_)
  obtain ⟨ad, had⟩ := u0
  replace hW : s_W _ _ D (g_cw y ad g_z0 132) H locs := hW
  refine lv_astore_n (lv' := [(1, .ref q0), (0, .ref b)]) hx hcd dL_law_7 rfl hl (by decide) rfl (fun ls hl => ?_)
  refine s_new (fs := [.null, .null, .null, .null, .int 0, .null, .int 0, .int 0, .int 0, .null, .null, .null, .int 0, .int 0, .int 0, .int 0, .null, .null, .int 0]) (ci := 9) hC hW tyX7 inGX7 tyX7_ok lk_124 it_X7 ii_X7 rfl (fun j hj => by rcases (show j = 0 ∨ j = 1 ∨ j = 2 ∨ j = 3 ∨ j = 4 ∨ j = 5 ∨ j = 6 ∨ j = 7 ∨ j = 8 ∨ j = 9 ∨ j = 10 ∨ j = 11 ∨ j = 12 ∨ j = 13 ∨ j = 14 ∨ j = 15 ∨ j = 16 ∨ j = 17 ∨ j = 18 by omega) with rfl | rfl | rfl | rfl | rfl | rfl | rfl | rfl | rfl | rfl | rfl | rfl | rfl | rfl | rfl | rfl | rfl | rfl | rfl <;> rfl) ⟨Nat.le_of_ble_eq_true rfl, Nat.le_of_ble_eq_true rfl⟩ dL_law_8 (fun q7 H hW => ?_)
  refine lv_dup hx hcd dL_law_11 rfl ?_
  refine s_callA (rest := [.ref q7]) hC hO hW (c_X7_init l D y ad g_z0 q7 _ hb3) okI_L_126 ⟨rfl, rfl, Nat.le_of_ble_eq_true rfl, Nat.le_of_ble_eq_true rfl⟩ hl.1 (Nat.le_of_ble_eq_true rfl) dL_law_12 ⟨Nat.le_of_ble_eq_true rfl, Nat.le_of_ble_eq_true rfl⟩ (fun u1 H locs hW => ?_)
  obtain ⟨ad2, had2, had3⟩ := u1
  replace hW : s_W _ _ D (g_wl y ad2 σ3) H locs := hW
  refine lv_astore_n (lv' := [(2, .ref q7), (1, .ref q0), (0, .ref b)]) hx hcd dL_law_15 rfl hl (by decide) rfl (fun ls hl => ?_)
  refine lv_iconst (v := 1) hx hcd dL_law_16 (by decide) ?_
  obtain ⟨hP, hD, hS, hAA⟩ := hW
  refine va_newa (atype := .long) (ty := .long) (a0 := (1, .inr (.inl fun _ => 0))) hx hcd (htg _ ac_long) rfl hK hP hD hS hAA (fun _ => rfl) (by decide) (by decide) (Nat.le_of_ble_eq_true rfl) (Nat.le_of_ble_eq_true rfl) (Nat.le_of_ble_eq_true rfl) dL_law_17 (fun oa cL H hKL hP hD hS => ?_)
  refine lv_astore_n (lv' := [(3, .ref oa), (2, .ref q7), (1, .ref q0), (0, .ref b)]) hx hcd dL_law_19 rfl hl (by decide) rfl (fun ls hl => ?_)
  refine lv_iconst (v := 1) hx hcd dL_law_20 (by decide) ?_
  refine va_newa (atype := .double) (ty := .double) (a0 := (1, .inr (.inr (.inr (.inl fun _ => 0))))) hx hcd (htg _ ac_dbl) rfl hK hP hD hS hAA (fun _ => rfl) (by decide) (by decide) (Nat.le_of_ble_eq_true rfl) (Nat.le_of_ble_eq_true rfl) (Nat.le_of_ble_eq_true rfl) dL_law_21 (fun od cD H hKD hP hD hS => ?_)
  refine lv_astore (lv' := [(4, .ref od), (3, .ref oa), (2, .ref q7), (1, .ref q0), (0, .ref b)]) hx hcd dL_law_23 hl (by decide) rfl (fun ls hl => ?_)
  refine lv_iconst (v := 0) hx hcd dL_law_25 (by decide) ?_
  refine lv_istore (lv' := [(5, .int 0), (4, .ref od), (3, .ref oa), (2, .ref q7), (1, .ref q0), (0, .ref b)]) hx hcd dL_law_26 hl (by decide) rfl (fun ls hl => ?_)
  have hKL2 : va_K D vwCl [(cL, .long)] s := hKL.sub [3] rfl
  have hKD2 : va_K D vwCl [(cD, .double)] s := hKD.sub [3] rfl
  have hW : g_W (fun q : Nat => s.heap.size ≤ q) s.heap D y ad2 (g_X2 cL cD oa od (fun _ => 0) (fun _ => 0)) σ3 H locs := by
    rw [List.append_assoc] at hP hD
    exact ⟨hP, hD, hS, hAA⟩
  have e1 : ad2 0 = q0 := (had2 0 (by omega)).trans had
  have hl : lv_has ls 8 (g_ll b oa od ad2 (nI (5 * 0))) := by
    have := lv_sub hl [5, 4, 3, 2, 1, 0] rfl
    rw [← e1, ← had3] at this
    exact this
  refine w_loop (C0 := 200) (S0 := 100000) hfl ⟨hC, hKL2, hKD2, hY, hX, hbl⟩ hL h_clear h_addStand h_pair h_setOpen h_setBuffer h_stand h_at h_gap h_addTurn h_turn h_ofStay h_place h_whyNot h_options h_cheapest h_lift h_reason h_tow h_untow h_delay h_assignAll h_towGain h_leastMoves h_leastAgain h_moveOf h_repair h_conflicts h_account h_minutes h_peak h_meanCost h_append h_read h_errorPosition h_undo h_save h_restore (by omega) (by omega) (fun ls H locs cells slots f fd σ h1 h2 hW => ?_) 513 0 (by omega) ls H locs _ _ (fun _ => 0) (fun _ => 0) σ3 hI (Nat.le_of_ble_eq_true rfl) (Nat.le_of_ble_eq_true rfl) hl hW
  refine lv_iconst (v := 1) hx hcd dL_law_2299 (by decide) ?_
  refine va_forget (fun q hq => hW.2.2.1.2.2 q hq) ?_
  refine W.widen h1 h2 ?_
  exact W.base (lw_ret (Drawn.sameBut.refl _ _) hx hcd hr hlocks dL_law_2300)
