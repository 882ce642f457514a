noncomputable def X5_readEntry_k0 (σ : gS) (k : Nat) (x2 : Int32) : Option ((Int32 × gS) ⊕ (Int32 × gS)) :=
  if (nI (ts_n k)) ≤ x2 then (some (.inr (1, σ))) else (gd (ib x2 (ts_n k)) <| (X5_readSign σ (ts_c k x2)).bind fun q11 => if q11.1 = 0 then (some (.inr (0, q11.2))) else (some (.inl ((x2 + 1), q11.2))))
noncomputable def X5_readEntry_s (k : Nat) (a : Int32 × gS) : Option ((Int32 × gS) ⊕ (Int32 × gS)) :=
  X5_readEntry_k0 a.2 k a.1
noncomputable def X5_readEntry (σ : gS) : Option (Int32 × gS) :=
  if (σ 4 4) < (σ 4 3) then (gd (ib (σ 4 4) 60) <| gd (cz (σ 5 (σ 4 4).toNatClampNeg)) <| lt_ (g_up σ 4 5 (σ 5 (σ 4 4).toNatClampNeg)) fun σ4 => lt_ (shp (σ4 4 5)) fun k => if (if nI (ts_n k) = 0 then (1 : Int32) else 0) = 0 then (lt_ (g_up σ4 4 4 ((σ4 4 4) + (1 : Int32))) fun σ6 => lt_ (g_up σ6 4 2 0) fun σ7 => gr (X5_readEntry_s k) (0, σ7)) else (some (0, σ4))) else (some (0, σ))
set_option maxHeartbeats 4000000 in
set_option maxRecDepth 100000 in
theorem l_X5_readEntry {p : Program} {e : Env} {s : State} {m : MethodId} {args : Array Value} {below : List Frame} {meth : Method} {c : Code} (l : Launch) (D : va_G) (y : ClassId × ClassId × ClassId) (ad : Nat → Nat) (sz : Nat) (hC : g_C p s m args c cX5_readEntry 3 RX5 D y) (hr : meth.sig.returnType = (some .boolean)) (hlk : meth.locks = false) (hsz : s.heap.size = sz) {k : Nat} (hk6 : k < 6) (adK adV : Nat → Nat) (hV : g_V adK adV (g_A ad sz) s s.heap) {r0 : Int32 × gS} : ∀ a : Int32 × gS, gr (X5_readEntry_s k) a = some r0 → ∀ (H : Heap) (locs : List Loc) (ls : Array Slot), g_W (g_A ad sz) s.heap D y ad [] a.2 H locs → lv_has ls 3 [(0, .ref (ad 4)), (1, .ref (adK k)), (2, .int a.1)] → W p l e ({ frames := 4, cells := 0, slots := 0, locals := 90 }) s m args below meth c H locs 0 0 (MQ below (g_Qi D y ad r0.2 sz r0.1) args s 0 0 (g_A ad sz)) (F0 m 60 ls []) := by
  have hx := hC.1
  have hcd := hC.2.1
  refine gr_all (fun a o ho hret hjmp => ?_)
  obtain ⟨x2, σ⟩ := a
  intro H locs ls hW hl
  have ho : X5_readEntry_k0 σ k x2 = some o := ho
  unfold X5_readEntry_k0 at ho
  refine lv_iload_n hx hcd dX5_readEntry_60 rfl (lv_at hl 2 rfl) ?_
  refine lv_aload_n hx hcd dX5_readEntry_61 rfl (lv_at hl 1 rfl) ?_
  refine g_callWS hW (g_runVS (i := k) (As := []) (rest := [.int x2]) (g_fix hC) hV hW.2.2.1 (c_length l adK adV hk6) ok_X5_49 ⟨rfl, rfl, Nat.le_of_ble_eq_true rfl, Nat.le_of_ble_eq_true rfl⟩ hk6 rfl hl.1 rfl (Nat.le_of_ble_eq_true rfl) dX5_readEntry_62 ⟨Nat.zero_le _, Nat.zero_le _⟩) (fun H locs hW => ?_)
  refine lv_icmp_ge (tgt := 88) hx hcd dX5_readEntry_65 (by decide) (fun c8 => ?_) (fun c8 => ?_)
  · have ho := gif_p ho c8
    refine lv_iconst (v := 1) hx hcd dX5_readEntry_88 (by decide) ?_
    obtain rfl := hret _ (Option.some.inj ho).symm
    exact g_zret (r := 1) hC hr hlk hsz hW (by decide) dX5_readEntry_89
  · have ho := gif_n ho c8
    refine lv_aload_n hx hcd dX5_readEntry_68 rfl (lv_at hl 0 rfl) ?_
    refine lv_aload_n hx hcd dX5_readEntry_69 rfl (lv_at hl 1 rfl) ?_
    refine lv_iload_n hx hcd dX5_readEntry_70 rfl (lv_at hl 2 rfl) ?_
    obtain ⟨i9, ho⟩ := gd_some ho
    refine g_callWS hW (g_runVS (i := k) (As := [.int x2]) (rest := [.ref (ad 4)]) (g_fix hC) hV hW.2.2.1 (c_charAt l adK adV hk6 i9) ok_X5_52 ⟨rfl, rfl, Nat.le_of_ble_eq_true rfl, Nat.le_of_ble_eq_true rfl⟩ hk6 rfl hl.1 rfl (Nat.le_of_ble_eq_true rfl) dX5_readEntry_71 ⟨Nat.zero_le _, Nat.zero_le _⟩) (fun H locs hW => ?_)
    obtain ⟨q11, h10, ho⟩ := gb_some ho
    refine g_calli hW (g_runV (As := [.int (ts_c k x2)]) (rest := []) (i := 4) hC hW (c_X5_readSign l D y ad (ts_c k x2) _ _ h10) ok_X5_56 ⟨rfl, rfl, Nat.le_of_ble_eq_true rfl, Nat.le_of_ble_eq_true rfl⟩ (by decide) rfl rfl rfl rfl hl.1 rfl (Nat.le_of_ble_eq_true rfl) dX5_readEntry_74 ⟨Nat.zero_le _, Nat.zero_le _⟩) (fun H locs hW => ?_)
    refine lv_if_ne (tgt := 82) hx hcd dX5_readEntry_77 (by decide) (fun c12 => ?_) (fun c12 => ?_)
    · have ho := gif_n ho c12
      refine lv_iinc (v := x2 + 1) (lv' := [(2, .int (x2 + 1)), (0, .ref (ad 4)), (1, .ref (adK k))]) hx hcd dX5_readEntry_82 hl (k := 2) rfl rfl (by decide) rfl (fun ls hl => ?_)
      refine lv_goto (tgt := 60) hx hcd dX5_readEntry_85 (by decide) ?_
      exact hjmp _ (Option.some.inj ho).symm _ _ _ hW (lv_sub hl [1, 2, 0] rfl)
    · have ho := gif_p ho c12
      refine lv_iconst (v := 0) hx hcd dX5_readEntry_80 (by decide) ?_
      obtain rfl := hret _ (Option.some.inj ho).symm
      exact g_zret (r := 0) hC hr hlk hsz hW (by decide) dX5_readEntry_81
set_option maxHeartbeats 4000000 in
set_option maxRecDepth 100000 in
theorem c_X5_readEntry (l : Launch) (D : va_G) (y : ClassId × ClassId × ClassId) (ad : Nat → Nat) (σ : gS) (sz : Nat) {q : Int32 × gS} (h : X5_readEntry σ = some q) : Met l yX5_readEntry (Cond.code yX5_readEntry cX5_readEntry 3 (some .boolean) :: gl) ({ frames := 4, cells := 0, slots := 0, locals := 90 }) (g_PcX D y ad σ sz [.ref (ad 4)]) (g_Qi D y ad q.2 sz q.1) 0 0 (g_A ad sz) := by
  have ho := h
  unfold X5_readEntry at ho
  refine g_startZ (by decide) (Nat.le_of_ble_eq_true rfl) (fun p e s m below meth c ls hC hr hlk hsz hW hl hZ => ?_)
  have hx := hC.1
  have hcd := hC.2.1
  obtain ⟨adK, adV, hV⟩ := hZ.2.2.2.2
  have hl : lv_has ls 3 [(0, .ref (ad 4))] := hl
  refine lv_aload_n hx hcd dX5_readEntry_0 rfl (lv_at hl 0 rfl) ?_
  refine g_geti hC hW (C := RX5) (T := TX5) (N := 6) (ci := 7) (k := 4) (index := 23) (i := 4) inGX5 rfl (by decide) fl_X5_23 (by decide) rfl rfl dX5_readEntry_1 ?_
  refine lv_aload_n hx hcd dX5_readEntry_4 rfl (lv_at hl 0 rfl) ?_
  refine g_geti hC hW (C := RX5) (T := TX5) (N := 6) (ci := 7) (k := 3) (index := 19) (i := 4) inGX5 rfl (by decide) fl_X5_19 (by decide) rfl rfl dX5_readEntry_5 ?_
  refine lv_icmp_lt (tgt := 13) hx hcd dX5_readEntry_8 (by decide) (fun c1 => ?_) (fun c1 => ?_)
  · have ho := gif_p ho c1
    refine lv_aload_n hx hcd dX5_readEntry_13 rfl (lv_at hl 0 rfl) ?_
    refine lv_aload_n hx hcd dX5_readEntry_14 rfl (lv_at hl 0 rfl) ?_
    refine g_getr hC hW (C := RX5) (T := TX5) (N := 6) (ci := 7) (k := 0) (index := 9) (i := 4) (r := 5) inGX5 rfl (by decide) fl_X5_9 (by decide) rfl rfl dX5_readEntry_15 ?_
    refine lv_aload_n hx hcd dX5_readEntry_18 rfl (lv_at hl 0 rfl) ?_
    refine g_geti hC hW (C := RX5) (T := TX5) (N := 6) (ci := 7) (k := 4) (index := 23) (i := 4) inGX5 rfl (by decide) fl_X5_23 (by decide) rfl rfl dX5_readEntry_19 ?_
    obtain ⟨i2, ho⟩ := gd_some ho
    refine g_cald hC hW (i := 5) (by decide) rfl i2 dX5_readEntry_22 ?_
    obtain ⟨z3, ho⟩ := gd_some ho
    obtain ⟨σ4, eσ4, ho⟩ := lt_ex ho
    refine g_puti hC hW (C := RX5) (T := TX5) (N := 6) (ci := 7) (k := 5) (index := 33) (i := 4) inGX5 tyX5 tyX5_ok nmX5 rfl (by decide) fl_X5_33 rfl (by decide) rfl rfl (cz_n z3) (cz_f z3) dX5_readEntry_23 (fun H locs hW => ?_)
    rw [← eσ4] at hW
    refine lv_aload_n hx hcd dX5_readEntry_26 rfl (lv_at hl 0 rfl) ?_
    refine g_geti hC hW (C := RX5) (T := TX5) (N := 6) (ci := 7) (k := 5) (index := 33) (i := 4) inGX5 rfl (by decide) fl_X5_33 (by decide) rfl rfl dX5_readEntry_27 ?_
    obtain ⟨k, ek, ho⟩ := lt_ex ho
    have hk6 : k < 6 := by rw [ek]; exact shp_lt _
    refine g_callWSr hW (g_runSS (As := [.int (σ4 4 5)]) (rest := []) (g_fix hC) hV hW.2.2.1 (c_shapeOf l adK adV (σ4 4 5)) ok_X5_37 ⟨rfl, rfl, Nat.le_of_ble_eq_true rfl, Nat.le_of_ble_eq_true rfl⟩ rfl hl.1 rfl (Nat.le_of_ble_eq_true rfl) dX5_readEntry_30 ⟨Nat.zero_le _, Nat.zero_le _⟩) (fun H locs hW => ?_)
    rw [← ek]
    refine lv_astore_n (lv' := [(1, .ref (adK k)), (0, .ref (ad 4))]) hx hcd dX5_readEntry_33 rfl hl (by decide) rfl (fun ls hl => ?_)
    refine lv_aload_n hx hcd dX5_readEntry_34 rfl (lv_at hl 0 rfl) ?_
    refine g_callWS hW (g_runVS (i := k) (As := []) (rest := []) (g_fix hC) hV hW.2.2.1 (c_isEmpty l adK adV hk6) ok_X5_41 ⟨rfl, rfl, Nat.le_of_ble_eq_true rfl, Nat.le_of_ble_eq_true rfl⟩ hk6 rfl hl.1 rfl (Nat.le_of_ble_eq_true rfl) dX5_readEntry_35 ⟨Nat.zero_le _, Nat.zero_le _⟩) (fun H locs hW => ?_)
    refine lv_if_eq (tgt := 43) hx hcd dX5_readEntry_38 (by decide) (fun c5 => ?_) (fun c5 => ?_)
    · have ho := gif_p ho c5
      refine lv_aload_n hx hcd dX5_readEntry_43 rfl (lv_at hl 1 rfl) ?_
      refine lv_dup hx hcd dX5_readEntry_44 rfl ?_
      refine g_geti hC hW (C := RX5) (T := TX5) (N := 6) (ci := 7) (k := 4) (index := 23) (i := 4) inGX5 rfl (by decide) fl_X5_23 (by decide) rfl rfl dX5_readEntry_45 ?_
      refine lv_iconst (v := 1) hx hcd dX5_readEntry_48 (by decide) ?_
      refine lv_iadd hx hcd dX5_readEntry_49 ?_
      obtain ⟨σ6, eσ6, ho⟩ := lt_ex ho
      refine g_puti hC hW (C := RX5) (T := TX5) (N := 6) (ci := 7) (k := 4) (index := 23) (i := 4) inGX5 tyX5 tyX5_ok nmX5 rfl (by decide) fl_X5_23 rfl (by decide) rfl rfl rfl rfl dX5_readEntry_50 (fun H locs hW => ?_)
      rw [← eσ6] at hW
      refine lv_aload_n hx hcd dX5_readEntry_53 rfl (lv_at hl 1 rfl) ?_
      refine lv_iconst (v := 0) hx hcd dX5_readEntry_54 (by decide) ?_
      obtain ⟨σ7, eσ7, ho⟩ := lt_ex ho
      refine g_puti hC hW (C := RX5) (T := TX5) (N := 6) (ci := 7) (k := 2) (index := 46) (i := 4) inGX5 tyX5 tyX5_ok nmX5 rfl (by decide) fl_X5_46 rfl (by decide) rfl rfl rfl rfl dX5_readEntry_55 (fun H locs hW => ?_)
      rw [← eσ7] at hW
      refine lv_iconst (v := 0) hx hcd dX5_readEntry_58 (by decide) ?_
      refine lv_istore_n (lv' := [(2, .int 0), (1, .ref (adK k)), (0, .ref (ad 4))]) hx hcd dX5_readEntry_59 rfl hl (by decide) rfl (fun ls hl => ?_)
      exact l_X5_readEntry l D y ad sz hC hr hlk hsz hk6 adK adV hV _ ho _ _ _ hW (lv_sub hl [2, 1, 0] rfl)
    · have ho := gif_n ho c5
      refine lv_iconst (v := 0) hx hcd dX5_readEntry_41 (by decide) ?_
      obtain rfl := Option.some.inj ho
      exact g_zret (r := 0) hC hr hlk hsz hW (by decide) dX5_readEntry_42
  · have ho := gif_n ho c1
    refine lv_iconst (v := 0) hx hcd dX5_readEntry_11 (by decide) ?_
    obtain rfl := Option.some.inj ho
    exact g_zret (r := 0) hC hr hlk hsz hW (by decide) dX5_readEntry_12
noncomputable def X5_wrongPosition_k0 (σ : gS) (x1 : Int32) : Option ((Int32 × gS) ⊕ (Int32 × gS)) :=
  if 60 ≤ x1 then (some (.inr ((-1), σ))) else (if (σ 4 3) ≤ (σ 4 4) then (some (.inr ((-1), σ))) else ((X5_readEntry σ).bind fun q7 => if q7.1 = 0 then (some (.inr ((q7.2 4 4), q7.2))) else (some (.inl ((x1 + 1), q7.2)))))
noncomputable def X5_wrongPosition_s (a : Int32 × gS) : Option ((Int32 × gS) ⊕ (Int32 × gS)) :=
  X5_wrongPosition_k0 a.2 a.1
noncomputable def X5_wrongPosition (σ : gS) : Option (Int32 × gS) :=
  (X5_goToStart σ).bind fun σ2 => if (σ2 4 3) = 0 then (some (0, σ2)) else (gr (X5_wrongPosition_s) (0, σ2))
set_option maxHeartbeats 4000000 in
set_option maxRecDepth 100000 in
theorem l_X5_wrongPosition {p : Program} {e : Env} {s : State} {m : MethodId} {args : Array Value} {below : List Frame} {meth : Method} {c : Code} (l : Launch) (D : va_G) (y : ClassId × ClassId × ClassId) (ad : Nat → Nat) (sz : Nat) (hC : g_C p s m args c cX5_wrongPosition 2 RX5 D y) (hr : meth.sig.returnType = (some .int)) (hlk : meth.locks = false) (hsz : s.heap.size = sz) (hZ : g_Z (g_A ad sz) s s.heap) {r0 : Int32 × gS} : ∀ a : Int32 × gS, gr (X5_wrongPosition_s) a = some r0 → ∀ (H : Heap) (locs : List Loc) (ls : Array Slot), g_W (g_A ad sz) s.heap D y ad [] a.2 H locs → lv_has ls 2 [(0, .ref (ad 4)), (1, .int a.1)] → W p l e ({ frames := 5, cells := 0, slots := 0, locals := 112 }) s m args below meth c H locs 0 0 (MQ below (g_Qi D y ad r0.2 sz r0.1) args s 0 0 (g_A ad sz)) (F0 m 15 ls []) := by
  have hx := hC.1
  have hcd := hC.2.1
  refine gr_all (fun a o ho hret hjmp => ?_)
  obtain ⟨x1, σ⟩ := a
  intro H locs ls hW hl
  have ho : X5_wrongPosition_k0 σ x1 = some o := ho
  unfold X5_wrongPosition_k0 at ho
  refine lv_iload_n hx hcd dX5_wrongPosition_15 rfl (lv_at hl 1 rfl) ?_
  refine lv_bipush (v := 60) hx hcd dX5_wrongPosition_16 (by decide) ?_
  refine lv_icmp_ge (tgt := 50) hx hcd dX5_wrongPosition_18 (by decide) (fun c4 => ?_) (fun c4 => ?_)
  · have ho := gif_p ho c4
    refine lv_iconst (v := (-1)) hx hcd dX5_wrongPosition_50 (by decide) ?_
    obtain rfl := hret _ (Option.some.inj ho).symm
    exact g_iret hC hr hlk hsz hW dX5_wrongPosition_51
  · have ho := gif_n ho c4
    refine lv_aload_n hx hcd dX5_wrongPosition_21 rfl (lv_at hl 0 rfl) ?_
    refine g_geti hC hW (C := RX5) (T := TX5) (N := 6) (ci := 7) (k := 4) (index := 23) (i := 4) inGX5 rfl (by decide) fl_X5_23 (by decide) rfl rfl dX5_wrongPosition_22 ?_
    refine lv_aload_n hx hcd dX5_wrongPosition_25 rfl (lv_at hl 0 rfl) ?_
    refine g_geti hC hW (C := RX5) (T := TX5) (N := 6) (ci := 7) (k := 3) (index := 19) (i := 4) inGX5 rfl (by decide) fl_X5_19 (by decide) rfl rfl dX5_wrongPosition_26 ?_
    refine lv_icmp_ge (tgt := 50) hx hcd dX5_wrongPosition_29 (by decide) (fun c5 => ?_) (fun c5 => ?_)
    · have ho := gif_p ho c5
      refine lv_iconst (v := (-1)) hx hcd dX5_wrongPosition_50 (by decide) ?_
      obtain rfl := hret _ (Option.some.inj ho).symm
      exact g_iret hC hr hlk hsz hW dX5_wrongPosition_51
    · have ho := gif_n ho c5
      refine lv_aload_n hx hcd dX5_wrongPosition_32 rfl (lv_at hl 0 rfl) ?_
      obtain ⟨q7, h6, ho⟩ := gb_some ho
      refine g_calli hW (g_runZ (As := []) (rest := []) (i := 4) hC hW hZ (c_X5_readEntry l D y ad _ _ h6) ok_X5_29 ⟨rfl, rfl, Nat.le_of_ble_eq_true rfl, Nat.le_of_ble_eq_true rfl⟩ (by decide) rfl rfl rfl rfl hl.1 rfl (Nat.le_of_ble_eq_true rfl) dX5_wrongPosition_33 ⟨Nat.zero_le _, Nat.zero_le _⟩) (fun H locs hW => ?_)
      refine lv_if_ne (tgt := 44) hx hcd dX5_wrongPosition_36 (by decide) (fun c8 => ?_) (fun c8 => ?_)
      · have ho := gif_n ho c8
        refine lv_iinc (v := x1 + 1) (lv' := [(1, .int (x1 + 1)), (0, .ref (ad 4))]) hx hcd dX5_wrongPosition_44 hl (k := 1) rfl rfl (by decide) rfl (fun ls hl => ?_)
        refine lv_goto (tgt := 15) hx hcd dX5_wrongPosition_47 (by decide) ?_
        exact hjmp _ (Option.some.inj ho).symm _ _ _ hW (lv_sub hl [1, 0] rfl)
      · have ho := gif_p ho c8
        refine lv_aload_n hx hcd dX5_wrongPosition_39 rfl (lv_at hl 0 rfl) ?_
        refine g_geti hC hW (C := RX5) (T := TX5) (N := 6) (ci := 7) (k := 4) (index := 23) (i := 4) inGX5 rfl (by decide) fl_X5_23 (by decide) rfl rfl dX5_wrongPosition_40 ?_
        obtain rfl := hret _ (Option.some.inj ho).symm
        exact g_iret hC hr hlk hsz hW dX5_wrongPosition_43
set_option maxHeartbeats 4000000 in
set_option maxRecDepth 100000 in
theorem c_X5_wrongPosition (l : Launch) (D : va_G) (y : ClassId × ClassId × ClassId) (ad : Nat → Nat) (σ : gS) (sz : Nat) {q : Int32 × gS} (h : X5_wrongPosition σ = some q) : Met l yX5_wrongPosition (Cond.code yX5_wrongPosition cX5_wrongPosition 2 (some .int) :: gl) ({ frames := 5, cells := 0, slots := 0, locals := 112 }) (g_PcX D y ad σ sz [.ref (ad 4)]) (g_Qi D y ad q.2 sz q.1) 0 0 (g_A ad sz) := by
  have ho := h
  unfold X5_wrongPosition at ho
  refine g_startZ (by decide) (Nat.le_of_ble_eq_true rfl) (fun p e s m below meth c ls hC hr hlk hsz hW hl hZ => ?_)
  have hx := hC.1
  have hcd := hC.2.1
  have hl : lv_has ls 2 [(0, .ref (ad 4))] := hl
  refine lv_aload_n hx hcd dX5_wrongPosition_0 rfl (lv_at hl 0 rfl) ?_
  obtain ⟨σ2, h1, ho⟩ := gb_some ho
  refine g_callv hW (g_runV (As := []) (rest := []) (i := 4) hC hW (c_X5_goToStart l D y ad _ _ h1) ok_X5_26 ⟨rfl, rfl, Nat.le_of_ble_eq_true rfl, Nat.le_of_ble_eq_true rfl⟩ (by decide) rfl rfl rfl rfl hl.1 rfl (Nat.le_of_ble_eq_true rfl) dX5_wrongPosition_1 ⟨Nat.zero_le _, Nat.zero_le _⟩) (fun H locs hW => ?_)
  refine lv_aload_n hx hcd dX5_wrongPosition_4 rfl (lv_at hl 0 rfl) ?_
  refine g_geti hC hW (C := RX5) (T := TX5) (N := 6) (ci := 7) (k := 3) (index := 19) (i := 4) inGX5 rfl (by decide) fl_X5_19 (by decide) rfl rfl dX5_wrongPosition_5 ?_
  refine lv_if_ne (tgt := 13) hx hcd dX5_wrongPosition_8 (by decide) (fun c3 => ?_) (fun c3 => ?_)
  · have ho := gif_n ho c3
    refine lv_iconst (v := 0) hx hcd dX5_wrongPosition_13 (by decide) ?_
    refine lv_istore_n (lv' := [(1, .int 0), (0, .ref (ad 4))]) hx hcd dX5_wrongPosition_14 rfl hl (by decide) rfl (fun ls hl => ?_)
    exact l_X5_wrongPosition l D y ad sz hC hr hlk hsz hZ _ ho _ _ _ hW (lv_sub hl [1, 0] rfl)
  · have ho := gif_p ho c3
    refine lv_iconst (v := 0) hx hcd dX5_wrongPosition_11 (by decide) ?_
    obtain rfl := Option.some.inj ho
    exact g_iret hC hr hlk hsz hW dX5_wrongPosition_12
noncomputable def X6_read_k0 (σ : gS) (x2 : Int32) (x3 : Int32) : Option ((Int32 × Int32 × gS) ⊕ ((String ⊕ Int32) × gS)) :=
  if x3 = 0 then ((X5_makeEmpty σ).bind fun σ13 => some (.inr (.inl "java/lang/IllegalStateException", σ13))) else (if 60 ≤ x2 then ((X5_makeEmpty σ).bind fun σ16 => (X4_remember σ16 24).bind fun σ18 => (X0_copyFrom σ18 24 36).bind fun σ20 => some (.inr (.inr x2, σ20))) else (if (σ 4 3) ≤ (σ 4 4) then ((X5_makeEmpty σ).bind fun σ23 => (X4_remember σ23 24).bind fun σ25 => (X0_copyFrom σ25 24 36).bind fun σ27 => some (.inr (.inr x2, σ27))) else ((X5_readEntry σ).bind fun q29 => if q29.1 = 0 then (some (.inl ((x2 + 1), 0, q29.2))) else ((X6_doEntry q29.2).bind fun q32 => if q32.1 = 0 then (some (.inl ((x2 + 1), 0, q32.2))) else (some (.inl ((x2 + 1), 1, q32.2)))))))
noncomputable def X6_read_s (a : Int32 × Int32 × gS) : Option ((Int32 × Int32 × gS) ⊕ ((String ⊕ Int32) × gS)) :=
  X6_read_k0 a.2.2 a.1 a.2.1
noncomputable def X6_read (σ : gS) : Option ((String ⊕ Int32) × gS) :=
  (X5_wrongPosition σ).bind fun q2 => if q2.1 < 0 then ((X0_copyFrom q2.2 36 24).bind fun σ5 => (X5_goToStart σ5).bind fun σ7 => gr (X6_read_s) (0, 1, σ7)) else (lt_ (g_up q2.2 0 10 q2.1) fun σ8 => (X5_makeEmpty σ8).bind fun σ10 => some (.inl "java/lang/IllegalArgumentException", σ10))
set_option maxHeartbeats 4000000 in
set_option maxRecDepth 100000 in
theorem l_X6_read {p : Program} {e : Env} {s : State} {m : MethodId} {args : Array Value} {below : List Frame} {meth : Method} {c : Code} (l : Launch) (D : va_G) (y : ClassId × ClassId × ClassId) (ad : Nat → Nat) (sz : Nat) (hC : g_C p s m args c cX6_read 4 RX6 D y) (hr : meth.sig.returnType = (some .int)) (hlk : meth.locks = false) (hsz : s.heap.size = sz) (hfl : l.stackTraces = false) (ht : ∀ x ∈ c.exceptionTable.toList, False) (hZ : g_Z (g_A ad sz) s s.heap) {r0 : (String ⊕ Int32) × gS} : ∀ a : Int32 × Int32 × gS, gr (X6_read_s) a = some r0 → ∀ (H : Heap) (locs : List Loc) (ls : Array Slot), g_W (g_A ad sz) s.heap D y ad [] a.2.2 H locs → lv_has ls 4 [(0, .ref (ad 0)), (2, .int a.1), (3, .int a.2.1)] → W p l e ({ frames := 7, cells := 1, slots := 6, locals := 144 }) s m args below meth c H locs 0 0 (vx_MQ below (g_QX D y ad sz r0) (g_XX D y ad sz r0) args s 1 6 (g_A ad sz)) (F0 m 57 ls []) := by
  have hx := hC.1
  have hcd := hC.2.1
  refine gr_all (fun a o ho hret hjmp => ?_)
  obtain ⟨x2, x3, σ⟩ := a
  intro H locs ls hW hl
  have ho : X6_read_k0 σ x2 x3 = some o := ho
  unfold X6_read_k0 at ho
  refine lv_iload_n hx hcd dX6_read_57 rfl (lv_at hl 2 rfl) ?_
  refine lv_if_eq (tgt := 113) hx hcd dX6_read_58 (by decide) (fun c11 => ?_) (fun c11 => ?_)
  · have ho := gif_p ho c11
    refine lv_aload_n hx hcd dX6_read_113 rfl (lv_at hl 0 rfl) ?_
    refine g_getr hC hW (C := RX6) (T := TX6) (N := 11) (ci := 8) (k := 4) (index := 32) (i := 0) (r := 4) inGX6 rfl (by decide) fl_X6_32 (by decide) rfl rfl dX6_read_114 ?_
    obtain ⟨σ13, h12, ho⟩ := gb_some ho
    refine g_callv hW (g_runV (As := []) (rest := []) (i := 4) hC hW (c_X5_makeEmpty l D y ad _ _ h12) ok_X6_351 ⟨rfl, rfl, Nat.le_of_ble_eq_true rfl, Nat.le_of_ble_eq_true rfl⟩ (by decide) rfl rfl rfl rfl hl.1 rfl (Nat.le_of_ble_eq_true rfl) dX6_read_117 ⟨Nat.zero_le _, Nat.zero_le _⟩) (fun H locs hW => ?_)
    refine lv_iload_n hx hcd dX6_read_120 rfl (lv_at hl 2 rfl) ?_
    refine lv_if_ne (tgt := 135) hx hcd dX6_read_121 (by decide) (fun hq => absurd c11 hq) (fun _ => ?_)
    exact g_throwW hfl ox_IllegalStateException (text := "an entry cannot be done") (hret _ (Option.some.inj ho).symm) hC hlk ht hZ hl.1 hW (List.mem_of_getElem? (i := 31) rfl) dX6_read_124 dX6_read_127 dX6_read_128 dX6_read_131 dX6_read_134 ⟨Nat.le_of_ble_eq_true rfl, Nat.le_of_ble_eq_true rfl, Nat.le_of_ble_eq_true rfl, Nat.le_of_ble_eq_true rfl⟩
  · have ho := gif_n ho c11
    refine lv_iload_n hx hcd dX6_read_61 rfl (lv_at hl 1 rfl) ?_
    refine lv_bipush (v := 60) hx hcd dX6_read_62 (by decide) ?_
    refine lv_icmp_ge (tgt := 113) hx hcd dX6_read_64 (by decide) (fun c14 => ?_) (fun c14 => ?_)
    · have ho := gif_p ho c14
      refine lv_aload_n hx hcd dX6_read_113 rfl (lv_at hl 0 rfl) ?_
      refine g_getr hC hW (C := RX6) (T := TX6) (N := 11) (ci := 8) (k := 4) (index := 32) (i := 0) (r := 4) inGX6 rfl (by decide) fl_X6_32 (by decide) rfl rfl dX6_read_114 ?_
      obtain ⟨σ16, h15, ho⟩ := gb_some ho
      refine g_callv hW (g_runV (As := []) (rest := []) (i := 4) hC hW (c_X5_makeEmpty l D y ad _ _ h15) ok_X6_351 ⟨rfl, rfl, Nat.le_of_ble_eq_true rfl, Nat.le_of_ble_eq_true rfl⟩ (by decide) rfl rfl rfl rfl hl.1 rfl (Nat.le_of_ble_eq_true rfl) dX6_read_117 ⟨Nat.zero_le _, Nat.zero_le _⟩) (fun H locs hW => ?_)
      refine lv_iload_n hx hcd dX6_read_120 rfl (lv_at hl 2 rfl) ?_
      refine lv_if_ne (tgt := 135) hx hcd dX6_read_121 (by decide) (fun _ => ?_) (fun hq => absurd hq c11)
      refine lv_aload_n hx hcd dX6_read_135 rfl (lv_at hl 0 rfl) ?_
      refine g_getr hC hW (C := RX6) (T := TX6) (N := 11) (ci := 8) (k := 3) (index := 25) (i := 0) (r := 2) inGX6 rfl (by decide) fl_X6_25 (by decide) rfl rfl dX6_read_136 ?_
      refine lv_aload_n hx hcd dX6_read_139 rfl (lv_at hl 0 rfl) ?_
      refine g_getr hC hW (C := RX6) (T := TX6) (N := 11) (ci := 8) (k := 0) (index := 12) (i := 0) (r := 24) inGX6 rfl (by decide) fl_X6_12 (by decide) rfl rfl dX6_read_140 ?_
      obtain ⟨σ18, h17, ho⟩ := gb_some ho
      refine g_callv hW (g_runV (As := [.ref (ad 24)]) (rest := []) (i := 2) hC hW (c_X4_remember l D y ad g_air24 _ _ h17) ok_X6_89 ⟨rfl, rfl, Nat.le_of_ble_eq_true rfl, Nat.le_of_ble_eq_true rfl⟩ (by decide) rfl rfl rfl rfl hl.1 rfl (Nat.le_of_ble_eq_true rfl) dX6_read_143 ⟨Nat.zero_le _, Nat.zero_le _⟩) (fun H locs hW => ?_)
      refine lv_aload_n hx hcd dX6_read_146 rfl (lv_at hl 0 rfl) ?_
      refine g_getr hC hW (C := RX6) (T := TX6) (N := 11) (ci := 8) (k := 0) (index := 12) (i := 0) (r := 24) inGX6 rfl (by decide) fl_X6_12 (by decide) rfl rfl dX6_read_147 ?_
      refine lv_aload_n hx hcd dX6_read_150 rfl (lv_at hl 0 rfl) ?_
      refine g_getr hC hW (C := RX6) (T := TX6) (N := 11) (ci := 8) (k := 1) (index := 16) (i := 0) (r := 36) inGX6 rfl (by decide) fl_X6_16 (by decide) rfl rfl dX6_read_151 ?_
      obtain ⟨σ20, h19, ho⟩ := gb_some ho
      refine g_callv hW (g_runV (As := [.ref (ad 36)]) (rest := []) (i := 24) hC hW (c_X0_copyFrom l D y ad g_air24 g_air36 _ _ h19) ok_X6_276 ⟨rfl, rfl, Nat.le_of_ble_eq_true rfl, Nat.le_of_ble_eq_true rfl⟩ (g_lt_air g_air24) (g_sh_air g_air24) rfl rfl rfl hl.1 rfl (Nat.le_of_ble_eq_true rfl) dX6_read_154 ⟨Nat.zero_le _, Nat.zero_le _⟩) (fun H locs hW => ?_)
      refine lv_iload_n hx hcd dX6_read_157 rfl (lv_at hl 1 rfl) ?_
      exact g_iretX (hret _ (Option.some.inj ho).symm) hC hr hlk hsz hW dX6_read_158
    · have ho := gif_n ho c14
      refine lv_aload_n hx hcd dX6_read_67 rfl (lv_at hl 0 rfl) ?_
      refine g_getr hC hW (C := RX6) (T := TX6) (N := 11) (ci := 8) (k := 4) (index := 32) (i := 0) (r := 4) inGX6 rfl (by decide) fl_X6_32 (by decide) rfl rfl dX6_read_68 ?_
      refine g_geti hC hW (C := RX5) (T := TX5) (N := 6) (ci := 7) (k := 4) (index := 357) (i := 4) inGX5 rfl (by decide) fl_X6_357 (by decide) rfl rfl dX6_read_71 ?_
      refine lv_aload_n hx hcd dX6_read_74 rfl (lv_at hl 0 rfl) ?_
      refine g_getr hC hW (C := RX6) (T := TX6) (N := 11) (ci := 8) (k := 4) (index := 32) (i := 0) (r := 4) inGX6 rfl (by decide) fl_X6_32 (by decide) rfl rfl dX6_read_75 ?_
      refine g_geti hC hW (C := RX5) (T := TX5) (N := 6) (ci := 7) (k := 3) (index := 339) (i := 4) inGX5 rfl (by decide) fl_X6_339 (by decide) rfl rfl dX6_read_78 ?_
      refine lv_icmp_ge (tgt := 113) hx hcd dX6_read_81 (by decide) (fun c21 => ?_) (fun c21 => ?_)
      · have ho := gif_p ho c21
        refine lv_aload_n hx hcd dX6_read_113 rfl (lv_at hl 0 rfl) ?_
        refine g_getr hC hW (C := RX6) (T := TX6) (N := 11) (ci := 8) (k := 4) (index := 32) (i := 0) (r := 4) inGX6 rfl (by decide) fl_X6_32 (by decide) rfl rfl dX6_read_114 ?_
        obtain ⟨σ23, h22, ho⟩ := gb_some ho
        refine g_callv hW (g_runV (As := []) (rest := []) (i := 4) hC hW (c_X5_makeEmpty l D y ad _ _ h22) ok_X6_351 ⟨rfl, rfl, Nat.le_of_ble_eq_true rfl, Nat.le_of_ble_eq_true rfl⟩ (by decide) rfl rfl rfl rfl hl.1 rfl (Nat.le_of_ble_eq_true rfl) dX6_read_117 ⟨Nat.zero_le _, Nat.zero_le _⟩) (fun H locs hW => ?_)
        refine lv_iload_n hx hcd dX6_read_120 rfl (lv_at hl 2 rfl) ?_
        refine lv_if_ne (tgt := 135) hx hcd dX6_read_121 (by decide) (fun _ => ?_) (fun hq => absurd hq c11)
        refine lv_aload_n hx hcd dX6_read_135 rfl (lv_at hl 0 rfl) ?_
        refine g_getr hC hW (C := RX6) (T := TX6) (N := 11) (ci := 8) (k := 3) (index := 25) (i := 0) (r := 2) inGX6 rfl (by decide) fl_X6_25 (by decide) rfl rfl dX6_read_136 ?_
        refine lv_aload_n hx hcd dX6_read_139 rfl (lv_at hl 0 rfl) ?_
        refine g_getr hC hW (C := RX6) (T := TX6) (N := 11) (ci := 8) (k := 0) (index := 12) (i := 0) (r := 24) inGX6 rfl (by decide) fl_X6_12 (by decide) rfl rfl dX6_read_140 ?_
        obtain ⟨σ25, h24, ho⟩ := gb_some ho
        refine g_callv hW (g_runV (As := [.ref (ad 24)]) (rest := []) (i := 2) hC hW (c_X4_remember l D y ad g_air24 _ _ h24) ok_X6_89 ⟨rfl, rfl, Nat.le_of_ble_eq_true rfl, Nat.le_of_ble_eq_true rfl⟩ (by decide) rfl rfl rfl rfl hl.1 rfl (Nat.le_of_ble_eq_true rfl) dX6_read_143 ⟨Nat.zero_le _, Nat.zero_le _⟩) (fun H locs hW => ?_)
        refine lv_aload_n hx hcd dX6_read_146 rfl (lv_at hl 0 rfl) ?_
        refine g_getr hC hW (C := RX6) (T := TX6) (N := 11) (ci := 8) (k := 0) (index := 12) (i := 0) (r := 24) inGX6 rfl (by decide) fl_X6_12 (by decide) rfl rfl dX6_read_147 ?_
        refine lv_aload_n hx hcd dX6_read_150 rfl (lv_at hl 0 rfl) ?_
        refine g_getr hC hW (C := RX6) (T := TX6) (N := 11) (ci := 8) (k := 1) (index := 16) (i := 0) (r := 36) inGX6 rfl (by decide) fl_X6_16 (by decide) rfl rfl dX6_read_151 ?_
        obtain ⟨σ27, h26, ho⟩ := gb_some ho
        refine g_callv hW (g_runV (As := [.ref (ad 36)]) (rest := []) (i := 24) hC hW (c_X0_copyFrom l D y ad g_air24 g_air36 _ _ h26) ok_X6_276 ⟨rfl, rfl, Nat.le_of_ble_eq_true rfl, Nat.le_of_ble_eq_true rfl⟩ (g_lt_air g_air24) (g_sh_air g_air24) rfl rfl rfl hl.1 rfl (Nat.le_of_ble_eq_true rfl) dX6_read_154 ⟨Nat.zero_le _, Nat.zero_le _⟩) (fun H locs hW => ?_)
        refine lv_iload_n hx hcd dX6_read_157 rfl (lv_at hl 1 rfl) ?_
        exact g_iretX (hret _ (Option.some.inj ho).symm) hC hr hlk hsz hW dX6_read_158
      · have ho := gif_n ho c21
        refine lv_aload_n hx hcd dX6_read_84 rfl (lv_at hl 0 rfl) ?_
        refine g_getr hC hW (C := RX6) (T := TX6) (N := 11) (ci := 8) (k := 4) (index := 32) (i := 0) (r := 4) inGX6 rfl (by decide) fl_X6_32 (by decide) rfl rfl dX6_read_85 ?_
        obtain ⟨q29, h28, ho⟩ := gb_some ho
        refine g_calli hW (g_runZ (As := []) (rest := []) (i := 4) hC hW hZ (c_X5_readEntry l D y ad _ _ h28) ok_X6_360 ⟨rfl, rfl, Nat.le_of_ble_eq_true rfl, Nat.le_of_ble_eq_true rfl⟩ (by decide) rfl rfl rfl rfl hl.1 rfl (Nat.le_of_ble_eq_true rfl) dX6_read_88 ⟨Nat.zero_le _, Nat.zero_le _⟩) (fun H locs hW => ?_)
        refine lv_if_eq (tgt := 105) hx hcd dX6_read_91 (by decide) (fun c30 => ?_) (fun c30 => ?_)
        · have ho := gif_p ho c30
          refine lv_iconst (v := 0) hx hcd dX6_read_105 (by decide) ?_
          refine lv_istore_n (lv' := [(3, .int 0), (0, .ref (ad 0)), (2, .int x2)]) hx hcd dX6_read_106 rfl hl (by decide) rfl (fun ls hl => ?_)
          refine lv_iinc (v := x2 + 1) (lv' := [(2, .int (x2 + 1)), (3, .int 0), (0, .ref (ad 0))]) hx hcd dX6_read_107 hl (k := 2) rfl rfl (by decide) rfl (fun ls hl => ?_)
          refine lv_goto (tgt := 57) hx hcd dX6_read_110 (by decide) ?_
          exact hjmp _ (Option.some.inj ho).symm _ _ _ hW (lv_sub hl [2, 0, 1] rfl)
        · have ho := gif_n ho c30
          refine lv_aload_n hx hcd dX6_read_94 rfl (lv_at hl 0 rfl) ?_
          obtain ⟨q32, h31, ho⟩ := gb_some ho
          refine g_calli hW (g_runV (As := []) (rest := []) (i := 0) hC hW (c_X6_doEntry l D y ad _ _ h31) ok_X6_364 ⟨rfl, rfl, Nat.le_of_ble_eq_true rfl, Nat.le_of_ble_eq_true rfl⟩ (by decide) rfl rfl rfl rfl hl.1 rfl (Nat.le_of_ble_eq_true rfl) dX6_read_95 ⟨Nat.zero_le _, Nat.zero_le _⟩) (fun H locs hW => ?_)
          refine lv_if_eq (tgt := 105) hx hcd dX6_read_98 (by decide) (fun c33 => ?_) (fun c33 => ?_)
          · have ho := gif_p ho c33
            refine lv_iconst (v := 0) hx hcd dX6_read_105 (by decide) ?_
            refine lv_istore_n (lv' := [(3, .int 0), (0, .ref (ad 0)), (2, .int x2)]) hx hcd dX6_read_106 rfl hl (by decide) rfl (fun ls hl => ?_)
            refine lv_iinc (v := x2 + 1) (lv' := [(2, .int (x2 + 1)), (3, .int 0), (0, .ref (ad 0))]) hx hcd dX6_read_107 hl (k := 2) rfl rfl (by decide) rfl (fun ls hl => ?_)
            refine lv_goto (tgt := 57) hx hcd dX6_read_110 (by decide) ?_
            exact hjmp _ (Option.some.inj ho).symm _ _ _ hW (lv_sub hl [2, 0, 1] rfl)
          · have ho := gif_n ho c33
            refine lv_iconst (v := 1) hx hcd dX6_read_101 (by decide) ?_
            refine lv_goto (tgt := 106) hx hcd dX6_read_102 (by decide) ?_
            refine lv_istore_n (lv' := [(3, .int 1), (0, .ref (ad 0)), (2, .int x2)]) hx hcd dX6_read_106 rfl hl (by decide) rfl (fun ls hl => ?_)
            refine lv_iinc (v := x2 + 1) (lv' := [(2, .int (x2 + 1)), (3, .int 1), (0, .ref (ad 0))]) hx hcd dX6_read_107 hl (k := 2) rfl rfl (by decide) rfl (fun ls hl => ?_)
            refine lv_goto (tgt := 57) hx hcd dX6_read_110 (by decide) ?_
            exact hjmp _ (Option.some.inj ho).symm _ _ _ hW (lv_sub hl [2, 0, 1] rfl)
set_option maxHeartbeats 4000000 in
set_option maxRecDepth 100000 in
theorem c_X6_read (l : Launch) (hfl : l.stackTraces = false) (D : va_G) (y : ClassId × ClassId × ClassId) (ad : Nat → Nat) (σ : gS) (sz : Nat) {q : (String ⊕ Int32) × gS} (h : X6_read σ = some q) : vx_Met l yX6_read (Cond.code yX6_read cX6_read 4 (some .int) :: gl) ({ frames := 7, cells := 1, slots := 6, locals := 144 }) (g_PcX D y ad σ sz [.ref (ad 0)]) (g_QX D y ad sz q) (g_XX D y ad sz q) 1 6 (g_A ad sz) := by
  have ho := h
  unfold X6_read at ho
  refine g_startX (by decide) (Nat.le_of_ble_eq_true rfl) (fun p e s m below meth c ls hC hr hlk hsz hW hl ht hZ => ?_)
  have hx := hC.1
  have hcd := hC.2.1
  have hl : lv_has ls 4 [(0, .ref (ad 0))] := hl
  refine lv_aload_n hx hcd dX6_read_0 rfl (lv_at hl 0 rfl) ?_
  refine g_getr hC hW (C := RX6) (T := TX6) (N := 11) (ci := 8) (k := 4) (index := 32) (i := 0) (r := 4) inGX6 rfl (by decide) fl_X6_32 (by decide) rfl rfl dX6_read_1 ?_
  obtain ⟨q2, h1, ho⟩ := gb_some ho
  refine g_calli hW (g_runZ (As := []) (rest := []) (i := 4) hC hW hZ (c_X5_wrongPosition l D y ad _ _ h1) ok_X6_348 ⟨rfl, rfl, Nat.le_of_ble_eq_true rfl, Nat.le_of_ble_eq_true rfl⟩ (by decide) rfl rfl rfl rfl hl.1 rfl (Nat.le_of_ble_eq_true rfl) dX6_read_4 ⟨Nat.zero_le _, Nat.zero_le _⟩) (fun H locs hW => ?_)
  refine lv_istore_n (lv' := [(1, .int q2.1), (0, .ref (ad 0))]) hx hcd dX6_read_7 rfl hl (by decide) rfl (fun ls hl => ?_)
  refine lv_iload_n hx hcd dX6_read_8 rfl (lv_at hl 0 rfl) ?_
  refine lv_if_lt (tgt := 35) hx hcd dX6_read_9 (by decide) (fun c3 => ?_) (fun c3 => ?_)
  · have ho := gif_p ho c3
    refine lv_aload_n hx hcd dX6_read_35 rfl (lv_at hl 1 rfl) ?_
    refine g_getr hC hW (C := RX6) (T := TX6) (N := 11) (ci := 8) (k := 1) (index := 16) (i := 0) (r := 36) inGX6 rfl (by decide) fl_X6_16 (by decide) rfl rfl dX6_read_36 ?_
    refine lv_aload_n hx hcd dX6_read_39 rfl (lv_at hl 1 rfl) ?_
    refine g_getr hC hW (C := RX6) (T := TX6) (N := 11) (ci := 8) (k := 0) (index := 12) (i := 0) (r := 24) inGX6 rfl (by decide) fl_X6_12 (by decide) rfl rfl dX6_read_40 ?_
    obtain ⟨σ5, h4, ho⟩ := gb_some ho
    refine g_callv hW (g_runV (As := [.ref (ad 24)]) (rest := []) (i := 36) hC hW (c_X0_copyFrom l D y ad g_air36 g_air24 _ _ h4) ok_X6_276 ⟨rfl, rfl, Nat.le_of_ble_eq_true rfl, Nat.le_of_ble_eq_true rfl⟩ (g_lt_air g_air36) (g_sh_air g_air36) rfl rfl rfl hl.1 rfl (Nat.le_of_ble_eq_true rfl) dX6_read_43 ⟨Nat.zero_le _, Nat.zero_le _⟩) (fun H locs hW => ?_)
    refine lv_aload_n hx hcd dX6_read_46 rfl (lv_at hl 1 rfl) ?_
    refine g_getr hC hW (C := RX6) (T := TX6) (N := 11) (ci := 8) (k := 4) (index := 32) (i := 0) (r := 4) inGX6 rfl (by decide) fl_X6_32 (by decide) rfl rfl dX6_read_47 ?_
    obtain ⟨σ7, h6, ho⟩ := gb_some ho
    refine g_callv hW (g_runV (As := []) (rest := []) (i := 4) hC hW (c_X5_goToStart l D y ad _ _ h6) ok_X6_354 ⟨rfl, rfl, Nat.le_of_ble_eq_true rfl, Nat.le_of_ble_eq_true rfl⟩ (by decide) rfl rfl rfl rfl hl.1 rfl (Nat.le_of_ble_eq_true rfl) dX6_read_50 ⟨Nat.zero_le _, Nat.zero_le _⟩) (fun H locs hW => ?_)
    refine lv_iconst (v := 0) hx hcd dX6_read_53 (by decide) ?_
    refine lv_istore_n (lv' := [(2, .int 0), (1, .int q2.1), (0, .ref (ad 0))]) hx hcd dX6_read_54 rfl hl (by decide) rfl (fun ls hl => ?_)
    refine lv_iconst (v := 1) hx hcd dX6_read_55 (by decide) ?_
    refine lv_istore_n (lv' := [(3, .int 1), (2, .int 0), (1, .int q2.1), (0, .ref (ad 0))]) hx hcd dX6_read_56 rfl hl (by decide) rfl (fun ls hl => ?_)
    exact l_X6_read l D y ad sz hC hr hlk hsz hfl ht hZ _ ho _ _ _ hW (lv_sub hl [3, 1, 0] rfl)
  · have ho := gif_n ho c3
    refine lv_aload_n hx hcd dX6_read_12 rfl (lv_at hl 1 rfl) ?_
    refine lv_iload_n hx hcd dX6_read_13 rfl (lv_at hl 0 rfl) ?_
    obtain ⟨σ8, eσ8, ho⟩ := lt_ex ho
    refine g_puti hC hW (C := RX6) (T := TX6) (N := 11) (ci := 8) (k := 10) (index := 62) (i := 0) inGX6 tyX6 tyX6_ok nmX6 rfl (by decide) fl_X6_62 rfl (by decide) rfl rfl rfl rfl dX6_read_14 (fun H locs hW => ?_)
    rw [← eσ8] at hW
    refine lv_aload_n hx hcd dX6_read_17 rfl (lv_at hl 1 rfl) ?_
    refine g_getr hC hW (C := RX6) (T := TX6) (N := 11) (ci := 8) (k := 4) (index := 32) (i := 0) (r := 4) inGX6 rfl (by decide) fl_X6_32 (by decide) rfl rfl dX6_read_18 ?_
    obtain ⟨σ10, h9, ho⟩ := gb_some ho
    refine g_callv hW (g_runV (As := []) (rest := []) (i := 4) hC hW (c_X5_makeEmpty l D y ad _ _ h9) ok_X6_351 ⟨rfl, rfl, Nat.le_of_ble_eq_true rfl, Nat.le_of_ble_eq_true rfl⟩ (by decide) rfl rfl rfl rfl hl.1 rfl (Nat.le_of_ble_eq_true rfl) dX6_read_21 ⟨Nat.zero_le _, Nat.zero_le _⟩) (fun H locs hW => ?_)
    exact g_throwW hfl ox_IllegalArgumentException (text := "not a text of this kind") (Option.some.inj ho) hC hlk ht hZ hl.1 hW (List.mem_of_getElem? (i := 30) rfl) dX6_read_24 dX6_read_27 dX6_read_28 dX6_read_31 dX6_read_34 ⟨Nat.le_of_ble_eq_true rfl, Nat.le_of_ble_eq_true rfl, Nat.le_of_ble_eq_true rfl, Nat.le_of_ble_eq_true rfl⟩
