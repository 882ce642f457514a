noncomputable def X5_makeEmpty (σ : gS) : Option (gS) :=
  lt_ (g_up σ 4 3 0) fun σ1 => some σ1
set_option maxHeartbeats 4000000 in
set_option maxRecDepth 100000 in
theorem c_X5_makeEmpty (l : Launch) (D : va_G) (y : ClassId × ClassId × ClassId) (ad : Nat → Nat) (σ : gS) (sz : Nat) {q : gS} (h : X5_makeEmpty σ = some q) : Met l yX5_makeEmpty (Cond.code yX5_makeEmpty cX5_makeEmpty 1 none :: gl) ({ frames := 0, cells := 0, slots := 0, locals := 0 }) (g_Pc D y ad σ sz [.ref (ad 4)]) (g_Qv D y ad q sz) 0 0 (g_A ad sz) := by
  have ho := h
  unfold X5_makeEmpty at ho
  refine g_start (by decide) (Nat.le_of_ble_eq_true rfl) (fun p e s m below meth c ls hC hr hlk hsz hW hl => ?_)
  have hx := hC.1
  have hcd := hC.2.1
  have hl : lv_has ls 1 [(0, .ref (ad 4))] := hl
  refine lv_aload_n hx hcd dX5_makeEmpty_0 rfl (lv_at hl 0 rfl) ?_
  refine lv_iconst (v := 0) hx hcd dX5_makeEmpty_1 (by decide) ?_
  obtain ⟨σ1, eσ1, ho⟩ := lt_ex ho
  refine g_puti hC hW (C := RX5) (T := TX5) (N := 6) (ci := 7) (k := 3) (index := 19) (i := 4) inGX5 tyX5 tyX5_ok nmX5 rfl (by decide) fl_X5_19 rfl (by decide) rfl rfl rfl rfl dX5_makeEmpty_2 (fun H locs hW => ?_)
  rw [← eσ1] at hW
  obtain rfl := Option.some.inj ho
  exact g_vret hC hr hlk hsz hW dX5_makeEmpty_5
noncomputable def X5_add (σ : gS) (x1 : Int32) : Option (Int32 × gS) :=
  if 60 ≤ (σ 4 3) then (some ((σ 4 3), σ)) else (gd (ib (σ 4 3) 60) <| lt_ (g_up σ 5 (σ 4 3).toNatClampNeg (vp_nar .char x1)) fun σ3 => lt_ (g_up σ3 4 3 ((σ3 4 3) + (1 : Int32))) fun σ4 => some ((σ4 4 3), σ4))
set_option maxHeartbeats 4000000 in
set_option maxRecDepth 100000 in
theorem c_X5_add (l : Launch) (D : va_G) (y : ClassId × ClassId × ClassId) (ad : Nat → Nat) (x1 : Int32) (σ : gS) (sz : Nat) {q : Int32 × gS} (h : X5_add σ x1 = some q) : Met l yX5_add (Cond.code yX5_add cX5_add 2 (some .int) :: gl) ({ frames := 0, cells := 0, slots := 0, locals := 0 }) (g_Pc D y ad σ sz [.ref (ad 4), .int x1]) (g_Qi D y ad q.2 sz q.1) 0 0 (g_A ad sz) := by
  have ho := h
  unfold X5_add at ho
  refine g_start (by decide) (Nat.le_of_ble_eq_true rfl) (fun p e s m below meth c ls hC hr hlk hsz hW hl => ?_)
  have hx := hC.1
  have hcd := hC.2.1
  have hl : lv_has ls 2 [(0, .ref (ad 4)), (1, .int x1)] := hl
  refine lv_aload_n hx hcd dX5_add_0 rfl (lv_at hl 0 rfl) ?_
  refine g_geti hC hW (C := RX5) (T := TX5) (N := 6) (ci := 7) (k := 3) (index := 19) (i := 4) inGX5 rfl (by decide) fl_X5_19 (by decide) rfl rfl dX5_add_1 ?_
  refine lv_bipush (v := 60) hx hcd dX5_add_4 (by decide) ?_
  refine lv_icmp_ge (tgt := 29) hx hcd dX5_add_6 (by decide) (fun c1 => ?_) (fun c1 => ?_)
  · have ho := gif_p ho c1
    refine lv_aload_n hx hcd dX5_add_29 rfl (lv_at hl 0 rfl) ?_
    refine g_geti hC hW (C := RX5) (T := TX5) (N := 6) (ci := 7) (k := 3) (index := 19) (i := 4) inGX5 rfl (by decide) fl_X5_19 (by decide) rfl rfl dX5_add_30 ?_
    obtain rfl := Option.some.inj ho
    exact g_iret hC hr hlk hsz hW dX5_add_33
  · have ho := gif_n ho c1
    refine lv_aload_n hx hcd dX5_add_9 rfl (lv_at hl 0 rfl) ?_
    refine g_getr hC hW (C := RX5) (T := TX5) (N := 6) (ci := 7) (k := 0) (index := 9) (i := 4) (r := 5) inGX5 rfl (by decide) fl_X5_9 (by decide) rfl rfl dX5_add_10 ?_
    refine lv_aload_n hx hcd dX5_add_13 rfl (lv_at hl 0 rfl) ?_
    refine g_geti hC hW (C := RX5) (T := TX5) (N := 6) (ci := 7) (k := 3) (index := 19) (i := 4) inGX5 rfl (by decide) fl_X5_19 (by decide) rfl rfl dX5_add_14 ?_
    refine lv_iload_n hx hcd dX5_add_17 rfl (lv_at hl 1 rfl) ?_
    obtain ⟨i2, ho⟩ := gd_some ho
    obtain ⟨σ3, eσ3, ho⟩ := lt_ex ho
    refine g_cast hC hW (i := 5) (by decide) rfl i2 dX5_add_18 (fun H locs hW => ?_)
    rw [← eσ3] at hW
    refine lv_aload_n hx hcd dX5_add_19 rfl (lv_at hl 0 rfl) ?_
    refine lv_dup hx hcd dX5_add_20 rfl ?_
    refine g_geti hC hW (C := RX5) (T := TX5) (N := 6) (ci := 7) (k := 3) (index := 19) (i := 4) inGX5 rfl (by decide) fl_X5_19 (by decide) rfl rfl dX5_add_21 ?_
    refine lv_iconst (v := 1) hx hcd dX5_add_24 (by decide) ?_
    refine lv_iadd hx hcd dX5_add_25 ?_
    obtain ⟨σ4, eσ4, ho⟩ := lt_ex ho
    refine g_puti hC hW (C := RX5) (T := TX5) (N := 6) (ci := 7) (k := 3) (index := 19) (i := 4) inGX5 tyX5 tyX5_ok nmX5 rfl (by decide) fl_X5_19 rfl (by decide) rfl rfl rfl rfl dX5_add_26 (fun H locs hW => ?_)
    rw [← eσ4] at hW
    refine lv_aload_n hx hcd dX5_add_29 rfl (lv_at hl 0 rfl) ?_
    refine g_geti hC hW (C := RX5) (T := TX5) (N := 6) (ci := 7) (k := 3) (index := 19) (i := 4) inGX5 rfl (by decide) fl_X5_19 (by decide) rfl rfl dX5_add_30 ?_
    obtain rfl := Option.some.inj ho
    exact g_iret hC hr hlk hsz hW dX5_add_33
noncomputable def X5_goToStart (σ : gS) : Option (gS) :=
  lt_ (g_up σ 4 4 0) fun σ1 => some σ1
set_option maxHeartbeats 4000000 in
set_option maxRecDepth 100000 in
theorem c_X5_goToStart (l : Launch) (D : va_G) (y : ClassId × ClassId × ClassId) (ad : Nat → Nat) (σ : gS) (sz : Nat) {q : gS} (h : X5_goToStart σ = some q) : Met l yX5_goToStart (Cond.code yX5_goToStart cX5_goToStart 1 none :: gl) ({ frames := 0, cells := 0, slots := 0, locals := 0 }) (g_Pc D y ad σ sz [.ref (ad 4)]) (g_Qv D y ad q sz) 0 0 (g_A ad sz) := by
  have ho := h
  unfold X5_goToStart at ho
  refine g_start (by decide) (Nat.le_of_ble_eq_true rfl) (fun p e s m below meth c ls hC hr hlk hsz hW hl => ?_)
  have hx := hC.1
  have hcd := hC.2.1
  have hl : lv_has ls 1 [(0, .ref (ad 4))] := hl
  refine lv_aload_n hx hcd dX5_goToStart_0 rfl (lv_at hl 0 rfl) ?_
  refine lv_iconst (v := 0) hx hcd dX5_goToStart_1 (by decide) ?_
  obtain ⟨σ1, eσ1, ho⟩ := lt_ex ho
  refine g_puti hC hW (C := RX5) (T := TX5) (N := 6) (ci := 7) (k := 4) (index := 23) (i := 4) inGX5 tyX5 tyX5_ok nmX5 rfl (by decide) fl_X5_23 rfl (by decide) rfl rfl rfl rfl dX5_goToStart_2 (fun H locs hW => ?_)
  rw [← eσ1] at hW
  obtain rfl := Option.some.inj ho
  exact g_vret hC hr hlk hsz hW dX5_goToStart_5
noncomputable def X5_isDigitNext (σ : gS) : Option (Int32) :=
  if (σ 4 3) ≤ (σ 4 4) then (some 0) else (gd (ib (σ 4 4) 60) <| if (σ 5 (σ 4 4).toNatClampNeg) < 48 then (some 0) else (if 57 < (σ 5 (σ 4 4).toNatClampNeg) then (some 0) else (some 1)))
set_option maxHeartbeats 4000000 in
set_option maxRecDepth 100000 in
theorem c_X5_isDigitNext (l : Launch) (D : va_G) (y : ClassId × ClassId × ClassId) (ad : Nat → Nat) (σ : gS) (sz : Nat) {q : Int32} (h : X5_isDigitNext σ = some q) : Met l yX5_isDigitNext (Cond.code yX5_isDigitNext cX5_isDigitNext 1 (some .boolean) :: gl) ({ frames := 0, cells := 0, slots := 0, locals := 0 }) (g_Pc D y ad σ sz [.ref (ad 4)]) (g_Qi D y ad σ sz q) 0 0 (g_A ad sz) := by
  have ho := h
  unfold X5_isDigitNext at ho
  refine g_start (by decide) (Nat.le_of_ble_eq_true rfl) (fun p e s m below meth c ls hC hr hlk hsz hW hl => ?_)
  have hx := hC.1
  have hcd := hC.2.1
  have hl : lv_has ls 1 [(0, .ref (ad 4))] := hl
  refine lv_aload_n hx hcd dX5_isDigitNext_0 rfl (lv_at hl 0 rfl) ?_
  refine g_geti hC hW (C := RX5) (T := TX5) (N := 6) (ci := 7) (k := 4) (index := 23) (i := 4) inGX5 rfl (by decide) fl_X5_23 (by decide) rfl rfl dX5_isDigitNext_1 ?_
  refine lv_aload_n hx hcd dX5_isDigitNext_4 rfl (lv_at hl 0 rfl) ?_
  refine g_geti hC hW (C := RX5) (T := TX5) (N := 6) (ci := 7) (k := 3) (index := 19) (i := 4) inGX5 rfl (by decide) fl_X5_19 (by decide) rfl rfl dX5_isDigitNext_5 ?_
  refine lv_icmp_ge (tgt := 43) hx hcd dX5_isDigitNext_8 (by decide) (fun c1 => ?_) (fun c1 => ?_)
  · have ho := gif_p ho c1
    refine lv_iconst (v := 0) hx hcd dX5_isDigitNext_43 (by decide) ?_
    obtain rfl := Option.some.inj ho
    exact g_zret (r := 0) hC hr hlk hsz hW (by decide) dX5_isDigitNext_44
  · have ho := gif_n ho c1
    refine lv_aload_n hx hcd dX5_isDigitNext_11 rfl (lv_at hl 0 rfl) ?_
    refine g_getr hC hW (C := RX5) (T := TX5) (N := 6) (ci := 7) (k := 0) (index := 9) (i := 4) (r := 5) inGX5 rfl (by decide) fl_X5_9 (by decide) rfl rfl dX5_isDigitNext_12 ?_
    refine lv_aload_n hx hcd dX5_isDigitNext_15 rfl (lv_at hl 0 rfl) ?_
    refine g_geti hC hW (C := RX5) (T := TX5) (N := 6) (ci := 7) (k := 4) (index := 23) (i := 4) inGX5 rfl (by decide) fl_X5_23 (by decide) rfl rfl dX5_isDigitNext_16 ?_
    obtain ⟨i2, ho⟩ := gd_some ho
    refine g_cald hC hW (i := 5) (by decide) rfl i2 dX5_isDigitNext_19 ?_
    refine lv_bipush (v := 48) hx hcd dX5_isDigitNext_20 (by decide) ?_
    refine lv_icmp_lt (tgt := 43) hx hcd dX5_isDigitNext_22 (by decide) (fun c3 => ?_) (fun c3 => ?_)
    · have ho := gif_p ho c3
      refine lv_iconst (v := 0) hx hcd dX5_isDigitNext_43 (by decide) ?_
      obtain rfl := Option.some.inj ho
      exact g_zret (r := 0) hC hr hlk hsz hW (by decide) dX5_isDigitNext_44
    · have ho := gif_n ho c3
      refine lv_aload_n hx hcd dX5_isDigitNext_25 rfl (lv_at hl 0 rfl) ?_
      refine g_getr hC hW (C := RX5) (T := TX5) (N := 6) (ci := 7) (k := 0) (index := 9) (i := 4) (r := 5) inGX5 rfl (by decide) fl_X5_9 (by decide) rfl rfl dX5_isDigitNext_26 ?_
      refine lv_aload_n hx hcd dX5_isDigitNext_29 rfl (lv_at hl 0 rfl) ?_
      refine g_geti hC hW (C := RX5) (T := TX5) (N := 6) (ci := 7) (k := 4) (index := 23) (i := 4) inGX5 rfl (by decide) fl_X5_23 (by decide) rfl rfl dX5_isDigitNext_30 ?_
      refine g_cald hC hW (i := 5) (by decide) rfl i2 dX5_isDigitNext_33 ?_
      refine lv_bipush (v := 57) hx hcd dX5_isDigitNext_34 (by decide) ?_
      refine lv_icmp_gt (tgt := 43) hx hcd dX5_isDigitNext_36 (by decide) (fun c4 => ?_) (fun c4 => ?_)
      · have ho := gif_p ho c4
        refine lv_iconst (v := 0) hx hcd dX5_isDigitNext_43 (by decide) ?_
        obtain rfl := Option.some.inj ho
        exact g_zret (r := 0) hC hr hlk hsz hW (by decide) dX5_isDigitNext_44
      · have ho := gif_n ho c4
        refine lv_iconst (v := 1) hx hcd dX5_isDigitNext_39 (by decide) ?_
        refine lv_goto (tgt := 44) hx hcd dX5_isDigitNext_40 (by decide) ?_
        obtain rfl := Option.some.inj ho
        exact g_zret (r := 1) hC hr hlk hsz hW (by decide) dX5_isDigitNext_44
noncomputable def X5_readNumber_k0 (σ : gS) (x1 : Int32) (x2 : Int32) (x3 : Int32) : Option ((Int32 × Int32 × Int32 × gS) ⊕ (Int32 × gS)) :=
  if x1 ≤ x3 then (if x3 = 0 then (some (.inr (0, σ))) else (if (σ 4 2) < 3 then (gd (ib (σ 4 2) 3) <| lt_ (g_up σ 6 (σ 4 2).toNatClampNeg x2) fun σ5 => lt_ (g_up σ5 4 2 ((σ5 4 2) + (1 : Int32))) fun σ6 => some (.inr (1, σ6))) else (some (.inr (0, σ))))) else ((X5_isDigitNext σ).bind fun r8 => if r8 = 0 then (if x3 = 0 then (some (.inr (0, σ))) else (if (σ 4 2) < 3 then (gd (ib (σ 4 2) 3) <| lt_ (g_up σ 6 (σ 4 2).toNatClampNeg x2) fun σ13 => lt_ (g_up σ13 4 2 ((σ13 4 2) + (1 : Int32))) fun σ14 => some (.inr (1, σ14))) else (some (.inr (0, σ))))) else (gd (ib (σ 4 4) 60) <| lt_ (g_up σ 4 4 ((σ 4 4) + (1 : Int32))) fun σ16 => some (.inl (x1, (((10 : Int32) * x2) + ((σ 5 (σ 4 4).toNatClampNeg) - (48 : Int32))), (x3 + 1), σ16))))
noncomputable def X5_readNumber_s (a : Int32 × Int32 × Int32 × gS) : Option ((Int32 × Int32 × Int32 × gS) ⊕ (Int32 × gS)) :=
  X5_readNumber_k0 a.2.2.2 a.1 a.2.1 a.2.2.1
noncomputable def X5_readNumber (σ : gS) (x1 : Int32) : Option (Int32 × gS) :=
  gr (X5_readNumber_s) (x1, 0, 0, σ)
set_option maxHeartbeats 4000000 in
set_option maxRecDepth 100000 in
theorem l_X5_readNumber {p : Program} {e : Env} {s : State} {m : MethodId} {args : Array Value} {below : List Frame} {meth : Method} {c : Code} (l : Launch) (D : va_G) (y : ClassId × ClassId × ClassId) (ad : Nat → Nat) (sz : Nat) (hC : g_C p s m args c cX5_readNumber 4 RX5 D y) (hr : meth.sig.returnType = (some .boolean)) (hlk : meth.locks = false) (hsz : s.heap.size = sz) {r0 : Int32 × gS} : ∀ a : Int32 × Int32 × Int32 × gS, gr (X5_readNumber_s) a = some r0 → ∀ (H : Heap) (locs : List Loc) (ls : Array Slot), g_W (g_A ad sz) s.heap D y ad [] a.2.2.2 H locs → lv_has ls 4 [(0, .ref (ad 4)), (1, .int a.1), (2, .int a.2.1), (3, .int a.2.2.1)] → W p l e ({ frames := 1, cells := 0, slots := 0, locals := 20 }) s m args below meth c H locs 0 0 (MQ below (g_Qi D y ad r0.2 sz r0.1) args s 0 0 (g_A ad sz)) (F0 m 4 ls []) := by
  have hx := hC.1
  have hcd := hC.2.1
  refine gr_all (fun a o ho hret hjmp => ?_)
  obtain ⟨x1, x2, x3, σ⟩ := a
  intro H locs ls hW hl
  have ho : X5_readNumber_k0 σ x1 x2 x3 = some o := ho
  unfold X5_readNumber_k0 at ho
  refine lv_iload_n hx hcd dX5_readNumber_4 rfl (lv_at hl 3 rfl) ?_
  refine lv_iload_n hx hcd dX5_readNumber_5 rfl (lv_at hl 1 rfl) ?_
  refine lv_icmp_ge (tgt := 50) hx hcd dX5_readNumber_6 (by decide) (fun c1 => ?_) (fun c1 => ?_)
  · have ho := gif_p ho c1
    refine lv_iload_n hx hcd dX5_readNumber_50 rfl (lv_at hl 3 rfl) ?_
    refine lv_if_eq (tgt := 62) hx hcd dX5_readNumber_51 (by decide) (fun c2 => ?_) (fun c2 => ?_)
    · have ho := gif_p ho c2
      refine lv_iconst (v := 0) hx hcd dX5_readNumber_62 (by decide) ?_
      obtain rfl := hret _ (Option.some.inj ho).symm
      exact g_zret (r := 0) hC hr hlk hsz hW (by decide) dX5_readNumber_63
    · have ho := gif_n ho c2
      refine lv_aload_n hx hcd dX5_readNumber_54 rfl (lv_at hl 0 rfl) ?_
      refine g_geti hC hW (C := RX5) (T := TX5) (N := 6) (ci := 7) (k := 2) (index := 46) (i := 4) inGX5 rfl (by decide) fl_X5_46 (by decide) rfl rfl dX5_readNumber_55 ?_
      refine lv_iconst (v := 3) hx hcd dX5_readNumber_58 (by decide) ?_
      refine lv_icmp_lt (tgt := 64) hx hcd dX5_readNumber_59 (by decide) (fun c3 => ?_) (fun c3 => ?_)
      · have ho := gif_p ho c3
        refine lv_aload_n hx hcd dX5_readNumber_64 rfl (lv_at hl 0 rfl) ?_
        refine g_getr hC hW (C := RX5) (T := TX5) (N := 6) (ci := 7) (k := 1) (index := 15) (i := 4) (r := 6) inGX5 rfl (by decide) fl_X5_15 (by decide) rfl rfl dX5_readNumber_65 ?_
        refine lv_aload_n hx hcd dX5_readNumber_68 rfl (lv_at hl 0 rfl) ?_
        refine g_geti hC hW (C := RX5) (T := TX5) (N := 6) (ci := 7) (k := 2) (index := 46) (i := 4) inGX5 rfl (by decide) fl_X5_46 (by decide) rfl rfl dX5_readNumber_69 ?_
        refine lv_iload_n hx hcd dX5_readNumber_72 rfl (lv_at hl 2 rfl) ?_
        obtain ⟨i4, ho⟩ := gd_some ho
        obtain ⟨σ5, eσ5, ho⟩ := lt_ex ho
        refine g_iast hC hW (i := 6) (by decide) rfl i4 dX5_readNumber_73 (fun H locs hW => ?_)
        rw [← eσ5] at hW
        refine lv_aload_n hx hcd dX5_readNumber_74 rfl (lv_at hl 0 rfl) ?_
        refine lv_dup hx hcd dX5_readNumber_75 rfl ?_
        refine g_geti hC hW (C := RX5) (T := TX5) (N := 6) (ci := 7) (k := 2) (index := 46) (i := 4) inGX5 rfl (by decide) fl_X5_46 (by decide) rfl rfl dX5_readNumber_76 ?_
        refine lv_iconst (v := 1) hx hcd dX5_readNumber_79 (by decide) ?_
        refine lv_iadd hx hcd dX5_readNumber_80 ?_
        obtain ⟨σ6, eσ6, ho⟩ := lt_ex ho
        refine g_puti hC hW (C := RX5) (T := TX5) (N := 6) (ci := 7) (k := 2) (index := 46) (i := 4) inGX5 tyX5 tyX5_ok nmX5 rfl (by decide) fl_X5_46 rfl (by decide) rfl rfl rfl rfl dX5_readNumber_81 (fun H locs hW => ?_)
        rw [← eσ6] at hW
        refine lv_iconst (v := 1) hx hcd dX5_readNumber_84 (by decide) ?_
        obtain rfl := hret _ (Option.some.inj ho).symm
        exact g_zret (r := 1) hC hr hlk hsz hW (by decide) dX5_readNumber_85
      · have ho := gif_n ho c3
        refine lv_iconst (v := 0) hx hcd dX5_readNumber_62 (by decide) ?_
        obtain rfl := hret _ (Option.some.inj ho).symm
        exact g_zret (r := 0) hC hr hlk hsz hW (by decide) dX5_readNumber_63
  · have ho := gif_n ho c1
    refine lv_aload_n hx hcd dX5_readNumber_9 rfl (lv_at hl 0 rfl) ?_
    obtain ⟨r8, h7, ho⟩ := gb_some ho
    refine g_calli hW (g_runV (As := []) (rest := []) (i := 4) hC hW (c_X5_isDigitNext l D y ad _ _ h7) ok_X5_76 ⟨rfl, rfl, Nat.le_of_ble_eq_true rfl, Nat.le_of_ble_eq_true rfl⟩ (by decide) rfl rfl rfl rfl hl.1 rfl (Nat.le_of_ble_eq_true rfl) dX5_readNumber_10 ⟨Nat.zero_le _, Nat.zero_le _⟩) (fun H locs hW => ?_)
    refine lv_if_eq (tgt := 50) hx hcd dX5_readNumber_13 (by decide) (fun c9 => ?_) (fun c9 => ?_)
    · have ho := gif_p ho c9
      refine lv_iload_n hx hcd dX5_readNumber_50 rfl (lv_at hl 3 rfl) ?_
      refine lv_if_eq (tgt := 62) hx hcd dX5_readNumber_51 (by decide) (fun c10 => ?_) (fun c10 => ?_)
      · have ho := gif_p ho c10
        refine lv_iconst (v := 0) hx hcd dX5_readNumber_62 (by decide) ?_
        obtain rfl := hret _ (Option.some.inj ho).symm
        exact g_zret (r := 0) hC hr hlk hsz hW (by decide) dX5_readNumber_63
      · have ho := gif_n ho c10
        refine lv_aload_n hx hcd dX5_readNumber_54 rfl (lv_at hl 0 rfl) ?_
        refine g_geti hC hW (C := RX5) (T := TX5) (N := 6) (ci := 7) (k := 2) (index := 46) (i := 4) inGX5 rfl (by decide) fl_X5_46 (by decide) rfl rfl dX5_readNumber_55 ?_
        refine lv_iconst (v := 3) hx hcd dX5_readNumber_58 (by decide) ?_
        refine lv_icmp_lt (tgt := 64) hx hcd dX5_readNumber_59 (by decide) (fun c11 => ?_) (fun c11 => ?_)
        · have ho := gif_p ho c11
          refine lv_aload_n hx hcd dX5_readNumber_64 rfl (lv_at hl 0 rfl) ?_
          refine g_getr hC hW (C := RX5) (T := TX5) (N := 6) (ci := 7) (k := 1) (index := 15) (i := 4) (r := 6) inGX5 rfl (by decide) fl_X5_15 (by decide) rfl rfl dX5_readNumber_65 ?_
          refine lv_aload_n hx hcd dX5_readNumber_68 rfl (lv_at hl 0 rfl) ?_
          refine g_geti hC hW (C := RX5) (T := TX5) (N := 6) (ci := 7) (k := 2) (index := 46) (i := 4) inGX5 rfl (by decide) fl_X5_46 (by decide) rfl rfl dX5_readNumber_69 ?_
          refine lv_iload_n hx hcd dX5_readNumber_72 rfl (lv_at hl 2 rfl) ?_
          obtain ⟨i12, ho⟩ := gd_some ho
          obtain ⟨σ13, eσ13, ho⟩ := lt_ex ho
          refine g_iast hC hW (i := 6) (by decide) rfl i12 dX5_readNumber_73 (fun H locs hW => ?_)
          rw [← eσ13] at hW
          refine lv_aload_n hx hcd dX5_readNumber_74 rfl (lv_at hl 0 rfl) ?_
          refine lv_dup hx hcd dX5_readNumber_75 rfl ?_
          refine g_geti hC hW (C := RX5) (T := TX5) (N := 6) (ci := 7) (k := 2) (index := 46) (i := 4) inGX5 rfl (by decide) fl_X5_46 (by decide) rfl rfl dX5_readNumber_76 ?_
          refine lv_iconst (v := 1) hx hcd dX5_readNumber_79 (by decide) ?_
          refine lv_iadd hx hcd dX5_readNumber_80 ?_
          obtain ⟨σ14, eσ14, ho⟩ := lt_ex ho
          refine g_puti hC hW (C := RX5) (T := TX5) (N := 6) (ci := 7) (k := 2) (index := 46) (i := 4) inGX5 tyX5 tyX5_ok nmX5 rfl (by decide) fl_X5_46 rfl (by decide) rfl rfl rfl rfl dX5_readNumber_81 (fun H locs hW => ?_)
          rw [← eσ14] at hW
          refine lv_iconst (v := 1) hx hcd dX5_readNumber_84 (by decide) ?_
          obtain rfl := hret _ (Option.some.inj ho).symm
          exact g_zret (r := 1) hC hr hlk hsz hW (by decide) dX5_readNumber_85
        · have ho := gif_n ho c11
          refine lv_iconst (v := 0) hx hcd dX5_readNumber_62 (by decide) ?_
          obtain rfl := hret _ (Option.some.inj ho).symm
          exact g_zret (r := 0) hC hr hlk hsz hW (by decide) dX5_readNumber_63
    · have ho := gif_n ho c9
      refine lv_bipush (v := 10) hx hcd dX5_readNumber_16 (by decide) ?_
      refine lv_iload_n hx hcd dX5_readNumber_18 rfl (lv_at hl 2 rfl) ?_
      refine lv_imul hx hcd dX5_readNumber_19 ?_
      refine lv_aload_n hx hcd dX5_readNumber_20 rfl (lv_at hl 0 rfl) ?_
      refine g_getr hC hW (C := RX5) (T := TX5) (N := 6) (ci := 7) (k := 0) (index := 9) (i := 4) (r := 5) inGX5 rfl (by decide) fl_X5_9 (by decide) rfl rfl dX5_readNumber_21 ?_
      refine lv_aload_n hx hcd dX5_readNumber_24 rfl (lv_at hl 0 rfl) ?_
      refine g_geti hC hW (C := RX5) (T := TX5) (N := 6) (ci := 7) (k := 4) (index := 23) (i := 4) inGX5 rfl (by decide) fl_X5_23 (by decide) rfl rfl dX5_readNumber_25 ?_
      obtain ⟨i15, ho⟩ := gd_some ho
      refine g_cald hC hW (i := 5) (by decide) rfl i15 dX5_readNumber_28 ?_
      refine lv_bipush (v := 48) hx hcd dX5_readNumber_29 (by decide) ?_
      refine lv_isub hx hcd dX5_readNumber_31 ?_
      refine lv_iadd hx hcd dX5_readNumber_32 ?_
      refine lv_istore_n (lv' := [(2, .int (((10 : Int32) * x2) + ((σ 5 (σ 4 4).toNatClampNeg) - (48 : Int32)))), (0, .ref (ad 4)), (1, .int x1), (3, .int x3)]) hx hcd dX5_readNumber_33 rfl hl (by decide) rfl (fun ls hl => ?_)
      refine lv_aload_n hx hcd dX5_readNumber_34 rfl (lv_at hl 1 rfl) ?_
      refine lv_dup hx hcd dX5_readNumber_35 rfl ?_
      refine g_geti hC hW (C := RX5) (T := TX5) (N := 6) (ci := 7) (k := 4) (index := 23) (i := 4) inGX5 rfl (by decide) fl_X5_23 (by decide) rfl rfl dX5_readNumber_36 ?_
      refine lv_iconst (v := 1) hx hcd dX5_readNumber_39 (by decide) ?_
      refine lv_iadd hx hcd dX5_readNumber_40 ?_
      obtain ⟨σ16, eσ16, ho⟩ := lt_ex ho
      refine g_puti hC hW (C := RX5) (T := TX5) (N := 6) (ci := 7) (k := 4) (index := 23) (i := 4) inGX5 tyX5 tyX5_ok nmX5 rfl (by decide) fl_X5_23 rfl (by decide) rfl rfl rfl rfl dX5_readNumber_41 (fun H locs hW => ?_)
      rw [← eσ16] at hW
      refine lv_iinc (v := x3 + 1) (lv' := [(3, .int (x3 + 1)), (2, .int (((10 : Int32) * x2) + ((σ 5 (σ 4 4).toNatClampNeg) - (48 : Int32)))), (0, .ref (ad 4)), (1, .int x1)]) hx hcd dX5_readNumber_44 hl (k := 3) rfl rfl (by decide) rfl (fun ls hl => ?_)
      refine lv_goto (tgt := 4) hx hcd dX5_readNumber_47 (by decide) ?_
      exact hjmp _ (Option.some.inj ho).symm _ _ _ hW (lv_sub hl [2, 3, 1, 0] rfl)
set_option maxHeartbeats 4000000 in
set_option maxRecDepth 100000 in
theorem c_X5_readNumber (l : Launch) (D : va_G) (y : ClassId × ClassId × ClassId) (ad : Nat → Nat) (x1 : Int32) (σ : gS) (sz : Nat) {q : Int32 × gS} (h : X5_readNumber σ x1 = some q) : Met l yX5_readNumber (Cond.code yX5_readNumber cX5_readNumber 4 (some .boolean) :: gl) ({ frames := 1, cells := 0, slots := 0, locals := 20 }) (g_Pc D y ad σ sz [.ref (ad 4), .int x1]) (g_Qi D y ad q.2 sz q.1) 0 0 (g_A ad sz) := by
  have ho := h
  unfold X5_readNumber at ho
  refine g_start (by decide) (Nat.le_of_ble_eq_true rfl) (fun p e s m below meth c ls hC hr hlk hsz hW hl => ?_)
  have hx := hC.1
  have hcd := hC.2.1
  have hl : lv_has ls 4 [(0, .ref (ad 4)), (1, .int x1)] := hl
  refine lv_iconst (v := 0) hx hcd dX5_readNumber_0 (by decide) ?_
  refine lv_istore_n (lv' := [(2, .int 0), (0, .ref (ad 4)), (1, .int x1)]) hx hcd dX5_readNumber_1 rfl hl (by decide) rfl (fun ls hl => ?_)
  refine lv_iconst (v := 0) hx hcd dX5_readNumber_2 (by decide) ?_
  refine lv_istore_n (lv' := [(3, .int 0), (2, .int 0), (0, .ref (ad 4)), (1, .int x1)]) hx hcd dX5_readNumber_3 rfl hl (by decide) rfl (fun ls hl => ?_)
  exact l_X5_readNumber l D y ad sz hC hr hlk hsz _ ho _ _ _ hW (lv_sub hl [2, 3, 1, 0] rfl)
noncomputable def X5_readSign (σ : gS) (x1 : Int32) : Option (Int32 × gS) :=
  if x1 = 35 then ((X5_readNumber σ 1).bind fun q11 => gd (bz q11.1) <| some (q11.1, q11.2)) else (if x1 = 42 then ((X5_readNumber σ 4).bind fun q8 => gd (bz q8.1) <| some (q8.1, q8.2)) else (if (σ 4 3) ≤ (σ 4 4) then (some (0, σ)) else (gd (ib (σ 4 4) 60) <| if (σ 5 (σ 4 4).toNatClampNeg) = x1 then (lt_ (g_up σ 4 4 ((σ 4 4) + (1 : Int32))) fun σ6 => some (1, σ6)) else (some (0, σ)))))
set_option maxHeartbeats 4000000 in
set_option maxRecDepth 100000 in
theorem c_X5_readSign (l : Launch) (D : va_G) (y : ClassId × ClassId × ClassId) (ad : Nat → Nat) (x1 : Int32) (σ : gS) (sz : Nat) {q : Int32 × gS} (h : X5_readSign σ x1 = some q) : Met l yX5_readSign (Cond.code yX5_readSign cX5_readSign 2 (some .boolean) :: gl) ({ frames := 2, cells := 0, slots := 0, locals := 43 }) (g_Pc D y ad σ sz [.ref (ad 4), .int x1]) (g_Qi D y ad q.2 sz q.1) 0 0 (g_A ad sz) := by
  have ho := h
  unfold X5_readSign at ho
  refine g_start (by decide) (Nat.le_of_ble_eq_true rfl) (fun p e s m below meth c ls hC hr hlk hsz hW hl => ?_)
  have hx := hC.1
  have hcd := hC.2.1
  have hl : lv_has ls 2 [(0, .ref (ad 4)), (1, .int x1)] := hl
  refine lv_iload_n hx hcd dX5_readSign_0 rfl (lv_at hl 1 rfl) ?_
  refine lv_bipush (v := 35) hx hcd dX5_readSign_1 (by decide) ?_
  refine lv_icmp_ne (tgt := 12) hx hcd dX5_readSign_3 (by decide) (fun c1 => ?_) (fun c1 => ?_)
  · have ho := gif_n ho c1
    refine lv_iload_n hx hcd dX5_readSign_12 rfl (lv_at hl 1 rfl) ?_
    refine lv_bipush (v := 42) hx hcd dX5_readSign_13 (by decide) ?_
    refine lv_icmp_ne (tgt := 24) hx hcd dX5_readSign_15 (by decide) (fun c2 => ?_) (fun c2 => ?_)
    · have ho := gif_n ho c2
      refine lv_aload_n hx hcd dX5_readSign_24 rfl (lv_at hl 0 rfl) ?_
      refine g_geti hC hW (C := RX5) (T := TX5) (N := 6) (ci := 7) (k := 4) (index := 23) (i := 4) inGX5 rfl (by decide) fl_X5_23 (by decide) rfl rfl dX5_readSign_25 ?_
      refine lv_aload_n hx hcd dX5_readSign_28 rfl (lv_at hl 0 rfl) ?_
      refine g_geti hC hW (C := RX5) (T := TX5) (N := 6) (ci := 7) (k := 3) (index := 19) (i := 4) inGX5 rfl (by decide) fl_X5_19 (by decide) rfl rfl dX5_readSign_29 ?_
      refine lv_icmp_ge (tgt := 48) hx hcd dX5_readSign_32 (by decide) (fun c3 => ?_) (fun c3 => ?_)
      · have ho := gif_p ho c3
        refine lv_iconst (v := 0) hx hcd dX5_readSign_48 (by decide) ?_
        obtain rfl := Option.some.inj ho
        exact g_zret (r := 0) hC hr hlk hsz hW (by decide) dX5_readSign_49
      · have ho := gif_n ho c3
        refine lv_aload_n hx hcd dX5_readSign_35 rfl (lv_at hl 0 rfl) ?_
        refine g_getr hC hW (C := RX5) (T := TX5) (N := 6) (ci := 7) (k := 0) (index := 9) (i := 4) (r := 5) inGX5 rfl (by decide) fl_X5_9 (by decide) rfl rfl dX5_readSign_36 ?_
        refine lv_aload_n hx hcd dX5_readSign_39 rfl (lv_at hl 0 rfl) ?_
        refine g_geti hC hW (C := RX5) (T := TX5) (N := 6) (ci := 7) (k := 4) (index := 23) (i := 4) inGX5 rfl (by decide) fl_X5_23 (by decide) rfl rfl dX5_readSign_40 ?_
        obtain ⟨i4, ho⟩ := gd_some ho
        refine g_cald hC hW (i := 5) (by decide) rfl i4 dX5_readSign_43 ?_
        refine lv_iload_n hx hcd dX5_readSign_44 rfl (lv_at hl 1 rfl) ?_
        refine lv_icmp_eq (tgt := 50) hx hcd dX5_readSign_45 (by decide) (fun c5 => ?_) (fun c5 => ?_)
        · have ho := gif_p ho c5
          refine lv_aload_n hx hcd dX5_readSign_50 rfl (lv_at hl 0 rfl) ?_
          refine lv_dup hx hcd dX5_readSign_51 rfl ?_
          refine g_geti hC hW (C := RX5) (T := TX5) (N := 6) (ci := 7) (k := 4) (index := 23) (i := 4) inGX5 rfl (by decide) fl_X5_23 (by decide) rfl rfl dX5_readSign_52 ?_
          refine lv_iconst (v := 1) hx hcd dX5_readSign_55 (by decide) ?_
          refine lv_iadd hx hcd dX5_readSign_56 ?_
          obtain ⟨σ6, eσ6, ho⟩ := lt_ex ho
          refine g_puti hC hW (C := RX5) (T := TX5) (N := 6) (ci := 7) (k := 4) (index := 23) (i := 4) inGX5 tyX5 tyX5_ok nmX5 rfl (by decide) fl_X5_23 rfl (by decide) rfl rfl rfl rfl dX5_readSign_57 (fun H locs hW => ?_)
          rw [← eσ6] at hW
          refine lv_iconst (v := 1) hx hcd dX5_readSign_60 (by decide) ?_
          obtain rfl := Option.some.inj ho
          exact g_zret (r := 1) hC hr hlk hsz hW (by decide) dX5_readSign_61
        · have ho := gif_n ho c5
          refine lv_iconst (v := 0) hx hcd dX5_readSign_48 (by decide) ?_
          obtain rfl := Option.some.inj ho
          exact g_zret (r := 0) hC hr hlk hsz hW (by decide) dX5_readSign_49
    · have ho := gif_p ho c2
      refine lv_aload_n hx hcd dX5_readSign_18 rfl (lv_at hl 0 rfl) ?_
      refine lv_iconst (v := 4) hx hcd dX5_readSign_19 (by decide) ?_
      obtain ⟨q8, h7, ho⟩ := gb_some ho
      refine g_calli hW (g_runV (As := [.int 4]) (rest := []) (i := 4) hC hW (c_X5_readNumber l D y ad 4 _ _ h7) ok_X5_72 ⟨rfl, rfl, Nat.le_of_ble_eq_true rfl, Nat.le_of_ble_eq_true rfl⟩ (by decide) rfl rfl rfl rfl hl.1 rfl (Nat.le_of_ble_eq_true rfl) dX5_readSign_20 ⟨Nat.zero_le _, Nat.zero_le _⟩) (fun H locs hW => ?_)
      obtain ⟨z9, ho⟩ := gd_some ho
      obtain rfl := Option.some.inj ho
      exact g_zret (r := q8.1) hC hr hlk hsz hW z9 dX5_readSign_23
  · have ho := gif_p ho c1
    refine lv_aload_n hx hcd dX5_readSign_6 rfl (lv_at hl 0 rfl) ?_
    refine lv_iconst (v := 1) hx hcd dX5_readSign_7 (by decide) ?_
    obtain ⟨q11, h10, ho⟩ := gb_some ho
    refine g_calli hW (g_runV (As := [.int 1]) (rest := []) (i := 4) hC hW (c_X5_readNumber l D y ad 1 _ _ h10) ok_X5_72 ⟨rfl, rfl, Nat.le_of_ble_eq_true rfl, Nat.le_of_ble_eq_true rfl⟩ (by decide) rfl rfl rfl rfl hl.1 rfl (Nat.le_of_ble_eq_true rfl) dX5_readSign_8 ⟨Nat.zero_le _, Nat.zero_le _⟩) (fun H locs hW => ?_)
    obtain ⟨z12, ho⟩ := gd_some ho
    obtain rfl := Option.some.inj ho
    exact g_zret (r := q11.1) hC hr hlk hsz hW z12 dX5_readSign_11
noncomputable def X6_clear (σ : gS) : Option (Int32 × gS) :=
  (X0_makeEmpty σ 24).bind fun σ2 => (X4_forgetAll σ2).bind fun σ4 => some ((σ 24 1), σ4)
set_option maxHeartbeats 4000000 in
set_option maxRecDepth 100000 in
theorem c_X6_clear (l : Launch) (D : va_G) (y : ClassId × ClassId × ClassId) (ad : Nat → Nat) (σ : gS) (sz : Nat) {q : Int32 × gS} (h : X6_clear σ = some q) : Met l yX6_clear (Cond.code yX6_clear cX6_clear 2 (some .int) :: gl) ({ frames := 2, cells := 0, slots := 0, locals := 43 }) (g_Pc D y ad σ sz [.ref (ad 0)]) (g_Qi D y ad q.2 sz q.1) 0 0 (g_A ad sz) := by
  have ho := h
  unfold X6_clear at ho
  refine g_start (by decide) (Nat.le_of_ble_eq_true rfl) (fun p e s m below meth c ls hC hr hlk hsz hW hl => ?_)
  have hx := hC.1
  have hcd := hC.2.1
  have hl : lv_has ls 2 [(0, .ref (ad 0))] := hl
  refine lv_aload_n hx hcd dX6_clear_0 rfl (lv_at hl 0 rfl) ?_
  refine g_getr hC hW (C := RX6) (T := TX6) (N := 11) (ci := 8) (k := 0) (index := 12) (i := 0) (r := 24) inGX6 rfl (by decide) fl_X6_12 (by decide) rfl rfl dX6_clear_1 ?_
  refine g_geti hC hW (C := RX0) (T := TX0) (N := 16) (ci := 2) (k := 1) (index := 65) (i := 24) inGX0 rfl (by decide) fl_X6_65 (g_lt_air g_air24) (g_sh_air g_air24) rfl dX6_clear_4 ?_
  refine lv_istore_n (lv' := [(1, .int (σ 24 1)), (0, .ref (ad 0))]) hx hcd dX6_clear_7 rfl hl (by decide) rfl (fun ls hl => ?_)
  refine lv_aload_n hx hcd dX6_clear_8 rfl (lv_at hl 1 rfl) ?_
  refine g_getr hC hW (C := RX6) (T := TX6) (N := 11) (ci := 8) (k := 0) (index := 12) (i := 0) (r := 24) inGX6 rfl (by decide) fl_X6_12 (by decide) rfl rfl dX6_clear_9 ?_
  obtain ⟨σ2, h1, ho⟩ := gb_some ho
  refine g_callv hW (g_runV (As := []) (rest := []) (i := 24) hC hW (c_X0_makeEmpty l D y ad g_air24 _ _ h1) ok_X6_68 ⟨rfl, rfl, Nat.le_of_ble_eq_true rfl, Nat.le_of_ble_eq_true rfl⟩ (g_lt_air g_air24) (g_sh_air g_air24) rfl rfl rfl hl.1 rfl (Nat.le_of_ble_eq_true rfl) dX6_clear_12 ⟨Nat.zero_le _, Nat.zero_le _⟩) (fun H locs hW => ?_)
  refine lv_aload_n hx hcd dX6_clear_15 rfl (lv_at hl 1 rfl) ?_
  refine g_getr hC hW (C := RX6) (T := TX6) (N := 11) (ci := 8) (k := 3) (index := 25) (i := 0) (r := 2) inGX6 rfl (by decide) fl_X6_25 (by decide) rfl rfl dX6_clear_16 ?_
  obtain ⟨σ4, h3, ho⟩ := gb_some ho
  refine g_callv hW (g_runV (As := []) (rest := []) (i := 2) hC hW (c_X4_forgetAll l D y ad _ _ h3) ok_X6_71 ⟨rfl, rfl, Nat.le_of_ble_eq_true rfl, Nat.le_of_ble_eq_true rfl⟩ (by decide) rfl rfl rfl rfl hl.1 rfl (Nat.le_of_ble_eq_true rfl) dX6_clear_19 ⟨Nat.zero_le _, Nat.zero_le _⟩) (fun H locs hW => ?_)
  refine lv_iload_n hx hcd dX6_clear_22 rfl (lv_at hl 0 rfl) ?_
  obtain rfl := Option.some.inj ho
  exact g_iret hC hr hlk hsz hW dX6_clear_23
noncomputable def X6_assignAll (σ : gS) : Option (Int32 × gS) :=
  (X4_remember σ 24).bind fun σ2 => (X0_placeEverything σ2 24).bind fun q4 => some (q4.1, q4.2)
set_option maxHeartbeats 4000000 in
set_option maxRecDepth 100000 in
theorem c_X6_assignAll (l : Launch) (D : va_G) (y : ClassId × ClassId × ClassId) (ad : Nat → Nat) (σ : gS) (sz : Nat) {q : Int32 × gS} (h : X6_assignAll σ = some q) : Met l yX6_assignAll (Cond.code yX6_assignAll cX6_assignAll 1 (some .int) :: gl) ({ frames := 5, cells := 0, slots := 0, locals := 121 }) (g_Pc D y ad σ sz [.ref (ad 0)]) (g_Qi D y ad q.2 sz q.1) 0 0 (g_A ad sz) := by
  have ho := h
  unfold X6_assignAll at ho
  refine g_start (by decide) (Nat.le_of_ble_eq_true rfl) (fun p e s m below meth c ls hC hr hlk hsz hW hl => ?_)
  have hx := hC.1
  have hcd := hC.2.1
  have hl : lv_has ls 1 [(0, .ref (ad 0))] := hl
  refine lv_aload_n hx hcd dX6_assignAll_0 rfl (lv_at hl 0 rfl) ?_
  refine g_getr hC hW (C := RX6) (T := TX6) (N := 11) (ci := 8) (k := 3) (index := 25) (i := 0) (r := 2) inGX6 rfl (by decide) fl_X6_25 (by decide) rfl rfl dX6_assignAll_1 ?_
  refine lv_aload_n hx hcd dX6_assignAll_4 rfl (lv_at hl 0 rfl) ?_
  refine g_getr hC hW (C := RX6) (T := TX6) (N := 11) (ci := 8) (k := 0) (index := 12) (i := 0) (r := 24) inGX6 rfl (by decide) fl_X6_12 (by decide) rfl rfl dX6_assignAll_5 ?_
  obtain ⟨σ2, h1, ho⟩ := gb_some ho
  refine g_callv hW (g_runV (As := [.ref (ad 24)]) (rest := []) (i := 2) hC hW (c_X4_remember l D y ad g_air24 _ _ h1) ok_X6_89 ⟨rfl, rfl, Nat.le_of_ble_eq_true rfl, Nat.le_of_ble_eq_true rfl⟩ (by decide) rfl rfl rfl rfl hl.1 rfl (Nat.le_of_ble_eq_true rfl) dX6_assignAll_8 ⟨Nat.zero_le _, Nat.zero_le _⟩) (fun H locs hW => ?_)
  refine lv_aload_n hx hcd dX6_assignAll_11 rfl (lv_at hl 0 rfl) ?_
  refine g_getr hC hW (C := RX6) (T := TX6) (N := 11) (ci := 8) (k := 0) (index := 12) (i := 0) (r := 24) inGX6 rfl (by decide) fl_X6_12 (by decide) rfl rfl dX6_assignAll_12 ?_
  obtain ⟨q4, h3, ho⟩ := gb_some ho
  refine g_calli hW (g_runV (As := []) (rest := []) (i := 24) hC hW (c_X0_placeEverything l D y ad g_air24 _ _ h3) ok_X6_272 ⟨rfl, rfl, Nat.le_of_ble_eq_true rfl, Nat.le_of_ble_eq_true rfl⟩ (g_lt_air g_air24) (g_sh_air g_air24) rfl rfl rfl hl.1 rfl (Nat.le_of_ble_eq_true rfl) dX6_assignAll_15 ⟨Nat.zero_le _, Nat.zero_le _⟩) (fun H locs hW => ?_)
  obtain rfl := Option.some.inj ho
  exact g_iret hC hr hlk hsz hW dX6_assignAll_18
noncomputable def X6_conflicts_k0 (σ : gS) (x1 : Int32) (x2 : Int32) : Option ((Int32 × Int32) ⊕ (Int32)) :=
  if 20 ≤ x2 then (some (.inr (x1 >>> ((1 : Int32) &&& 31)))) else ((X0_conflictsOf σ 24 x2).bind fun r3 => (J6_bitCount_0f7a4 σ r3).bind fun r5 => some (.inl ((x1 + r5), (x2 + 1))))
noncomputable def X6_conflicts_s (σ : gS) (a : Int32 × Int32) : Option ((Int32 × Int32) ⊕ (Int32)) :=
  X6_conflicts_k0 σ a.1 a.2
noncomputable def X6_conflicts (σ : gS) : Option (Int32) :=
  gr (X6_conflicts_s σ) (0, 0)
set_option maxHeartbeats 4000000 in
set_option maxRecDepth 100000 in
theorem l_X6_conflicts {p : Program} {e : Env} {s : State} {m : MethodId} {args : Array Value} {below : List Frame} {meth : Method} {c : Code} (l : Launch) (D : va_G) (y : ClassId × ClassId × ClassId) (ad : Nat → Nat) (σ : gS) (sz : Nat) (hC : g_C p s m args c cX6_conflicts 3 RX6 D y) (hr : meth.sig.returnType = (some .int)) (hlk : meth.locks = false) (hsz : s.heap.size = sz) {r0 : Int32} : ∀ a : Int32 × Int32, gr (X6_conflicts_s σ) a = some r0 → ∀ (H : Heap) (locs : List Loc) (ls : Array Slot), g_W (g_A ad sz) s.heap D y ad [] σ H locs → lv_has ls 3 [(0, .ref (ad 0)), (1, .int a.1), (2, .int a.2)] → W p l e ({ frames := 3, cells := 0, slots := 0, locals := 71 }) s m args below meth c H locs 0 0 (MQ below (g_Qi D y ad σ sz r0) args s 0 0 (g_A ad sz)) (F0 m 4 ls []) := by
  have hx := hC.1
  have hcd := hC.2.1
  refine gr_all (fun a o ho hret hjmp => ?_)
  obtain ⟨x1, x2⟩ := a
  intro H locs ls hW hl
  have ho : X6_conflicts_k0 σ x1 x2 = some o := ho
  unfold X6_conflicts_k0 at ho
  refine lv_iload_n hx hcd dX6_conflicts_4 rfl (lv_at hl 2 rfl) ?_
  refine lv_bipush (v := 20) hx hcd dX6_conflicts_5 (by decide) ?_
  refine lv_icmp_ge (tgt := 30) hx hcd dX6_conflicts_7 (by decide) (fun c1 => ?_) (fun c1 => ?_)
  · have ho := gif_p ho c1
    refine lv_iload_n hx hcd dX6_conflicts_30 rfl (lv_at hl 1 rfl) ?_
    refine lv_iconst (v := 1) hx hcd dX6_conflicts_31 (by decide) ?_
    refine lv_ishr hx hcd dX6_conflicts_32 ?_
    obtain rfl := hret _ (Option.some.inj ho).symm
    exact g_iret hC hr hlk hsz hW dX6_conflicts_33
  · have ho := gif_n ho c1
    refine lv_iload_n hx hcd dX6_conflicts_10 rfl (lv_at hl 1 rfl) ?_
    refine lv_aload_n hx hcd dX6_conflicts_11 rfl (lv_at hl 0 rfl) ?_
    refine g_getr hC hW (C := RX6) (T := TX6) (N := 11) (ci := 8) (k := 0) (index := 12) (i := 0) (r := 24) inGX6 rfl (by decide) fl_X6_12 (by decide) rfl rfl dX6_conflicts_12 ?_
    refine lv_iload_n hx hcd dX6_conflicts_15 rfl (lv_at hl 2 rfl) ?_
    obtain ⟨r3, h2, ho⟩ := gb_some ho
    refine g_calli hW (g_runV (As := [.int x2]) (rest := [.int x1]) (i := 24) hC hW (c_X0_conflictsOf l D y ad g_air24 x2 _ _ h2) ok_X6_216 ⟨rfl, rfl, Nat.le_of_ble_eq_true rfl, Nat.le_of_ble_eq_true rfl⟩ (g_lt_air g_air24) (g_sh_air g_air24) rfl rfl rfl hl.1 rfl (Nat.le_of_ble_eq_true rfl) dX6_conflicts_16 ⟨Nat.zero_le _, Nat.zero_le _⟩) (fun H locs hW => ?_)
    obtain ⟨r5, h4, ho⟩ := gb_some ho
    refine g_calli hW (g_runS (As := [.int r3]) (rest := [.int x1]) hC hW (c_J6_bitCount_0f7a4 l D y ad r3 _ _ h4) ok_X6_137 ⟨rfl, rfl, Nat.le_of_ble_eq_true rfl, Nat.le_of_ble_eq_true rfl⟩ rfl hl.1 rfl (Nat.le_of_ble_eq_true rfl) dX6_conflicts_19 ⟨Nat.zero_le _, Nat.zero_le _⟩) (fun H locs hW => ?_)
    refine lv_iadd hx hcd dX6_conflicts_22 ?_
    refine lv_istore_n (lv' := [(1, .int (x1 + r5)), (0, .ref (ad 0)), (2, .int x2)]) hx hcd dX6_conflicts_23 rfl hl (by decide) rfl (fun ls hl => ?_)
    refine lv_iinc (v := x2 + 1) (lv' := [(2, .int (x2 + 1)), (1, .int (x1 + r5)), (0, .ref (ad 0))]) hx hcd dX6_conflicts_24 hl (k := 2) rfl rfl (by decide) rfl (fun ls hl => ?_)
    refine lv_goto (tgt := 4) hx hcd dX6_conflicts_27 (by decide) ?_
    exact hjmp _ (Option.some.inj ho).symm _ _ _ hW (lv_sub hl [2, 1, 0] rfl)
set_option maxHeartbeats 4000000 in
set_option maxRecDepth 100000 in
theorem c_X6_conflicts (l : Launch) (D : va_G) (y : ClassId × ClassId × ClassId) (ad : Nat → Nat) (σ : gS) (sz : Nat) {q : Int32} (h : X6_conflicts σ = some q) : Met l yX6_conflicts (Cond.code yX6_conflicts cX6_conflicts 3 (some .int) :: gl) ({ frames := 3, cells := 0, slots := 0, locals := 71 }) (g_Pc D y ad σ sz [.ref (ad 0)]) (g_Qi D y ad σ sz q) 0 0 (g_A ad sz) := by
  have ho := h
  unfold X6_conflicts at ho
  refine g_start (by decide) (Nat.le_of_ble_eq_true rfl) (fun p e s m below meth c ls hC hr hlk hsz hW hl => ?_)
  have hx := hC.1
  have hcd := hC.2.1
  have hl : lv_has ls 3 [(0, .ref (ad 0))] := hl
  refine lv_iconst (v := 0) hx hcd dX6_conflicts_0 (by decide) ?_
  refine lv_istore_n (lv' := [(1, .int 0), (0, .ref (ad 0))]) hx hcd dX6_conflicts_1 rfl hl (by decide) rfl (fun ls hl => ?_)
  refine lv_iconst (v := 0) hx hcd dX6_conflicts_2 (by decide) ?_
  refine lv_istore_n (lv' := [(2, .int 0), (1, .int 0), (0, .ref (ad 0))]) hx hcd dX6_conflicts_3 rfl hl (by decide) rfl (fun ls hl => ?_)
  exact l_X6_conflicts l D y ad σ sz hC hr hlk hsz _ ho _ _ _ hW (lv_sub hl [2, 1, 0] rfl)
noncomputable def X6_minutes_k0 (σ : gS) (x1 : Int32) : Option ((Nat × Int32 × Int32 × Int32 × gS) ⊕ (Int32 × gS)) :=
  if 20 ≤ x1 then (some (.inl (1, 0, 0, 0, σ))) else ((X0_isOnStand σ 24 x1).bind fun r4 => if r4 = 0 then (some (.inl (0, (x1 + 1), 0, 0, σ))) else (gd (ib x1 20) <| gd (ib (σ (24 + 9) x1.toNatClampNeg) 1441) <| lt_ (g_up σ 1 (σ (24 + 9) x1.toNatClampNeg).toNatClampNeg ((σ 1 (σ (24 + 9) x1.toNatClampNeg).toNatClampNeg) + (1 : Int32))) fun σ8 => gd (ib (σ8 (24 + 10) x1.toNatClampNeg) 1441) <| lt_ (g_up σ8 1 (σ8 (24 + 10) x1.toNatClampNeg).toNatClampNeg ((σ8 1 (σ8 (24 + 10) x1.toNatClampNeg).toNatClampNeg) - (1 : Int32))) fun σ10 => some (.inl (0, (x1 + 1), 0, 0, σ10))))
noncomputable def X6_minutes_k1 (σ : gS) (x1 : Int32) (x2 : Int32) (x3 : Int32) : Option ((Nat × Int32 × Int32 × Int32 × gS) ⊕ (Int32 × gS)) :=
  if 1440 ≤ x3 then (some (.inr (x2, σ))) else (gd (ib x3 1441) <| some (.inl (1, (x1 + (σ 1 x3.toNatClampNeg)), (x2 + (x1 + (σ 1 x3.toNatClampNeg))), (x3 + 1), σ)))
noncomputable def X6_minutes_s (a : Nat × Int32 × Int32 × Int32 × gS) : Option ((Nat × Int32 × Int32 × Int32 × gS) ⊕ (Int32 × gS)) :=
  if a.1 = 0 then X6_minutes_k0 a.2.2.2.2 a.2.1 else if a.1 = 1 then X6_minutes_k1 a.2.2.2.2 a.2.1 a.2.2.1 a.2.2.2.1 else none
noncomputable def X6_minutes (σ : gS) : Option (Int32 × gS) :=
  lt_ (g_fill σ 1 1441 0) fun σ1 => gr (X6_minutes_s) (0, 0, 0, 0, σ1)
set_option maxHeartbeats 4000000 in
set_option maxRecDepth 100000 in
theorem l_X6_minutes {p : Program} {e : Env} {s : State} {m : MethodId} {args : Array Value} {below : List Frame} {meth : Method} {c : Code} (l : Launch) (D : va_G) (y : ClassId × ClassId × ClassId) (ad : Nat → Nat) (sz : Nat) (hC : g_C p s m args c cX6_minutes 4 RX6 D y) (hr : meth.sig.returnType = (some .int)) (hlk : meth.locks = false) (hsz : s.heap.size = sz) {r0 : Int32 × gS} : ∀ a : Nat × Int32 × Int32 × Int32 × gS, gr (X6_minutes_s) a = some r0 → ∀ (H : Heap) (locs : List Loc) (ls : Array Slot), g_W (g_A ad sz) s.heap D y ad [] a.2.2.2.2 H locs → (a.1 = 0 → lv_has ls 4 [(0, .ref (ad 0)), (1, .int a.2.1)] → W p l e ({ frames := 1, cells := 0, slots := 0, locals := 23 }) s m args below meth c H locs 0 0 (MQ below (g_Qi D y ad r0.2 sz r0.1) args s 0 0 (g_A ad sz)) (F0 m 10 ls [])) ∧ (a.1 = 1 → lv_has ls 4 [(0, .ref (ad 0)), (1, .int a.2.1), (2, .int a.2.2.1), (3, .int a.2.2.2.1)] → W p l e ({ frames := 1, cells := 0, slots := 0, locals := 23 }) s m args below meth c H locs 0 0 (MQ below (g_Qi D y ad r0.2 sz r0.1) args s 0 0 (g_A ad sz)) (F0 m 75 ls [])) := by
  have hx := hC.1
  have hcd := hC.2.1
  refine gr_all (fun a o ho hret hjmp => ?_)
  obtain ⟨lb, y0, y1, y2, σ⟩ := a
  intro H locs ls hW
  refine ⟨?_, ?_⟩
  · intro hlb hl
    have hlb : lb = 0 := hlb
    subst hlb
    have ho : X6_minutes_k0 σ y0 = some o := ho
    unfold X6_minutes_k0 at ho
    have hl : lv_has ls 4 [(0, .ref (ad 0)), (1, .int y0)] := hl
    have hW : g_W (g_A ad sz) s.heap D y ad [] σ H locs := hW
    refine lv_iload_n hx hcd dX6_minutes_10 rfl (lv_at hl 1 rfl) ?_
    refine lv_bipush (v := 20) hx hcd dX6_minutes_11 (by decide) ?_
    refine lv_icmp_ge (tgt := 69) hx hcd dX6_minutes_13 (by decide) (fun c2 => ?_) (fun c2 => ?_)
    · have ho := gif_p ho c2
      refine lv_iconst (v := 0) hx hcd dX6_minutes_69 (by decide) ?_
      refine lv_istore_n (lv' := [(1, .int 0), (0, .ref (ad 0))]) hx hcd dX6_minutes_70 rfl hl (by decide) rfl (fun ls hl => ?_)
      refine lv_iconst (v := 0) hx hcd dX6_minutes_71 (by decide) ?_
      refine lv_istore_n (lv' := [(2, .int 0), (1, .int 0), (0, .ref (ad 0))]) hx hcd dX6_minutes_72 rfl hl (by decide) rfl (fun ls hl => ?_)
      refine lv_iconst (v := 0) hx hcd dX6_minutes_73 (by decide) ?_
      refine lv_istore_n (lv' := [(3, .int 0), (2, .int 0), (1, .int 0), (0, .ref (ad 0))]) hx hcd dX6_minutes_74 rfl hl (by decide) rfl (fun ls hl => ?_)
      exact (hjmp _ (Option.some.inj ho).symm _ _ _ hW).2 rfl (lv_sub hl [3, 2, 1, 0] rfl)
    · have ho := gif_n ho c2
      refine lv_aload_n hx hcd dX6_minutes_16 rfl (lv_at hl 0 rfl) ?_
      refine g_getr hC hW (C := RX6) (T := TX6) (N := 11) (ci := 8) (k := 0) (index := 12) (i := 0) (r := 24) inGX6 rfl (by decide) fl_X6_12 (by decide) rfl rfl dX6_minutes_17 ?_
      refine lv_iload_n hx hcd dX6_minutes_20 rfl (lv_at hl 1 rfl) ?_
      obtain ⟨r4, h3, ho⟩ := gb_some ho
      refine g_calli hW (g_runV (As := [.int y0]) (rest := []) (i := 24) hC hW (c_X0_isOnStand l D y ad g_air24 y0 _ _ h3) ok_X6_326 ⟨rfl, rfl, Nat.le_of_ble_eq_true rfl, Nat.le_of_ble_eq_true rfl⟩ (g_lt_air g_air24) (g_sh_air g_air24) rfl rfl rfl hl.1 rfl (Nat.le_of_ble_eq_true rfl) dX6_minutes_21 ⟨Nat.zero_le _, Nat.zero_le _⟩) (fun H locs hW => ?_)
      refine lv_if_eq (tgt := 63) hx hcd dX6_minutes_24 (by decide) (fun c5 => ?_) (fun c5 => ?_)
      · have ho := gif_p ho c5
        refine lv_iinc (v := y0 + 1) (lv' := [(1, .int (y0 + 1)), (0, .ref (ad 0))]) hx hcd dX6_minutes_63 hl (k := 1) rfl rfl (by decide) rfl (fun ls hl => ?_)
        refine lv_goto (tgt := 10) hx hcd dX6_minutes_66 (by decide) ?_
        exact (hjmp _ (Option.some.inj ho).symm _ _ _ hW).1 rfl (lv_sub hl [1, 0] rfl)
      · have ho := gif_n ho c5
        refine lv_aload_n hx hcd dX6_minutes_27 rfl (lv_at hl 0 rfl) ?_
        refine g_getr hC hW (C := RX6) (T := TX6) (N := 11) (ci := 8) (k := 7) (index := 50) (i := 0) (r := 1) inGX6 rfl (by decide) fl_X6_50 (by decide) rfl rfl dX6_minutes_28 ?_
        refine lv_aload_n hx hcd dX6_minutes_31 rfl (lv_at hl 0 rfl) ?_
        refine g_getr hC hW (C := RX6) (T := TX6) (N := 11) (ci := 8) (k := 0) (index := 12) (i := 0) (r := 24) inGX6 rfl (by decide) fl_X6_12 (by decide) rfl rfl dX6_minutes_32 ?_
        refine g_getr hC hW (C := RX0) (T := TX0) (N := 16) (ci := 2) (k := 13) (index := 204) (i := 24) (r := (24 + 9)) inGX0 rfl (by decide) fl_X6_204 (g_lt_air g_air24) (g_sh_air g_air24) rfl dX6_minutes_35 ?_
        refine lv_iload_n hx hcd dX6_minutes_38 rfl (lv_at hl 1 rfl) ?_
        obtain ⟨i6, ho⟩ := gd_some ho
        refine g_iald hC hW (i := (24 + 9)) (g_lt_arr (j := 9) g_air24 (by decide)) (g_sa9 g_air24) i6 dX6_minutes_39 ?_
        refine lv_dup2_11 hx hcd dX6_minutes_40 rfl rfl ?_
        obtain ⟨i7, ho⟩ := gd_some ho
        refine g_iald hC hW (i := 1) (by decide) rfl i7 dX6_minutes_41 ?_
        refine lv_iconst (v := 1) hx hcd dX6_minutes_42 (by decide) ?_
        refine lv_iadd hx hcd dX6_minutes_43 ?_
        obtain ⟨σ8, eσ8, ho⟩ := lt_ex ho
        refine g_iast hC hW (i := 1) (by decide) rfl i7 dX6_minutes_44 (fun H locs hW => ?_)
        rw [← eσ8] at hW
        refine lv_aload_n hx hcd dX6_minutes_45 rfl (lv_at hl 0 rfl) ?_
        refine g_getr hC hW (C := RX6) (T := TX6) (N := 11) (ci := 8) (k := 7) (index := 50) (i := 0) (r := 1) inGX6 rfl (by decide) fl_X6_50 (by decide) rfl rfl dX6_minutes_46 ?_
        refine lv_aload_n hx hcd dX6_minutes_49 rfl (lv_at hl 0 rfl) ?_
        refine g_getr hC hW (C := RX6) (T := TX6) (N := 11) (ci := 8) (k := 0) (index := 12) (i := 0) (r := 24) inGX6 rfl (by decide) fl_X6_12 (by decide) rfl rfl dX6_minutes_50 ?_
        refine g_getr hC hW (C := RX0) (T := TX0) (N := 16) (ci := 2) (k := 14) (index := 207) (i := 24) (r := (24 + 10)) inGX0 rfl (by decide) fl_X6_207 (g_lt_air g_air24) (g_sh_air g_air24) rfl dX6_minutes_53 ?_
        refine lv_iload_n hx hcd dX6_minutes_56 rfl (lv_at hl 1 rfl) ?_
        refine g_iald hC hW (i := (24 + 10)) (g_lt_arr (j := 10) g_air24 (by decide)) (g_sa10 g_air24) i6 dX6_minutes_57 ?_
        refine lv_dup2_11 hx hcd dX6_minutes_58 rfl rfl ?_
        obtain ⟨i9, ho⟩ := gd_some ho
        refine g_iald hC hW (i := 1) (by decide) rfl i9 dX6_minutes_59 ?_
        refine lv_iconst (v := 1) hx hcd dX6_minutes_60 (by decide) ?_
        refine lv_isub hx hcd dX6_minutes_61 ?_
        obtain ⟨σ10, eσ10, ho⟩ := lt_ex ho
        refine g_iast hC hW (i := 1) (by decide) rfl i9 dX6_minutes_62 (fun H locs hW => ?_)
        rw [← eσ10] at hW
        refine lv_iinc (v := y0 + 1) (lv' := [(1, .int (y0 + 1)), (0, .ref (ad 0))]) hx hcd dX6_minutes_63 hl (k := 1) rfl rfl (by decide) rfl (fun ls hl => ?_)
        refine lv_goto (tgt := 10) hx hcd dX6_minutes_66 (by decide) ?_
        exact (hjmp _ (Option.some.inj ho).symm _ _ _ hW).1 rfl (lv_sub hl [1, 0] rfl)
  · intro hlb hl
    have hlb : lb = 1 := hlb
    subst hlb
    have ho : X6_minutes_k1 σ y0 y1 y2 = some o := ho
    unfold X6_minutes_k1 at ho
    have hl : lv_has ls 4 [(0, .ref (ad 0)), (1, .int y0), (2, .int y1), (3, .int y2)] := hl
    have hW : g_W (g_A ad sz) s.heap D y ad [] σ H locs := hW
    refine lv_iload_n hx hcd dX6_minutes_75 rfl (lv_at hl 3 rfl) ?_
    refine lv_sipush (v := 1440) hx hcd dX6_minutes_76 (by decide) ?_
    refine lv_icmp_ge (tgt := 101) hx hcd dX6_minutes_79 (by decide) (fun c11 => ?_) (fun c11 => ?_)
    · have ho := gif_p ho c11
      refine lv_iload_n hx hcd dX6_minutes_101 rfl (lv_at hl 2 rfl) ?_
      obtain rfl := hret _ (Option.some.inj ho).symm
      exact g_iret hC hr hlk hsz hW dX6_minutes_102
    · have ho := gif_n ho c11
      refine lv_iload_n hx hcd dX6_minutes_82 rfl (lv_at hl 1 rfl) ?_
      refine lv_aload_n hx hcd dX6_minutes_83 rfl (lv_at hl 0 rfl) ?_
      refine g_getr hC hW (C := RX6) (T := TX6) (N := 11) (ci := 8) (k := 7) (index := 50) (i := 0) (r := 1) inGX6 rfl (by decide) fl_X6_50 (by decide) rfl rfl dX6_minutes_84 ?_
      refine lv_iload_n hx hcd dX6_minutes_87 rfl (lv_at hl 3 rfl) ?_
      obtain ⟨i12, ho⟩ := gd_some ho
      refine g_iald hC hW (i := 1) (by decide) rfl i12 dX6_minutes_88 ?_
      refine lv_iadd hx hcd dX6_minutes_89 ?_
      refine lv_istore_n (lv' := [(1, .int (y0 + (σ 1 y2.toNatClampNeg))), (0, .ref (ad 0)), (2, .int y1), (3, .int y2)]) hx hcd dX6_minutes_90 rfl hl (by decide) rfl (fun ls hl => ?_)
      refine lv_iload_n hx hcd dX6_minutes_91 rfl (lv_at hl 2 rfl) ?_
      refine lv_iload_n hx hcd dX6_minutes_92 rfl (lv_at hl 0 rfl) ?_
      refine lv_iadd hx hcd dX6_minutes_93 ?_
      refine lv_istore_n (lv' := [(2, .int (y1 + (y0 + (σ 1 y2.toNatClampNeg)))), (1, .int (y0 + (σ 1 y2.toNatClampNeg))), (0, .ref (ad 0)), (3, .int y2)]) hx hcd dX6_minutes_94 rfl hl (by decide) rfl (fun ls hl => ?_)
      refine lv_iinc (v := y2 + 1) (lv' := [(3, .int (y2 + 1)), (2, .int (y1 + (y0 + (σ 1 y2.toNatClampNeg)))), (1, .int (y0 + (σ 1 y2.toNatClampNeg))), (0, .ref (ad 0))]) hx hcd dX6_minutes_95 hl (k := 3) rfl rfl (by decide) rfl (fun ls hl => ?_)
      refine lv_goto (tgt := 75) hx hcd dX6_minutes_98 (by decide) ?_
      exact (hjmp _ (Option.some.inj ho).symm _ _ _ hW).2 rfl (lv_sub hl [3, 2, 1, 0] rfl)
set_option maxHeartbeats 4000000 in
set_option maxRecDepth 100000 in
theorem c_X6_minutes (l : Launch) (D : va_G) (y : ClassId × ClassId × ClassId) (ad : Nat → Nat) (σ : gS) (sz : Nat) {q : Int32 × gS} (h : X6_minutes σ = some q) : Met l yX6_minutes (Cond.code yX6_minutes cX6_minutes 4 (some .int) :: gl) ({ frames := 1, cells := 0, slots := 0, locals := 23 }) (g_Pc D y ad σ sz [.ref (ad 0)]) (g_Qi D y ad q.2 sz q.1) 0 0 (g_A ad sz) := by
  have ho := h
  unfold X6_minutes at ho
  refine g_start (by decide) (Nat.le_of_ble_eq_true rfl) (fun p e s m below meth c ls hC hr hlk hsz hW hl => ?_)
  have hx := hC.1
  have hcd := hC.2.1
  have hl : lv_has ls 4 [(0, .ref (ad 0))] := hl
  refine lv_aload_n hx hcd dX6_minutes_0 rfl (lv_at hl 0 rfl) ?_
  refine g_getr hC hW (C := RX6) (T := TX6) (N := 11) (ci := 8) (k := 7) (index := 50) (i := 0) (r := 1) inGX6 rfl (by decide) fl_X6_50 (by decide) rfl rfl dX6_minutes_1 ?_
  refine lv_iconst (v := 0) hx hcd dX6_minutes_4 (by decide) ?_
  obtain ⟨σ1, eσ1, ho⟩ := lt_ex ho
  refine g_callv hW (g_runS (As := [.ref (ad 1), .int 0]) (rest := []) hC hW (c_fill l D y ad (by decide) rfl (by decide) 0 _ _) ok_X6_320 ⟨rfl, rfl, Nat.le_of_ble_eq_true rfl, Nat.le_of_ble_eq_true rfl⟩ rfl hl.1 rfl (Nat.le_of_ble_eq_true rfl) dX6_minutes_5 ⟨Nat.zero_le _, Nat.zero_le _⟩) (fun H locs hW => ?_)
  rw [← eσ1] at hW
  refine lv_iconst (v := 0) hx hcd dX6_minutes_8 (by decide) ?_
  refine lv_istore_n (lv' := [(1, .int 0), (0, .ref (ad 0))]) hx hcd dX6_minutes_9 rfl hl (by decide) rfl (fun ls hl => ?_)
  exact (l_X6_minutes l D y ad sz hC hr hlk hsz _ ho _ _ _ hW).1 rfl (lv_sub hl [1, 0] rfl)
noncomputable def X6_peak_k0 (σ : gS) (x1 : Int32) (x2 : Int32) (x3 : Int32) (x4 : Int32) : Option ((Int32 × Int32 × Int32 × Int32) ⊕ (Int32)) :=
  if 20 ≤ x4 then (if x1 = 0 then (some (.inr x2)) else (some (.inr x3))) else ((X0_isOnStand σ 24 x4).bind fun r4 => if r4 = 0 then (some (.inl (x1, x2, x3, (x4 + 1)))) else (gd (ib x4 20) <| (X0_thereAt σ 24 (σ (24 + 9) x4.toNatClampNeg)).bind fun r8 => if x2 < r8 then (some (.inl (x1, r8, (σ (24 + 9) x4.toNatClampNeg), (x4 + 1)))) else (if r8 = x2 then (if x3 ≤ (σ (24 + 9) x4.toNatClampNeg) then (some (.inl (x1, x2, x3, (x4 + 1)))) else (some (.inl (x1, r8, (σ (24 + 9) x4.toNatClampNeg), (x4 + 1))))) else (some (.inl (x1, x2, x3, (x4 + 1)))))))
noncomputable def X6_peak_s (σ : gS) (a : Int32 × Int32 × Int32 × Int32) : Option ((Int32 × Int32 × Int32 × Int32) ⊕ (Int32)) :=
  X6_peak_k0 σ a.1 a.2.1 a.2.2.1 a.2.2.2
noncomputable def X6_peak (σ : gS) (x1 : Int32) : Option (Int32) :=
  gr (X6_peak_s σ) (x1, 0, 0, 0)
set_option maxHeartbeats 4000000 in
set_option maxRecDepth 100000 in
theorem l_X6_peak {p : Program} {e : Env} {s : State} {m : MethodId} {args : Array Value} {below : List Frame} {meth : Method} {c : Code} (l : Launch) (D : va_G) (y : ClassId × ClassId × ClassId) (ad : Nat → Nat) (σ : gS) (sz : Nat) (hC : g_C p s m args c cX6_peak 7 RX6 D y) (hr : meth.sig.returnType = (some .int)) (hlk : meth.locks = false) (hsz : s.heap.size = sz) {r0 : Int32} : ∀ a : Int32 × Int32 × Int32 × Int32, gr (X6_peak_s σ) a = some r0 → ∀ (H : Heap) (locs : List Loc) (ls : Array Slot), g_W (g_A ad sz) s.heap D y ad [] σ H locs → lv_has ls 7 [(0, .ref (ad 0)), (1, .int a.1), (2, .int a.2.1), (3, .int a.2.2.1), (4, .int a.2.2.2)] → W p l e ({ frames := 2, cells := 0, slots := 0, locals := 45 }) s m args below meth c H locs 0 0 (MQ below (g_Qi D y ad σ sz r0) args s 0 0 (g_A ad sz)) (F0 m 7 ls []) := by
  have hx := hC.1
  have hcd := hC.2.1
  refine gr_all (fun a o ho hret hjmp => ?_)
  obtain ⟨x1, x2, x3, x4⟩ := a
  intro H locs ls hW hl
  have ho : X6_peak_k0 σ x1 x2 x3 x4 = some o := ho
  unfold X6_peak_k0 at ho
  refine lv_iload hx hcd dX6_peak_7 (lv_at hl 4 rfl) ?_
  refine lv_bipush (v := 20) hx hcd dX6_peak_9 (by decide) ?_
  refine lv_icmp_ge (tgt := 79) hx hcd dX6_peak_11 (by decide) (fun c1 => ?_) (fun c1 => ?_)
  · have ho := gif_p ho c1
    refine lv_iload_n hx hcd dX6_peak_79 rfl (lv_at hl 1 rfl) ?_
    refine lv_if_eq (tgt := 87) hx hcd dX6_peak_80 (by decide) (fun c2 => ?_) (fun c2 => ?_)
    · have ho := gif_p ho c2
      refine lv_iload_n hx hcd dX6_peak_87 rfl (lv_at hl 2 rfl) ?_
      obtain rfl := hret _ (Option.some.inj ho).symm
      exact g_iret hC hr hlk hsz hW dX6_peak_88
    · have ho := gif_n ho c2
      refine lv_iload_n hx hcd dX6_peak_83 rfl (lv_at hl 3 rfl) ?_
      refine lv_goto (tgt := 88) hx hcd dX6_peak_84 (by decide) ?_
      obtain rfl := hret _ (Option.some.inj ho).symm
      exact g_iret hC hr hlk hsz hW dX6_peak_88
  · have ho := gif_n ho c1
    refine lv_aload_n hx hcd dX6_peak_14 rfl (lv_at hl 0 rfl) ?_
    refine g_getr hC hW (C := RX6) (T := TX6) (N := 11) (ci := 8) (k := 0) (index := 12) (i := 0) (r := 24) inGX6 rfl (by decide) fl_X6_12 (by decide) rfl rfl dX6_peak_15 ?_
    refine lv_iload hx hcd dX6_peak_18 (lv_at hl 4 rfl) ?_
    obtain ⟨r4, h3, ho⟩ := gb_some ho
    refine g_calli hW (g_runV (As := [.int x4]) (rest := []) (i := 24) hC hW (c_X0_isOnStand l D y ad g_air24 x4 _ _ h3) ok_X6_326 ⟨rfl, rfl, Nat.le_of_ble_eq_true rfl, Nat.le_of_ble_eq_true rfl⟩ (g_lt_air g_air24) (g_sh_air g_air24) rfl rfl rfl hl.1 rfl (Nat.le_of_ble_eq_true rfl) dX6_peak_20 ⟨Nat.zero_le _, Nat.zero_le _⟩) (fun H locs hW => ?_)
    refine lv_if_eq (tgt := 73) hx hcd dX6_peak_23 (by decide) (fun c5 => ?_) (fun c5 => ?_)
    · have ho := gif_p ho c5
      refine lv_iinc (v := x4 + 1) (lv' := [(4, .int (x4 + 1)), (0, .ref (ad 0)), (1, .int x1), (2, .int x2), (3, .int x3)]) hx hcd dX6_peak_73 hl (k := 4) rfl rfl (by decide) rfl (fun ls hl => ?_)
      refine lv_goto (tgt := 7) hx hcd dX6_peak_76 (by decide) ?_
      exact hjmp _ (Option.some.inj ho).symm _ _ _ hW (lv_sub hl [1, 2, 3, 4, 0] rfl)
    · have ho := gif_n ho c5
      refine lv_aload_n hx hcd dX6_peak_26 rfl (lv_at hl 0 rfl) ?_
      refine g_getr hC hW (C := RX6) (T := TX6) (N := 11) (ci := 8) (k := 0) (index := 12) (i := 0) (r := 24) inGX6 rfl (by decide) fl_X6_12 (by decide) rfl rfl dX6_peak_27 ?_
      refine g_getr hC hW (C := RX0) (T := TX0) (N := 16) (ci := 2) (k := 13) (index := 204) (i := 24) (r := (24 + 9)) inGX0 rfl (by decide) fl_X6_204 (g_lt_air g_air24) (g_sh_air g_air24) rfl dX6_peak_30 ?_
      refine lv_iload hx hcd dX6_peak_33 (lv_at hl 4 rfl) ?_
      obtain ⟨i6, ho⟩ := gd_some ho
      refine g_iald hC hW (i := (24 + 9)) (g_lt_arr (j := 9) g_air24 (by decide)) (g_sa9 g_air24) i6 dX6_peak_35 ?_
      refine lv_istore (lv' := [(5, .int (σ (24 + 9) x4.toNatClampNeg)), (0, .ref (ad 0)), (1, .int x1), (2, .int x2), (3, .int x3), (4, .int x4)]) hx hcd dX6_peak_36 hl (by decide) rfl (fun ls hl => ?_)
      refine lv_aload_n hx hcd dX6_peak_38 rfl (lv_at hl 1 rfl) ?_
      refine g_getr hC hW (C := RX6) (T := TX6) (N := 11) (ci := 8) (k := 0) (index := 12) (i := 0) (r := 24) inGX6 rfl (by decide) fl_X6_12 (by decide) rfl rfl dX6_peak_39 ?_
      refine lv_iload hx hcd dX6_peak_42 (lv_at hl 0 rfl) ?_
      obtain ⟨r8, h7, ho⟩ := gb_some ho
      refine g_calli hW (g_runV (As := [.int (σ (24 + 9) x4.toNatClampNeg)]) (rest := []) (i := 24) hC hW (c_X0_thereAt l D y ad g_air24 (σ (24 + 9) x4.toNatClampNeg) _ _ h7) ok_X6_329 ⟨rfl, rfl, Nat.le_of_ble_eq_true rfl, Nat.le_of_ble_eq_true rfl⟩ (g_lt_air g_air24) (g_sh_air g_air24) rfl rfl rfl hl.1 rfl (Nat.le_of_ble_eq_true rfl) dX6_peak_44 ⟨Nat.zero_le _, Nat.zero_le _⟩) (fun H locs hW => ?_)
      refine lv_istore (lv' := [(6, .int r8), (5, .int (σ (24 + 9) x4.toNatClampNeg)), (0, .ref (ad 0)), (1, .int x1), (2, .int x2), (3, .int x3), (4, .int x4)]) hx hcd dX6_peak_47 hl (by decide) rfl (fun ls hl => ?_)
      refine lv_iload hx hcd dX6_peak_49 (lv_at hl 0 rfl) ?_
      refine lv_iload_n hx hcd dX6_peak_51 rfl (lv_at hl 4 rfl) ?_
      refine lv_icmp_gt (tgt := 67) hx hcd dX6_peak_52 (by decide) (fun c9 => ?_) (fun c9 => ?_)
      · have ho := gif_p ho c9
        refine lv_iload hx hcd dX6_peak_67 (lv_at hl 0 rfl) ?_
        refine lv_istore_n (lv' := [(2, .int r8), (6, .int r8), (5, .int (σ (24 + 9) x4.toNatClampNeg)), (0, .ref (ad 0)), (1, .int x1), (3, .int x3), (4, .int x4)]) hx hcd dX6_peak_69 rfl hl (by decide) rfl (fun ls hl => ?_)
        refine lv_iload hx hcd dX6_peak_70 (lv_at hl 2 rfl) ?_
        refine lv_istore_n (lv' := [(3, .int (σ (24 + 9) x4.toNatClampNeg)), (2, .int r8), (6, .int r8), (5, .int (σ (24 + 9) x4.toNatClampNeg)), (0, .ref (ad 0)), (1, .int x1), (4, .int x4)]) hx hcd dX6_peak_72 rfl hl (by decide) rfl (fun ls hl => ?_)
        refine lv_iinc (v := x4 + 1) (lv' := [(4, .int (x4 + 1)), (3, .int (σ (24 + 9) x4.toNatClampNeg)), (2, .int r8), (6, .int r8), (5, .int (σ (24 + 9) x4.toNatClampNeg)), (0, .ref (ad 0)), (1, .int x1)]) hx hcd dX6_peak_73 hl (k := 6) rfl rfl (by decide) rfl (fun ls hl => ?_)
        refine lv_goto (tgt := 7) hx hcd dX6_peak_76 (by decide) ?_
        exact hjmp _ (Option.some.inj ho).symm _ _ _ hW (lv_sub hl [5, 6, 2, 1, 0] rfl)
      · have ho := gif_n ho c9
        refine lv_iload hx hcd dX6_peak_55 (lv_at hl 0 rfl) ?_
        refine lv_iload_n hx hcd dX6_peak_57 rfl (lv_at hl 4 rfl) ?_
        refine lv_icmp_ne (tgt := 73) hx hcd dX6_peak_58 (by decide) (fun c10 => ?_) (fun c10 => ?_)
        · have ho := gif_n ho c10
          refine lv_iinc (v := x4 + 1) (lv' := [(4, .int (x4 + 1)), (6, .int r8), (5, .int (σ (24 + 9) x4.toNatClampNeg)), (0, .ref (ad 0)), (1, .int x1), (2, .int x2), (3, .int x3)]) hx hcd dX6_peak_73 hl (k := 6) rfl rfl (by decide) rfl (fun ls hl => ?_)
          refine lv_goto (tgt := 7) hx hcd dX6_peak_76 (by decide) ?_
          exact hjmp _ (Option.some.inj ho).symm _ _ _ hW (lv_sub hl [3, 4, 5, 6, 0] rfl)
        · have ho := gif_p ho c10
          refine lv_iload hx hcd dX6_peak_61 (lv_at hl 1 rfl) ?_
          refine lv_iload_n hx hcd dX6_peak_63 rfl (lv_at hl 5 rfl) ?_
          refine lv_icmp_ge (tgt := 73) hx hcd dX6_peak_64 (by decide) (fun c11 => ?_) (fun c11 => ?_)
          · have ho := gif_p ho c11
            refine lv_iinc (v := x4 + 1) (lv' := [(4, .int (x4 + 1)), (6, .int r8), (5, .int (σ (24 + 9) x4.toNatClampNeg)), (0, .ref (ad 0)), (1, .int x1), (2, .int x2), (3, .int x3)]) hx hcd dX6_peak_73 hl (k := 6) rfl rfl (by decide) rfl (fun ls hl => ?_)
            refine lv_goto (tgt := 7) hx hcd dX6_peak_76 (by decide) ?_
            exact hjmp _ (Option.some.inj ho).symm _ _ _ hW (lv_sub hl [3, 4, 5, 6, 0] rfl)
          · have ho := gif_n ho c11
            refine lv_iload hx hcd dX6_peak_67 (lv_at hl 0 rfl) ?_
            refine lv_istore_n (lv' := [(2, .int r8), (6, .int r8), (5, .int (σ (24 + 9) x4.toNatClampNeg)), (0, .ref (ad 0)), (1, .int x1), (3, .int x3), (4, .int x4)]) hx hcd dX6_peak_69 rfl hl (by decide) rfl (fun ls hl => ?_)
            refine lv_iload hx hcd dX6_peak_70 (lv_at hl 2 rfl) ?_
            refine lv_istore_n (lv' := [(3, .int (σ (24 + 9) x4.toNatClampNeg)), (2, .int r8), (6, .int r8), (5, .int (σ (24 + 9) x4.toNatClampNeg)), (0, .ref (ad 0)), (1, .int x1), (4, .int x4)]) hx hcd dX6_peak_72 rfl hl (by decide) rfl (fun ls hl => ?_)
            refine lv_iinc (v := x4 + 1) (lv' := [(4, .int (x4 + 1)), (3, .int (σ (24 + 9) x4.toNatClampNeg)), (2, .int r8), (6, .int r8), (5, .int (σ (24 + 9) x4.toNatClampNeg)), (0, .ref (ad 0)), (1, .int x1)]) hx hcd dX6_peak_73 hl (k := 6) rfl rfl (by decide) rfl (fun ls hl => ?_)
            refine lv_goto (tgt := 7) hx hcd dX6_peak_76 (by decide) ?_
            exact hjmp _ (Option.some.inj ho).symm _ _ _ hW (lv_sub hl [5, 6, 2, 1, 0] rfl)
set_option maxHeartbeats 4000000 in
set_option maxRecDepth 100000 in
theorem c_X6_peak (l : Launch) (D : va_G) (y : ClassId × ClassId × ClassId) (ad : Nat → Nat) (x1 : Int32) (σ : gS) (sz : Nat) {q : Int32} (h : X6_peak σ x1 = some q) : Met l yX6_peak (Cond.code yX6_peak cX6_peak 7 (some .int) :: gl) ({ frames := 2, cells := 0, slots := 0, locals := 45 }) (g_Pc D y ad σ sz [.ref (ad 0), .int x1]) (g_Qi D y ad σ sz q) 0 0 (g_A ad sz) := by
  have ho := h
  unfold X6_peak at ho
  refine g_start (by decide) (Nat.le_of_ble_eq_true rfl) (fun p e s m below meth c ls hC hr hlk hsz hW hl => ?_)
  have hx := hC.1
  have hcd := hC.2.1
  have hl : lv_has ls 7 [(0, .ref (ad 0)), (1, .int x1)] := hl
  refine lv_iconst (v := 0) hx hcd dX6_peak_0 (by decide) ?_
  refine lv_istore_n (lv' := [(2, .int 0), (0, .ref (ad 0)), (1, .int x1)]) hx hcd dX6_peak_1 rfl hl (by decide) rfl (fun ls hl => ?_)
  refine lv_iconst (v := 0) hx hcd dX6_peak_2 (by decide) ?_
  refine lv_istore_n (lv' := [(3, .int 0), (2, .int 0), (0, .ref (ad 0)), (1, .int x1)]) hx hcd dX6_peak_3 rfl hl (by decide) rfl (fun ls hl => ?_)
  refine lv_iconst (v := 0) hx hcd dX6_peak_4 (by decide) ?_
  refine lv_istore (lv' := [(4, .int 0), (3, .int 0), (2, .int 0), (0, .ref (ad 0)), (1, .int x1)]) hx hcd dX6_peak_5 hl (by decide) rfl (fun ls hl => ?_)
  exact l_X6_peak l D y ad σ sz hC hr hlk hsz _ ho _ _ _ hW (lv_sub hl [3, 4, 2, 1, 0] rfl)
noncomputable def X6_placeInTrial (σ : gS) (x1 : Int32) (x2 : Int32) (x3 : Int32) : Option (Int32 × gS) :=
  (X0_hasStay σ 36 x1 x2).bind fun r2 => if r2 = 0 then (some (0, σ)) else ((X0_hasStand σ 36 x3).bind fun r5 => if r5 = 0 then (some (0, σ)) else ((X0_refusal σ 36 (((2 : Int32) * x1) + x2) x3).bind fun r8 => if r8 = 0 then (gd (ib (((2 : Int32) * x1) + x2) 20) <| lt_ (g_up σ (36 + 11) (((2 : Int32) * x1) + x2).toNatClampNeg x3) fun σ11 => some (1, σ11)) else (lt_ (g_up σ 0 9 r8) fun σ12 => some (0, σ12))))
set_option maxHeartbeats 4000000 in
set_option maxRecDepth 100000 in
theorem c_X6_placeInTrial (l : Launch) (D : va_G) (y : ClassId × ClassId × ClassId) (ad : Nat → Nat) (x1 : Int32) (x2 : Int32) (x3 : Int32) (σ : gS) (sz : Nat) {q : Int32 × gS} (h : X6_placeInTrial σ x1 x2 x3 = some q) : Met l yX6_placeInTrial (Cond.code yX6_placeInTrial cX6_placeInTrial 5 (some .boolean) :: gl) ({ frames := 3, cells := 0, slots := 0, locals := 73 }) (g_Pc D y ad σ sz [.ref (ad 0), .int x1, .int x2, .int x3]) (g_Qi D y ad q.2 sz q.1) 0 0 (g_A ad sz) := by
  have ho := h
  unfold X6_placeInTrial at ho
  refine g_start (by decide) (Nat.le_of_ble_eq_true rfl) (fun p e s m below meth c ls hC hr hlk hsz hW hl => ?_)
  have hx := hC.1
  have hcd := hC.2.1
  have hl : lv_has ls 5 [(0, .ref (ad 0)), (1, .int x1), (2, .int x2), (3, .int x3)] := hl
  refine lv_aload_n hx hcd dX6_placeInTrial_0 rfl (lv_at hl 0 rfl) ?_
  refine g_getr hC hW (C := RX6) (T := TX6) (N := 11) (ci := 8) (k := 1) (index := 16) (i := 0) (r := 36) inGX6 rfl (by decide) fl_X6_16 (by decide) rfl rfl dX6_placeInTrial_1 ?_
  refine lv_iload_n hx hcd dX6_placeInTrial_4 rfl (lv_at hl 1 rfl) ?_
  refine lv_iload_n hx hcd dX6_placeInTrial_5 rfl (lv_at hl 2 rfl) ?_
  obtain ⟨r2, h1, ho⟩ := gb_some ho
  refine g_calli hW (g_runV (As := [.int x1, .int x2]) (rest := []) (i := 36) hC hW (c_X0_hasStay l D y ad g_air36 x1 x2 _ _ h1) ok_X6_198 ⟨rfl, rfl, Nat.le_of_ble_eq_true rfl, Nat.le_of_ble_eq_true rfl⟩ (g_lt_air g_air36) (g_sh_air g_air36) rfl rfl rfl hl.1 rfl (Nat.le_of_ble_eq_true rfl) dX6_placeInTrial_6 ⟨Nat.zero_le _, Nat.zero_le _⟩) (fun H locs hW => ?_)
  refine lv_if_eq (tgt := 23) hx hcd dX6_placeInTrial_9 (by decide) (fun c3 => ?_) (fun c3 => ?_)
  · have ho := gif_p ho c3
    refine lv_iconst (v := 0) hx hcd dX6_placeInTrial_23 (by decide) ?_
    obtain rfl := Option.some.inj ho
    exact g_zret (r := 0) hC hr hlk hsz hW (by decide) dX6_placeInTrial_24
  · have ho := gif_n ho c3
    refine lv_aload_n hx hcd dX6_placeInTrial_12 rfl (lv_at hl 0 rfl) ?_
    refine g_getr hC hW (C := RX6) (T := TX6) (N := 11) (ci := 8) (k := 1) (index := 16) (i := 0) (r := 36) inGX6 rfl (by decide) fl_X6_16 (by decide) rfl rfl dX6_placeInTrial_13 ?_
    refine lv_iload_n hx hcd dX6_placeInTrial_16 rfl (lv_at hl 3 rfl) ?_
    obtain ⟨r5, h4, ho⟩ := gb_some ho
    refine g_calli hW (g_runV (As := [.int x3]) (rest := []) (i := 36) hC hW (c_X0_hasStand l D y ad g_air36 x3 _ _ h4) ok_X6_97 ⟨rfl, rfl, Nat.le_of_ble_eq_true rfl, Nat.le_of_ble_eq_true rfl⟩ (g_lt_air g_air36) (g_sh_air g_air36) rfl rfl rfl hl.1 rfl (Nat.le_of_ble_eq_true rfl) dX6_placeInTrial_17 ⟨Nat.zero_le _, Nat.zero_le _⟩) (fun H locs hW => ?_)
    refine lv_if_ne (tgt := 25) hx hcd dX6_placeInTrial_20 (by decide) (fun c6 => ?_) (fun c6 => ?_)
    · have ho := gif_n ho c6
      refine lv_aload_n hx hcd dX6_placeInTrial_25 rfl (lv_at hl 0 rfl) ?_
      refine g_getr hC hW (C := RX6) (T := TX6) (N := 11) (ci := 8) (k := 1) (index := 16) (i := 0) (r := 36) inGX6 rfl (by decide) fl_X6_16 (by decide) rfl rfl dX6_placeInTrial_26 ?_
      refine lv_iconst (v := 2) hx hcd dX6_placeInTrial_29 (by decide) ?_
      refine lv_iload_n hx hcd dX6_placeInTrial_30 rfl (lv_at hl 1 rfl) ?_
      refine lv_imul hx hcd dX6_placeInTrial_31 ?_
      refine lv_iload_n hx hcd dX6_placeInTrial_32 rfl (lv_at hl 2 rfl) ?_
      refine lv_iadd hx hcd dX6_placeInTrial_33 ?_
      refine lv_iload_n hx hcd dX6_placeInTrial_34 rfl (lv_at hl 3 rfl) ?_
      obtain ⟨r8, h7, ho⟩ := gb_some ho
      refine g_calli hW (g_runV (As := [.int (((2 : Int32) * x1) + x2), .int x3]) (rest := []) (i := 36) hC hW (c_X0_refusal l D y ad g_air36 (((2 : Int32) * x1) + x2) x3 _ _ h7) ok_X6_224 ⟨rfl, rfl, Nat.le_of_ble_eq_true rfl, Nat.le_of_ble_eq_true rfl⟩ (g_lt_air g_air36) (g_sh_air g_air36) rfl rfl rfl hl.1 rfl (Nat.le_of_ble_eq_true rfl) dX6_placeInTrial_35 ⟨Nat.zero_le _, Nat.zero_le _⟩) (fun H locs hW => ?_)
      refine lv_istore (lv' := [(4, .int r8), (0, .ref (ad 0)), (1, .int x1), (2, .int x2), (3, .int x3)]) hx hcd dX6_placeInTrial_38 hl (by decide) rfl (fun ls hl => ?_)
      refine lv_iload hx hcd dX6_placeInTrial_40 (lv_at hl 0 rfl) ?_
      refine lv_if_eq (tgt := 53) hx hcd dX6_placeInTrial_42 (by decide) (fun c9 => ?_) (fun c9 => ?_)
      · have ho := gif_p ho c9
        refine lv_aload_n hx hcd dX6_placeInTrial_53 rfl (lv_at hl 1 rfl) ?_
        refine g_getr hC hW (C := RX6) (T := TX6) (N := 11) (ci := 8) (k := 1) (index := 16) (i := 0) (r := 36) inGX6 rfl (by decide) fl_X6_16 (by decide) rfl rfl dX6_placeInTrial_54 ?_
        refine g_getr hC hW (C := RX0) (T := TX0) (N := 16) (ci := 2) (k := 15) (index := 210) (i := 36) (r := (36 + 11)) inGX0 rfl (by decide) fl_X6_210 (g_lt_air g_air36) (g_sh_air g_air36) rfl dX6_placeInTrial_57 ?_
        refine lv_iconst (v := 2) hx hcd dX6_placeInTrial_60 (by decide) ?_
        refine lv_iload_n hx hcd dX6_placeInTrial_61 rfl (lv_at hl 2 rfl) ?_
        refine lv_imul hx hcd dX6_placeInTrial_62 ?_
        refine lv_iload_n hx hcd dX6_placeInTrial_63 rfl (lv_at hl 3 rfl) ?_
        refine lv_iadd hx hcd dX6_placeInTrial_64 ?_
        refine lv_iload_n hx hcd dX6_placeInTrial_65 rfl (lv_at hl 4 rfl) ?_
        obtain ⟨i10, ho⟩ := gd_some ho
        obtain ⟨σ11, eσ11, ho⟩ := lt_ex ho
        refine g_iast hC hW (i := (36 + 11)) (g_lt_arr (j := 11) g_air36 (by decide)) (g_sa11 g_air36) i10 dX6_placeInTrial_66 (fun H locs hW => ?_)
        rw [← eσ11] at hW
        refine lv_iconst (v := 1) hx hcd dX6_placeInTrial_67 (by decide) ?_
        obtain rfl := Option.some.inj ho
        exact g_zret (r := 1) hC hr hlk hsz hW (by decide) dX6_placeInTrial_68
      · have ho := gif_n ho c9
        refine lv_aload_n hx hcd dX6_placeInTrial_45 rfl (lv_at hl 1 rfl) ?_
        refine lv_iload hx hcd dX6_placeInTrial_46 (lv_at hl 0 rfl) ?_
        obtain ⟨σ12, eσ12, ho⟩ := lt_ex ho
        refine g_puti hC hW (C := RX6) (T := TX6) (N := 11) (ci := 8) (k := 9) (index := 58) (i := 0) inGX6 tyX6 tyX6_ok nmX6 rfl (by decide) fl_X6_58 rfl (by decide) rfl rfl rfl rfl dX6_placeInTrial_48 (fun H locs hW => ?_)
        rw [← eσ12] at hW
        refine lv_iconst (v := 0) hx hcd dX6_placeInTrial_51 (by decide) ?_
        obtain rfl := Option.some.inj ho
        exact g_zret (r := 0) hC hr hlk hsz hW (by decide) dX6_placeInTrial_52
    · have ho := gif_p ho c6
      refine lv_iconst (v := 0) hx hcd dX6_placeInTrial_23 (by decide) ?_
      obtain rfl := Option.some.inj ho
      exact g_zret (r := 0) hC hr hlk hsz hW (by decide) dX6_placeInTrial_24
noncomputable def X6_liftInTrial (σ : gS) (x1 : Int32) (x2 : Int32) : Option (Int32 × gS) :=
  (X0_hasStay σ 36 x1 x2).bind fun r2 => if r2 = 0 then (some (0, σ)) else (gd (ib (((2 : Int32) * x1) + x2) 20) <| if 0 ≤ (σ (36 + 11) (((2 : Int32) * x1) + x2).toNatClampNeg) then (lt_ (g_up σ (36 + 11) (((2 : Int32) * x1) + x2).toNatClampNeg (-1)) fun σ6 => some (1, σ6)) else (some (0, σ)))
set_option maxHeartbeats 4000000 in
set_option maxRecDepth 100000 in
theorem c_X6_liftInTrial (l : Launch) (D : va_G) (y : ClassId × ClassId × ClassId) (ad : Nat → Nat) (x1 : Int32) (x2 : Int32) (σ : gS) (sz : Nat) {q : Int32 × gS} (h : X6_liftInTrial σ x1 x2 = some q) : Met l yX6_liftInTrial (Cond.code yX6_liftInTrial cX6_liftInTrial 3 (some .boolean) :: gl) ({ frames := 2, cells := 0, slots := 0, locals := 43 }) (g_Pc D y ad σ sz [.ref (ad 0), .int x1, .int x2]) (g_Qi D y ad q.2 sz q.1) 0 0 (g_A ad sz) := by
  have ho := h
  unfold X6_liftInTrial at ho
  refine g_start (by decide) (Nat.le_of_ble_eq_true rfl) (fun p e s m below meth c ls hC hr hlk hsz hW hl => ?_)
  have hx := hC.1
  have hcd := hC.2.1
  have hl : lv_has ls 3 [(0, .ref (ad 0)), (1, .int x1), (2, .int x2)] := hl
  refine lv_aload_n hx hcd dX6_liftInTrial_0 rfl (lv_at hl 0 rfl) ?_
  refine g_getr hC hW (C := RX6) (T := TX6) (N := 11) (ci := 8) (k := 1) (index := 16) (i := 0) (r := 36) inGX6 rfl (by decide) fl_X6_16 (by decide) rfl rfl dX6_liftInTrial_1 ?_
  refine lv_iload_n hx hcd dX6_liftInTrial_4 rfl (lv_at hl 1 rfl) ?_
  refine lv_iload_n hx hcd dX6_liftInTrial_5 rfl (lv_at hl 2 rfl) ?_
  obtain ⟨r2, h1, ho⟩ := gb_some ho
  refine g_calli hW (g_runV (As := [.int x1, .int x2]) (rest := []) (i := 36) hC hW (c_X0_hasStay l D y ad g_air36 x1 x2 _ _ h1) ok_X6_198 ⟨rfl, rfl, Nat.le_of_ble_eq_true rfl, Nat.le_of_ble_eq_true rfl⟩ (g_lt_air g_air36) (g_sh_air g_air36) rfl rfl rfl hl.1 rfl (Nat.le_of_ble_eq_true rfl) dX6_liftInTrial_6 ⟨Nat.zero_le _, Nat.zero_le _⟩) (fun H locs hW => ?_)
  refine lv_if_eq (tgt := 28) hx hcd dX6_liftInTrial_9 (by decide) (fun c3 => ?_) (fun c3 => ?_)
  · have ho := gif_p ho c3
    refine lv_iconst (v := 0) hx hcd dX6_liftInTrial_28 (by decide) ?_
    obtain rfl := Option.some.inj ho
    exact g_zret (r := 0) hC hr hlk hsz hW (by decide) dX6_liftInTrial_29
  · have ho := gif_n ho c3
    refine lv_aload_n hx hcd dX6_liftInTrial_12 rfl (lv_at hl 0 rfl) ?_
    refine g_getr hC hW (C := RX6) (T := TX6) (N := 11) (ci := 8) (k := 1) (index := 16) (i := 0) (r := 36) inGX6 rfl (by decide) fl_X6_16 (by decide) rfl rfl dX6_liftInTrial_13 ?_
    refine g_getr hC hW (C := RX0) (T := TX0) (N := 16) (ci := 2) (k := 15) (index := 210) (i := 36) (r := (36 + 11)) inGX0 rfl (by decide) fl_X6_210 (g_lt_air g_air36) (g_sh_air g_air36) rfl dX6_liftInTrial_16 ?_
    refine lv_iconst (v := 2) hx hcd dX6_liftInTrial_19 (by decide) ?_
    refine lv_iload_n hx hcd dX6_liftInTrial_20 rfl (lv_at hl 1 rfl) ?_
    refine lv_imul hx hcd dX6_liftInTrial_21 ?_
    refine lv_iload_n hx hcd dX6_liftInTrial_22 rfl (lv_at hl 2 rfl) ?_
    refine lv_iadd hx hcd dX6_liftInTrial_23 ?_
    obtain ⟨i4, ho⟩ := gd_some ho
    refine g_iald hC hW (i := (36 + 11)) (g_lt_arr (j := 11) g_air36 (by decide)) (g_sa11 g_air36) i4 dX6_liftInTrial_24 ?_
    refine lv_if_ge (tgt := 30) hx hcd dX6_liftInTrial_25 (by decide) (fun c5 => ?_) (fun c5 => ?_)
    · have ho := gif_p ho c5
      refine lv_aload_n hx hcd dX6_liftInTrial_30 rfl (lv_at hl 0 rfl) ?_
      refine g_getr hC hW (C := RX6) (T := TX6) (N := 11) (ci := 8) (k := 1) (index := 16) (i := 0) (r := 36) inGX6 rfl (by decide) fl_X6_16 (by decide) rfl rfl dX6_liftInTrial_31 ?_
      refine g_getr hC hW (C := RX0) (T := TX0) (N := 16) (ci := 2) (k := 15) (index := 210) (i := 36) (r := (36 + 11)) inGX0 rfl (by decide) fl_X6_210 (g_lt_air g_air36) (g_sh_air g_air36) rfl dX6_liftInTrial_34 ?_
      refine lv_iconst (v := 2) hx hcd dX6_liftInTrial_37 (by decide) ?_
      refine lv_iload_n hx hcd dX6_liftInTrial_38 rfl (lv_at hl 1 rfl) ?_
      refine lv_imul hx hcd dX6_liftInTrial_39 ?_
      refine lv_iload_n hx hcd dX6_liftInTrial_40 rfl (lv_at hl 2 rfl) ?_
      refine lv_iadd hx hcd dX6_liftInTrial_41 ?_
      refine lv_iconst (v := (-1)) hx hcd dX6_liftInTrial_42 (by decide) ?_
      obtain ⟨σ6, eσ6, ho⟩ := lt_ex ho
      refine g_iast hC hW (i := (36 + 11)) (g_lt_arr (j := 11) g_air36 (by decide)) (g_sa11 g_air36) i4 dX6_liftInTrial_43 (fun H locs hW => ?_)
      rw [← eσ6] at hW
      refine lv_iconst (v := 1) hx hcd dX6_liftInTrial_44 (by decide) ?_
      obtain rfl := Option.some.inj ho
      exact g_zret (r := 1) hC hr hlk hsz hW (by decide) dX6_liftInTrial_45
    · have ho := gif_n ho c5
      refine lv_iconst (v := 0) hx hcd dX6_liftInTrial_28 (by decide) ?_
      obtain rfl := Option.some.inj ho
      exact g_zret (r := 0) hC hr hlk hsz hW (by decide) dX6_liftInTrial_29
noncomputable def X6_delayInTrial (σ : gS) (x1 : Int32) (x2 : Int32) : Option (Int32 × gS) :=
  (X0_hasTurn σ 36 x1).bind fun r2 => if r2 = 0 then (some (0, σ)) else (if x2 < 1 then (some (0, σ)) else (if 300 < x2 then (some (0, σ)) else ((X0_departureAfter σ 36 x1 x2).bind fun r7 => if r7 ≤ 1440 then ((X0_postpone σ 36 x1 x2).bind fun q10 => some (1, q10.2)) else (some (0, σ)))))
set_option maxHeartbeats 4000000 in
set_option maxRecDepth 100000 in
theorem c_X6_delayInTrial (l : Launch) (D : va_G) (y : ClassId × ClassId × ClassId) (ad : Nat → Nat) (x1 : Int32) (x2 : Int32) (σ : gS) (sz : Nat) {q : Int32 × gS} (h : X6_delayInTrial σ x1 x2 = some q) : Met l yX6_delayInTrial (Cond.code yX6_delayInTrial cX6_delayInTrial 3 (some .boolean) :: gl) ({ frames := 4, cells := 0, slots := 0, locals := 92 }) (g_Pc D y ad σ sz [.ref (ad 0), .int x1, .int x2]) (g_Qi D y ad q.2 sz q.1) 0 0 (g_A ad sz) := by
  have ho := h
  unfold X6_delayInTrial at ho
  refine g_start (by decide) (Nat.le_of_ble_eq_true rfl) (fun p e s m below meth c ls hC hr hlk hsz hW hl => ?_)
  have hx := hC.1
  have hcd := hC.2.1
  have hl : lv_has ls 3 [(0, .ref (ad 0)), (1, .int x1), (2, .int x2)] := hl
  refine lv_aload_n hx hcd dX6_delayInTrial_0 rfl (lv_at hl 0 rfl) ?_
  refine g_getr hC hW (C := RX6) (T := TX6) (N := 11) (ci := 8) (k := 1) (index := 16) (i := 0) (r := 36) inGX6 rfl (by decide) fl_X6_16 (by decide) rfl rfl dX6_delayInTrial_1 ?_
  refine lv_iload_n hx hcd dX6_delayInTrial_4 rfl (lv_at hl 1 rfl) ?_
  obtain ⟨r2, h1, ho⟩ := gb_some ho
  refine g_calli hW (g_runV (As := [.int x1]) (rest := []) (i := 36) hC hW (c_X0_hasTurn l D y ad g_air36 x1 _ _ h1) ok_X6_173 ⟨rfl, rfl, Nat.le_of_ble_eq_true rfl, Nat.le_of_ble_eq_true rfl⟩ (g_lt_air g_air36) (g_sh_air g_air36) rfl rfl rfl hl.1 rfl (Nat.le_of_ble_eq_true rfl) dX6_delayInTrial_5 ⟨Nat.zero_le _, Nat.zero_le _⟩) (fun H locs hW => ?_)
  refine lv_if_eq (tgt := 38) hx hcd dX6_delayInTrial_8 (by decide) (fun c3 => ?_) (fun c3 => ?_)
  · have ho := gif_p ho c3
    refine lv_iconst (v := 0) hx hcd dX6_delayInTrial_38 (by decide) ?_
    obtain rfl := Option.some.inj ho
    exact g_zret (r := 0) hC hr hlk hsz hW (by decide) dX6_delayInTrial_39
  · have ho := gif_n ho c3
    refine lv_iload_n hx hcd dX6_delayInTrial_11 rfl (lv_at hl 2 rfl) ?_
    refine lv_iconst (v := 1) hx hcd dX6_delayInTrial_12 (by decide) ?_
    refine lv_icmp_lt (tgt := 38) hx hcd dX6_delayInTrial_13 (by decide) (fun c4 => ?_) (fun c4 => ?_)
    · have ho := gif_p ho c4
      refine lv_iconst (v := 0) hx hcd dX6_delayInTrial_38 (by decide) ?_
      obtain rfl := Option.some.inj ho
      exact g_zret (r := 0) hC hr hlk hsz hW (by decide) dX6_delayInTrial_39
    · have ho := gif_n ho c4
      refine lv_iload_n hx hcd dX6_delayInTrial_16 rfl (lv_at hl 2 rfl) ?_
      refine lv_sipush (v := 300) hx hcd dX6_delayInTrial_17 (by decide) ?_
      refine lv_icmp_gt (tgt := 38) hx hcd dX6_delayInTrial_20 (by decide) (fun c5 => ?_) (fun c5 => ?_)
      · have ho := gif_p ho c5
        refine lv_iconst (v := 0) hx hcd dX6_delayInTrial_38 (by decide) ?_
        obtain rfl := Option.some.inj ho
        exact g_zret (r := 0) hC hr hlk hsz hW (by decide) dX6_delayInTrial_39
      · have ho := gif_n ho c5
        refine lv_aload_n hx hcd dX6_delayInTrial_23 rfl (lv_at hl 0 rfl) ?_
        refine g_getr hC hW (C := RX6) (T := TX6) (N := 11) (ci := 8) (k := 1) (index := 16) (i := 0) (r := 36) inGX6 rfl (by decide) fl_X6_16 (by decide) rfl rfl dX6_delayInTrial_24 ?_
        refine lv_iload_n hx hcd dX6_delayInTrial_27 rfl (lv_at hl 1 rfl) ?_
        refine lv_iload_n hx hcd dX6_delayInTrial_28 rfl (lv_at hl 2 rfl) ?_
        obtain ⟨r7, h6, ho⟩ := gb_some ho
        refine g_calli hW (g_runV (As := [.int x1, .int x2]) (rest := []) (i := 36) hC hW (c_X0_departureAfter l D y ad g_air36 x1 x2 _ _ h6) ok_X6_264 ⟨rfl, rfl, Nat.le_of_ble_eq_true rfl, Nat.le_of_ble_eq_true rfl⟩ (g_lt_air g_air36) (g_sh_air g_air36) rfl rfl rfl hl.1 rfl (Nat.le_of_ble_eq_true rfl) dX6_delayInTrial_29 ⟨Nat.zero_le _, Nat.zero_le _⟩) (fun H locs hW => ?_)
        refine lv_sipush (v := 1440) hx hcd dX6_delayInTrial_32 (by decide) ?_
        refine lv_icmp_le (tgt := 40) hx hcd dX6_delayInTrial_35 (by decide) (fun c8 => ?_) (fun c8 => ?_)
        · have ho := gif_p ho c8
          refine lv_aload_n hx hcd dX6_delayInTrial_40 rfl (lv_at hl 0 rfl) ?_
          refine g_getr hC hW (C := RX6) (T := TX6) (N := 11) (ci := 8) (k := 1) (index := 16) (i := 0) (r := 36) inGX6 rfl (by decide) fl_X6_16 (by decide) rfl rfl dX6_delayInTrial_41 ?_
          refine lv_iload_n hx hcd dX6_delayInTrial_44 rfl (lv_at hl 1 rfl) ?_
          refine lv_iload_n hx hcd dX6_delayInTrial_45 rfl (lv_at hl 2 rfl) ?_
          obtain ⟨q10, h9, ho⟩ := gb_some ho
          refine g_calli hW (g_runV (As := [.int x1, .int x2]) (rest := []) (i := 36) hC hW (c_X0_postpone l D y ad g_air36 x1 x2 _ _ h9) ok_X6_269 ⟨rfl, rfl, Nat.le_of_ble_eq_true rfl, Nat.le_of_ble_eq_true rfl⟩ (g_lt_air g_air36) (g_sh_air g_air36) rfl rfl rfl hl.1 rfl (Nat.le_of_ble_eq_true rfl) dX6_delayInTrial_46 ⟨Nat.zero_le _, Nat.zero_le _⟩) (fun H locs hW => ?_)
          refine lv_pop hx hcd dX6_delayInTrial_49 rfl ?_
          refine lv_iconst (v := 1) hx hcd dX6_delayInTrial_50 (by decide) ?_
          obtain rfl := Option.some.inj ho
          exact g_zret (r := 1) hC hr hlk hsz hW (by decide) dX6_delayInTrial_51
        · have ho := gif_n ho c8
          refine lv_iconst (v := 0) hx hcd dX6_delayInTrial_38 (by decide) ?_
          obtain rfl := Option.some.inj ho
          exact g_zret (r := 0) hC hr hlk hsz hW (by decide) dX6_delayInTrial_39
noncomputable def X6_towInTrial (σ : gS) (x1 : Int32) (x2 : Int32) : Option (Int32 × gS) :=
  (X0_hasTurn σ 36 x1).bind fun r2 => if r2 = 0 then (some (0, σ)) else ((X0_isTowMinute σ 36 x1 x2).bind fun r5 => if r5 = 0 then (some (0, σ)) else ((X0_hasTow σ 36 x1).bind fun r8 => if r8 = 0 then ((X0_divide σ 36 x1 x2).bind fun q11 => some (1, q11.2)) else (some (0, σ))))
set_option maxHeartbeats 4000000 in
set_option maxRecDepth 100000 in
theorem c_X6_towInTrial (l : Launch) (D : va_G) (y : ClassId × ClassId × ClassId) (ad : Nat → Nat) (x1 : Int32) (x2 : Int32) (σ : gS) (sz : Nat) {q : Int32 × gS} (h : X6_towInTrial σ x1 x2 = some q) : Met l yX6_towInTrial (Cond.code yX6_towInTrial cX6_towInTrial 3 (some .boolean) :: gl) ({ frames := 3, cells := 0, slots := 0, locals := 66 }) (g_Pc D y ad σ sz [.ref (ad 0), .int x1, .int x2]) (g_Qi D y ad q.2 sz q.1) 0 0 (g_A ad sz) := by
  have ho := h
  unfold X6_towInTrial at ho
  refine g_start (by decide) (Nat.le_of_ble_eq_true rfl) (fun p e s m below meth c ls hC hr hlk hsz hW hl => ?_)
  have hx := hC.1
  have hcd := hC.2.1
  have hl : lv_has ls 3 [(0, .ref (ad 0)), (1, .int x1), (2, .int x2)] := hl
  refine lv_aload_n hx hcd dX6_towInTrial_0 rfl (lv_at hl 0 rfl) ?_
  refine g_getr hC hW (C := RX6) (T := TX6) (N := 11) (ci := 8) (k := 1) (index := 16) (i := 0) (r := 36) inGX6 rfl (by decide) fl_X6_16 (by decide) rfl rfl dX6_towInTrial_1 ?_
  refine lv_iload_n hx hcd dX6_towInTrial_4 rfl (lv_at hl 1 rfl) ?_
  obtain ⟨r2, h1, ho⟩ := gb_some ho
  refine g_calli hW (g_runV (As := [.int x1]) (rest := []) (i := 36) hC hW (c_X0_hasTurn l D y ad g_air36 x1 _ _ h1) ok_X6_173 ⟨rfl, rfl, Nat.le_of_ble_eq_true rfl, Nat.le_of_ble_eq_true rfl⟩ (g_lt_air g_air36) (g_sh_air g_air36) rfl rfl rfl hl.1 rfl (Nat.le_of_ble_eq_true rfl) dX6_towInTrial_5 ⟨Nat.zero_le _, Nat.zero_le _⟩) (fun H locs hW => ?_)
  refine lv_if_eq (tgt := 34) hx hcd dX6_towInTrial_8 (by decide) (fun c3 => ?_) (fun c3 => ?_)
  · have ho := gif_p ho c3
    refine lv_iconst (v := 0) hx hcd dX6_towInTrial_34 (by decide) ?_
    obtain rfl := Option.some.inj ho
    exact g_zret (r := 0) hC hr hlk hsz hW (by decide) dX6_towInTrial_35
  · have ho := gif_n ho c3
    refine lv_aload_n hx hcd dX6_towInTrial_11 rfl (lv_at hl 0 rfl) ?_
    refine g_getr hC hW (C := RX6) (T := TX6) (N := 11) (ci := 8) (k := 1) (index := 16) (i := 0) (r := 36) inGX6 rfl (by decide) fl_X6_16 (by decide) rfl rfl dX6_towInTrial_12 ?_
    refine lv_iload_n hx hcd dX6_towInTrial_15 rfl (lv_at hl 1 rfl) ?_
    refine lv_iload_n hx hcd dX6_towInTrial_16 rfl (lv_at hl 2 rfl) ?_
    obtain ⟨r5, h4, ho⟩ := gb_some ho
    refine g_calli hW (g_runV (As := [.int x1, .int x2]) (rest := []) (i := 36) hC hW (c_X0_isTowMinute l D y ad g_air36 x1 x2 _ _ h4) ok_X6_244 ⟨rfl, rfl, Nat.le_of_ble_eq_true rfl, Nat.le_of_ble_eq_true rfl⟩ (g_lt_air g_air36) (g_sh_air g_air36) rfl rfl rfl hl.1 rfl (Nat.le_of_ble_eq_true rfl) dX6_towInTrial_17 ⟨Nat.zero_le _, Nat.zero_le _⟩) (fun H locs hW => ?_)
    refine lv_if_eq (tgt := 34) hx hcd dX6_towInTrial_20 (by decide) (fun c6 => ?_) (fun c6 => ?_)
    · have ho := gif_p ho c6
      refine lv_iconst (v := 0) hx hcd dX6_towInTrial_34 (by decide) ?_
      obtain rfl := Option.some.inj ho
      exact g_zret (r := 0) hC hr hlk hsz hW (by decide) dX6_towInTrial_35
    · have ho := gif_n ho c6
      refine lv_aload_n hx hcd dX6_towInTrial_23 rfl (lv_at hl 0 rfl) ?_
      refine g_getr hC hW (C := RX6) (T := TX6) (N := 11) (ci := 8) (k := 1) (index := 16) (i := 0) (r := 36) inGX6 rfl (by decide) fl_X6_16 (by decide) rfl rfl dX6_towInTrial_24 ?_
      refine lv_iload_n hx hcd dX6_towInTrial_27 rfl (lv_at hl 1 rfl) ?_
      obtain ⟨r8, h7, ho⟩ := gb_some ho
      refine g_calli hW (g_runV (As := [.int x1]) (rest := []) (i := 36) hC hW (c_X0_hasTow l D y ad g_air36 x1 _ _ h7) ok_X6_249 ⟨rfl, rfl, Nat.le_of_ble_eq_true rfl, Nat.le_of_ble_eq_true rfl⟩ (g_lt_air g_air36) (g_sh_air g_air36) rfl rfl rfl hl.1 rfl (Nat.le_of_ble_eq_true rfl) dX6_towInTrial_28 ⟨Nat.zero_le _, Nat.zero_le _⟩) (fun H locs hW => ?_)
      refine lv_if_eq (tgt := 36) hx hcd dX6_towInTrial_31 (by decide) (fun c9 => ?_) (fun c9 => ?_)
      · have ho := gif_p ho c9
        refine lv_aload_n hx hcd dX6_towInTrial_36 rfl (lv_at hl 0 rfl) ?_
        refine g_getr hC hW (C := RX6) (T := TX6) (N := 11) (ci := 8) (k := 1) (index := 16) (i := 0) (r := 36) inGX6 rfl (by decide) fl_X6_16 (by decide) rfl rfl dX6_towInTrial_37 ?_
        refine lv_iload_n hx hcd dX6_towInTrial_40 rfl (lv_at hl 1 rfl) ?_
        refine lv_iload_n hx hcd dX6_towInTrial_41 rfl (lv_at hl 2 rfl) ?_
        obtain ⟨q11, h10, ho⟩ := gb_some ho
        refine g_calli hW (g_runV (As := [.int x1, .int x2]) (rest := []) (i := 36) hC hW (c_X0_divide l D y ad g_air36 x1 x2 _ _ h10) ok_X6_254 ⟨rfl, rfl, Nat.le_of_ble_eq_true rfl, Nat.le_of_ble_eq_true rfl⟩ (g_lt_air g_air36) (g_sh_air g_air36) rfl rfl rfl hl.1 rfl (Nat.le_of_ble_eq_true rfl) dX6_towInTrial_42 ⟨Nat.zero_le _, Nat.zero_le _⟩) (fun H locs hW => ?_)
        refine lv_pop hx hcd dX6_towInTrial_45 rfl ?_
        refine lv_iconst (v := 1) hx hcd dX6_towInTrial_46 (by decide) ?_
        obtain rfl := Option.some.inj ho
        exact g_zret (r := 1) hC hr hlk hsz hW (by decide) dX6_towInTrial_47
      · have ho := gif_n ho c9
        refine lv_iconst (v := 0) hx hcd dX6_towInTrial_34 (by decide) ?_
        obtain rfl := Option.some.inj ho
        exact g_zret (r := 0) hC hr hlk hsz hW (by decide) dX6_towInTrial_35
noncomputable def X6_doEntry (σ : gS) : Option (Int32 × gS) :=
  if (σ 4 5) = 112 then ((X6_placeInTrial σ (σ 6 (0 : Int32).toNatClampNeg) (σ 6 (1 : Int32).toNatClampNeg) (σ 6 (2 : Int32).toNatClampNeg)).bind fun q17 => gd (bz q17.1) <| some (q17.1, q17.2)) else (if (σ 4 5) = 108 then ((X6_liftInTrial σ (σ 6 (0 : Int32).toNatClampNeg) (σ 6 (1 : Int32).toNatClampNeg)).bind fun q14 => gd (bz q14.1) <| some (q14.1, q14.2)) else (if (σ 4 5) = 100 then ((X6_delayInTrial σ (σ 6 (0 : Int32).toNatClampNeg) (σ 6 (1 : Int32).toNatClampNeg)).bind fun q11 => gd (bz q11.1) <| some (q11.1, q11.2)) else (if (σ 4 5) = 116 then ((X6_towInTrial σ (σ 6 (0 : Int32).toNatClampNeg) (σ 6 (1 : Int32).toNatClampNeg)).bind fun q8 => gd (bz q8.1) <| some (q8.1, q8.2)) else ((X0_placeEverything σ 36).bind fun q6 => some (1, q6.2)))))
set_option maxHeartbeats 4000000 in
set_option maxRecDepth 100000 in
theorem c_X6_doEntry (l : Launch) (D : va_G) (y : ClassId × ClassId × ClassId) (ad : Nat → Nat) (σ : gS) (sz : Nat) {q : Int32 × gS} (h : X6_doEntry σ = some q) : Met l yX6_doEntry (Cond.code yX6_doEntry cX6_doEntry 4 (some .boolean) :: gl) ({ frames := 5, cells := 0, slots := 0, locals := 121 }) (g_Pc D y ad σ sz [.ref (ad 0)]) (g_Qi D y ad q.2 sz q.1) 0 0 (g_A ad sz) := by
  have ho := h
  unfold X6_doEntry at ho
  refine g_start (by decide) (Nat.le_of_ble_eq_true rfl) (fun p e s m below meth c ls hC hr hlk hsz hW hl => ?_)
  have hx := hC.1
  have hcd := hC.2.1
  have hl : lv_has ls 4 [(0, .ref (ad 0))] := hl
  refine lv_aload_n hx hcd dX6_doEntry_0 rfl (lv_at hl 0 rfl) ?_
  refine g_getr hC hW (C := RX6) (T := TX6) (N := 11) (ci := 8) (k := 4) (index := 32) (i := 0) (r := 4) inGX6 rfl (by decide) fl_X6_32 (by decide) rfl rfl dX6_doEntry_1 ?_
  refine g_getr hC hW (C := RX5) (T := TX5) (N := 6) (ci := 7) (k := 1) (index := 381) (i := 4) (r := 6) inGX5 rfl (by decide) fl_X6_381 (by decide) rfl rfl dX6_doEntry_4 ?_
  refine lv_iconst (v := 0) hx hcd dX6_doEntry_7 (by decide) ?_
  refine g_iald hC hW (i := 6) (by decide) rfl (by decide) dX6_doEntry_8 ?_
  refine lv_istore_n (lv' := [(1, .int (σ 6 (0 : Int32).toNatClampNeg)), (0, .ref (ad 0))]) hx hcd dX6_doEntry_9 rfl hl (by decide) rfl (fun ls hl => ?_)
  refine lv_aload_n hx hcd dX6_doEntry_10 rfl (lv_at hl 1 rfl) ?_
  refine g_getr hC hW (C := RX6) (T := TX6) (N := 11) (ci := 8) (k := 4) (index := 32) (i := 0) (r := 4) inGX6 rfl (by decide) fl_X6_32 (by decide) rfl rfl dX6_doEntry_11 ?_
  refine g_getr hC hW (C := RX5) (T := TX5) (N := 6) (ci := 7) (k := 1) (index := 381) (i := 4) (r := 6) inGX5 rfl (by decide) fl_X6_381 (by decide) rfl rfl dX6_doEntry_14 ?_
  refine lv_iconst (v := 1) hx hcd dX6_doEntry_17 (by decide) ?_
  refine g_iald hC hW (i := 6) (by decide) rfl (by decide) dX6_doEntry_18 ?_
  refine lv_istore_n (lv' := [(2, .int (σ 6 (1 : Int32).toNatClampNeg)), (1, .int (σ 6 (0 : Int32).toNatClampNeg)), (0, .ref (ad 0))]) hx hcd dX6_doEntry_19 rfl hl (by decide) rfl (fun ls hl => ?_)
  refine lv_aload_n hx hcd dX6_doEntry_20 rfl (lv_at hl 2 rfl) ?_
  refine g_getr hC hW (C := RX6) (T := TX6) (N := 11) (ci := 8) (k := 4) (index := 32) (i := 0) (r := 4) inGX6 rfl (by decide) fl_X6_32 (by decide) rfl rfl dX6_doEntry_21 ?_
  refine g_geti hC hW (C := RX5) (T := TX5) (N := 6) (ci := 7) (k := 5) (index := 384) (i := 4) inGX5 rfl (by decide) fl_X6_384 (by decide) rfl rfl dX6_doEntry_24 ?_
  refine lv_istore_n (lv' := [(3, .int (σ 4 5)), (2, .int (σ 6 (1 : Int32).toNatClampNeg)), (1, .int (σ 6 (0 : Int32).toNatClampNeg)), (0, .ref (ad 0))]) hx hcd dX6_doEntry_27 rfl hl (by decide) rfl (fun ls hl => ?_)
  refine lv_iload_n hx hcd dX6_doEntry_28 rfl (lv_at hl 0 rfl) ?_
  refine lv_bipush (v := 112) hx hcd dX6_doEntry_29 (by decide) ?_
  refine lv_icmp_ne (tgt := 50) hx hcd dX6_doEntry_31 (by decide) (fun c1 => ?_) (fun c1 => ?_)
  · have ho := gif_n ho c1
    refine lv_iload_n hx hcd dX6_doEntry_50 rfl (lv_at hl 0 rfl) ?_
    refine lv_bipush (v := 108) hx hcd dX6_doEntry_51 (by decide) ?_
    refine lv_icmp_ne (tgt := 63) hx hcd dX6_doEntry_53 (by decide) (fun c2 => ?_) (fun c2 => ?_)
    · have ho := gif_n ho c2
      refine lv_iload_n hx hcd dX6_doEntry_63 rfl (lv_at hl 0 rfl) ?_
      refine lv_bipush (v := 100) hx hcd dX6_doEntry_64 (by decide) ?_
      refine lv_icmp_ne (tgt := 76) hx hcd dX6_doEntry_66 (by decide) (fun c3 => ?_) (fun c3 => ?_)
      · have ho := gif_n ho c3
        refine lv_iload_n hx hcd dX6_doEntry_76 rfl (lv_at hl 0 rfl) ?_
        refine lv_bipush (v := 116) hx hcd dX6_doEntry_77 (by decide) ?_
        refine lv_icmp_ne (tgt := 89) hx hcd dX6_doEntry_79 (by decide) (fun c4 => ?_) (fun c4 => ?_)
        · have ho := gif_n ho c4
          refine lv_aload_n hx hcd dX6_doEntry_89 rfl (lv_at hl 3 rfl) ?_
          refine g_getr hC hW (C := RX6) (T := TX6) (N := 11) (ci := 8) (k := 1) (index := 16) (i := 0) (r := 36) inGX6 rfl (by decide) fl_X6_16 (by decide) rfl rfl dX6_doEntry_90 ?_
          obtain ⟨q6, h5, ho⟩ := gb_some ho
          refine g_calli hW (g_runV (As := []) (rest := []) (i := 36) hC hW (c_X0_placeEverything l D y ad g_air36 _ _ h5) ok_X6_272 ⟨rfl, rfl, Nat.le_of_ble_eq_true rfl, Nat.le_of_ble_eq_true rfl⟩ (g_lt_air g_air36) (g_sh_air g_air36) rfl rfl rfl hl.1 rfl (Nat.le_of_ble_eq_true rfl) dX6_doEntry_93 ⟨Nat.zero_le _, Nat.zero_le _⟩) (fun H locs hW => ?_)
          refine lv_pop hx hcd dX6_doEntry_96 rfl ?_
          refine lv_iconst (v := 1) hx hcd dX6_doEntry_97 (by decide) ?_
          obtain rfl := Option.some.inj ho
          exact g_zret (r := 1) hC hr hlk hsz hW (by decide) dX6_doEntry_98
        · have ho := gif_p ho c4
          refine lv_aload_n hx hcd dX6_doEntry_82 rfl (lv_at hl 3 rfl) ?_
          refine lv_iload_n hx hcd dX6_doEntry_83 rfl (lv_at hl 2 rfl) ?_
          refine lv_iload_n hx hcd dX6_doEntry_84 rfl (lv_at hl 1 rfl) ?_
          obtain ⟨q8, h7, ho⟩ := gb_some ho
          refine g_calli hW (g_runV (As := [.int (σ 6 (0 : Int32).toNatClampNeg), .int (σ 6 (1 : Int32).toNatClampNeg)]) (rest := []) (i := 0) hC hW (c_X6_towInTrial l D y ad (σ 6 (0 : Int32).toNatClampNeg) (σ 6 (1 : Int32).toNatClampNeg) _ _ h7) ok_X6_398 ⟨rfl, rfl, Nat.le_of_ble_eq_true rfl, Nat.le_of_ble_eq_true rfl⟩ (by decide) rfl rfl rfl rfl hl.1 rfl (Nat.le_of_ble_eq_true rfl) dX6_doEntry_85 ⟨Nat.zero_le _, Nat.zero_le _⟩) (fun H locs hW => ?_)
          obtain ⟨z9, ho⟩ := gd_some ho
          obtain rfl := Option.some.inj ho
          exact g_zret (r := q8.1) hC hr hlk hsz hW z9 dX6_doEntry_88
      · have ho := gif_p ho c3
        refine lv_aload_n hx hcd dX6_doEntry_69 rfl (lv_at hl 3 rfl) ?_
        refine lv_iload_n hx hcd dX6_doEntry_70 rfl (lv_at hl 2 rfl) ?_
        refine lv_iload_n hx hcd dX6_doEntry_71 rfl (lv_at hl 1 rfl) ?_
        obtain ⟨q11, h10, ho⟩ := gb_some ho
        refine g_calli hW (g_runV (As := [.int (σ 6 (0 : Int32).toNatClampNeg), .int (σ 6 (1 : Int32).toNatClampNeg)]) (rest := []) (i := 0) hC hW (c_X6_delayInTrial l D y ad (σ 6 (0 : Int32).toNatClampNeg) (σ 6 (1 : Int32).toNatClampNeg) _ _ h10) ok_X6_395 ⟨rfl, rfl, Nat.le_of_ble_eq_true rfl, Nat.le_of_ble_eq_true rfl⟩ (by decide) rfl rfl rfl rfl hl.1 rfl (Nat.le_of_ble_eq_true rfl) dX6_doEntry_72 ⟨Nat.zero_le _, Nat.zero_le _⟩) (fun H locs hW => ?_)
        obtain ⟨z12, ho⟩ := gd_some ho
        obtain rfl := Option.some.inj ho
        exact g_zret (r := q11.1) hC hr hlk hsz hW z12 dX6_doEntry_75
    · have ho := gif_p ho c2
      refine lv_aload_n hx hcd dX6_doEntry_56 rfl (lv_at hl 3 rfl) ?_
      refine lv_iload_n hx hcd dX6_doEntry_57 rfl (lv_at hl 2 rfl) ?_
      refine lv_iload_n hx hcd dX6_doEntry_58 rfl (lv_at hl 1 rfl) ?_
      obtain ⟨q14, h13, ho⟩ := gb_some ho
      refine g_calli hW (g_runV (As := [.int (σ 6 (0 : Int32).toNatClampNeg), .int (σ 6 (1 : Int32).toNatClampNeg)]) (rest := []) (i := 0) hC hW (c_X6_liftInTrial l D y ad (σ 6 (0 : Int32).toNatClampNeg) (σ 6 (1 : Int32).toNatClampNeg) _ _ h13) ok_X6_392 ⟨rfl, rfl, Nat.le_of_ble_eq_true rfl, Nat.le_of_ble_eq_true rfl⟩ (by decide) rfl rfl rfl rfl hl.1 rfl (Nat.le_of_ble_eq_true rfl) dX6_doEntry_59 ⟨Nat.zero_le _, Nat.zero_le _⟩) (fun H locs hW => ?_)
      obtain ⟨z15, ho⟩ := gd_some ho
      obtain rfl := Option.some.inj ho
      exact g_zret (r := q14.1) hC hr hlk hsz hW z15 dX6_doEntry_62
  · have ho := gif_p ho c1
    refine lv_aload_n hx hcd dX6_doEntry_34 rfl (lv_at hl 3 rfl) ?_
    refine lv_iload_n hx hcd dX6_doEntry_35 rfl (lv_at hl 2 rfl) ?_
    refine lv_iload_n hx hcd dX6_doEntry_36 rfl (lv_at hl 1 rfl) ?_
    refine lv_aload_n hx hcd dX6_doEntry_37 rfl (lv_at hl 3 rfl) ?_
    refine g_getr hC hW (C := RX6) (T := TX6) (N := 11) (ci := 8) (k := 4) (index := 32) (i := 0) (r := 4) inGX6 rfl (by decide) fl_X6_32 (by decide) rfl rfl dX6_doEntry_38 ?_
    refine g_getr hC hW (C := RX5) (T := TX5) (N := 6) (ci := 7) (k := 1) (index := 381) (i := 4) (r := 6) inGX5 rfl (by decide) fl_X6_381 (by decide) rfl rfl dX6_doEntry_41 ?_
    refine lv_iconst (v := 2) hx hcd dX6_doEntry_44 (by decide) ?_
    refine g_iald hC hW (i := 6) (by decide) rfl (by decide) dX6_doEntry_45 ?_
    obtain ⟨q17, h16, ho⟩ := gb_some ho
    refine g_calli hW (g_runV (As := [.int (σ 6 (0 : Int32).toNatClampNeg), .int (σ 6 (1 : Int32).toNatClampNeg), .int (σ 6 (2 : Int32).toNatClampNeg)]) (rest := []) (i := 0) hC hW (c_X6_placeInTrial l D y ad (σ 6 (0 : Int32).toNatClampNeg) (σ 6 (1 : Int32).toNatClampNeg) (σ 6 (2 : Int32).toNatClampNeg) _ _ h16) ok_X6_388 ⟨rfl, rfl, Nat.le_of_ble_eq_true rfl, Nat.le_of_ble_eq_true rfl⟩ (by decide) rfl rfl rfl rfl hl.1 rfl (Nat.le_of_ble_eq_true rfl) dX6_doEntry_46 ⟨Nat.zero_le _, Nat.zero_le _⟩) (fun H locs hW => ?_)
    obtain ⟨z18, ho⟩ := gd_some ho
    obtain rfl := Option.some.inj ho
    exact g_zret (r := q17.1) hC hr hlk hsz hW z18 dX6_doEntry_49
noncomputable def X6_save (σ : gS) : Option (Int32 × gS) :=
  (X0_copyFrom σ 48 24).bind fun σ2 => lt_ (g_up σ2 0 8 1) fun σ3 => some ((σ3 48 1), σ3)
set_option maxHeartbeats 4000000 in
set_option maxRecDepth 100000 in
theorem c_X6_save (l : Launch) (D : va_G) (y : ClassId × ClassId × ClassId) (ad : Nat → Nat) (σ : gS) (sz : Nat) {q : Int32 × gS} (h : X6_save σ = some q) : Met l yX6_save (Cond.code yX6_save cX6_save 1 (some .int) :: gl) ({ frames := 2, cells := 0, slots := 0, locals := 61 }) (g_Pc D y ad σ sz [.ref (ad 0)]) (g_Qi D y ad q.2 sz q.1) 0 0 (g_A ad sz) := by
  have ho := h
  unfold X6_save at ho
  refine g_start (by decide) (Nat.le_of_ble_eq_true rfl) (fun p e s m below meth c ls hC hr hlk hsz hW hl => ?_)
  have hx := hC.1
  have hcd := hC.2.1
  have hl : lv_has ls 1 [(0, .ref (ad 0))] := hl
  refine lv_aload_n hx hcd dX6_save_0 rfl (lv_at hl 0 rfl) ?_
  refine g_getr hC hW (C := RX6) (T := TX6) (N := 11) (ci := 8) (k := 2) (index := 19) (i := 0) (r := 48) inGX6 rfl (by decide) fl_X6_19 (by decide) rfl rfl dX6_save_1 ?_
  refine lv_aload_n hx hcd dX6_save_4 rfl (lv_at hl 0 rfl) ?_
  refine g_getr hC hW (C := RX6) (T := TX6) (N := 11) (ci := 8) (k := 0) (index := 12) (i := 0) (r := 24) inGX6 rfl (by decide) fl_X6_12 (by decide) rfl rfl dX6_save_5 ?_
  obtain ⟨σ2, h1, ho⟩ := gb_some ho
  refine g_callv hW (g_runV (As := [.ref (ad 24)]) (rest := []) (i := 48) hC hW (c_X0_copyFrom l D y ad g_air48 g_air24 _ _ h1) ok_X6_276 ⟨rfl, rfl, Nat.le_of_ble_eq_true rfl, Nat.le_of_ble_eq_true rfl⟩ (g_lt_air g_air48) (g_sh_air g_air48) rfl rfl rfl hl.1 rfl (Nat.le_of_ble_eq_true rfl) dX6_save_8 ⟨Nat.zero_le _, Nat.zero_le _⟩) (fun H locs hW => ?_)
  refine lv_aload_n hx hcd dX6_save_11 rfl (lv_at hl 0 rfl) ?_
  refine lv_iconst (v := 1) hx hcd dX6_save_12 (by decide) ?_
  obtain ⟨σ3, eσ3, ho⟩ := lt_ex ho
  refine g_puti hC hW (C := RX6) (T := TX6) (N := 11) (ci := 8) (k := 8) (index := 54) (i := 0) inGX6 tyX6 tyX6_ok nmX6 rfl (by decide) fl_X6_54 rfl (by decide) rfl rfl rfl rfl dX6_save_13 (fun H locs hW => ?_)
  rw [← eσ3] at hW
  refine lv_aload_n hx hcd dX6_save_16 rfl (lv_at hl 0 rfl) ?_
  refine g_getr hC hW (C := RX6) (T := TX6) (N := 11) (ci := 8) (k := 2) (index := 19) (i := 0) (r := 48) inGX6 rfl (by decide) fl_X6_19 (by decide) rfl rfl dX6_save_17 ?_
  refine g_geti hC hW (C := RX0) (T := TX0) (N := 16) (ci := 2) (k := 1) (index := 65) (i := 48) inGX0 rfl (by decide) fl_X6_65 (g_lt_air g_air48) (g_sh_air g_air48) rfl dX6_save_20 ?_
  obtain rfl := Option.some.inj ho
  exact g_iret hC hr hlk hsz hW dX6_save_23
