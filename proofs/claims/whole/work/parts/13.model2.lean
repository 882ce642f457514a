noncomputable def X7_whyNoTow (σ : gS) (x1 : Int32) (x2 : Int32) : Option (Int32) :=
  (X7_isTurn σ x1).bind fun r2 => if r2 = 0 then (some 1) else ((X7_at σ x1).bind fun r5 => gd (ib (r5 + (1 : Int32)) 162) <| gd (ib (r5 + (2 : Int32)) 162) <| (X7_in σ x2 ((σ 133 (r5 + (1 : Int32)).toNatClampNeg) + (10 : Int32)) ((σ 133 (r5 + (2 : Int32)).toNatClampNeg) - (20 : Int32))).bind fun r9 => if r9 = 0 then (some 2) else ((X7_tow σ x1).bind fun r12 => if r12 < 0 then (some 0) else (some 3)))
set_option maxHeartbeats 4000000 in
set_option maxRecDepth 100000 in
theorem c_X7_whyNoTow (l : Launch) (D : va_G) (y : ClassId × ClassId × ClassId) (ad : Nat → Nat) (x1 : Int32) (x2 : Int32) (σ : gS) (sz : Nat) {q : Int32} (h : X7_whyNoTow σ x1 x2 = some q) : Met l yX7_whyNoTow (Cond.code yX7_whyNoTow cX7_whyNoTow 4 (some .int) :: gl) ({ frames := 2, cells := 0, slots := 0, locals := 43 }) (g_Pc D y ad σ sz [.ref (ad 132), .int x1, .int x2]) (g_Qi D y ad σ sz q) 0 0 (g_A ad sz) := by
  have ho := h
  unfold X7_whyNoTow at ho
  refine g_start (by decide) (Nat.le_of_ble_eq_true rfl) (fun p e s m below meth c ls hC hr hlk hsz hW hl => ?_)
  have hx := hC.1
  have hcd := hC.2.1
  have hl : lv_has ls 4 [(0, .ref (ad 132)), (1, .int x1), (2, .int x2)] := hl
  refine lv_aload_n hx hcd dX7_whyNoTow_0 rfl (lv_at hl 0 rfl) ?_
  refine lv_iload_n hx hcd dX7_whyNoTow_1 rfl (lv_at hl 1 rfl) ?_
  obtain ⟨r2, h1, ho⟩ := gb_some ho
  refine g_calli hW (g_runV (As := [.int x1]) (rest := []) (i := 132) hC hW (c_X7_isTurn l D y ad x1 _ _ h1) ok_X7_85 ⟨rfl, rfl, Nat.le_of_ble_eq_true rfl, Nat.le_of_ble_eq_true rfl⟩ (by decide) rfl rfl rfl rfl hl.1 rfl (Nat.le_of_ble_eq_true rfl) dX7_whyNoTow_2 ⟨Nat.zero_le _, Nat.zero_le _⟩) (fun H locs hW => ?_)
  refine lv_if_ne (tgt := 10) hx hcd dX7_whyNoTow_5 (by decide) (fun c3 => ?_) (fun c3 => ?_)
  · have ho := gif_n ho c3
    refine lv_iload_n hx hcd dX7_whyNoTow_10 rfl (lv_at hl 1 rfl) ?_
    obtain ⟨r5, h4, ho⟩ := gb_some ho
    refine g_calli hW (g_runS (As := [.int x1]) (rest := []) hC hW (c_X7_at l D y ad x1 _ _ h4) ok_X7_81 ⟨rfl, rfl, Nat.le_of_ble_eq_true rfl, Nat.le_of_ble_eq_true rfl⟩ rfl hl.1 rfl (Nat.le_of_ble_eq_true rfl) dX7_whyNoTow_11 ⟨Nat.zero_le _, Nat.zero_le _⟩) (fun H locs hW => ?_)
    refine lv_istore_n (lv' := [(3, .int r5), (0, .ref (ad 132)), (1, .int x1), (2, .int x2)]) hx hcd dX7_whyNoTow_14 rfl hl (by decide) rfl (fun ls hl => ?_)
    refine lv_iload_n hx hcd dX7_whyNoTow_15 rfl (lv_at hl 3 rfl) ?_
    refine lv_aload_n hx hcd dX7_whyNoTow_16 rfl (lv_at hl 1 rfl) ?_
    refine g_getr hC hW (C := RX7) (T := TX7) (N := 19) (ci := 9) (k := 0) (index := 9) (i := 132) (r := 133) inGX7 rfl (by decide) fl_X7_9 (by decide) rfl rfl dX7_whyNoTow_17 ?_
    refine lv_iload_n hx hcd dX7_whyNoTow_20 rfl (lv_at hl 0 rfl) ?_
    refine lv_iconst (v := 1) hx hcd dX7_whyNoTow_21 (by decide) ?_
    refine lv_iadd hx hcd dX7_whyNoTow_22 ?_
    obtain ⟨i6, ho⟩ := gd_some ho
    refine g_iald hC hW (i := 133) (by decide) rfl i6 dX7_whyNoTow_23 ?_
    refine lv_bipush (v := 10) hx hcd dX7_whyNoTow_24 (by decide) ?_
    refine lv_iadd hx hcd dX7_whyNoTow_26 ?_
    refine lv_aload_n hx hcd dX7_whyNoTow_27 rfl (lv_at hl 1 rfl) ?_
    refine g_getr hC hW (C := RX7) (T := TX7) (N := 19) (ci := 9) (k := 0) (index := 9) (i := 132) (r := 133) inGX7 rfl (by decide) fl_X7_9 (by decide) rfl rfl dX7_whyNoTow_28 ?_
    refine lv_iload_n hx hcd dX7_whyNoTow_31 rfl (lv_at hl 0 rfl) ?_
    refine lv_iconst (v := 2) hx hcd dX7_whyNoTow_32 (by decide) ?_
    refine lv_iadd hx hcd dX7_whyNoTow_33 ?_
    obtain ⟨i7, ho⟩ := gd_some ho
    refine g_iald hC hW (i := 133) (by decide) rfl i7 dX7_whyNoTow_34 ?_
    refine lv_bipush (v := 20) hx hcd dX7_whyNoTow_35 (by decide) ?_
    refine lv_isub hx hcd dX7_whyNoTow_37 ?_
    obtain ⟨r9, h8, ho⟩ := gb_some ho
    refine g_calli hW (g_runS (As := [.int x2, .int ((σ 133 (r5 + (1 : Int32)).toNatClampNeg) + (10 : Int32)), .int ((σ 133 (r5 + (2 : Int32)).toNatClampNeg) - (20 : Int32))]) (rest := []) hC hW (c_X7_in l D y ad x2 ((σ 133 (r5 + (1 : Int32)).toNatClampNeg) + (10 : Int32)) ((σ 133 (r5 + (2 : Int32)).toNatClampNeg) - (20 : Int32)) _ _ h8) ok_X7_51 ⟨rfl, rfl, Nat.le_of_ble_eq_true rfl, Nat.le_of_ble_eq_true rfl⟩ rfl hl.1 rfl (Nat.le_of_ble_eq_true rfl) dX7_whyNoTow_38 ⟨Nat.zero_le _, Nat.zero_le _⟩) (fun H locs hW => ?_)
    refine lv_if_ne (tgt := 48) hx hcd dX7_whyNoTow_41 (by decide) (fun c10 => ?_) (fun c10 => ?_)
    · have ho := gif_n ho c10
      refine lv_aload_n hx hcd dX7_whyNoTow_48 rfl (lv_at hl 1 rfl) ?_
      refine lv_iload_n hx hcd dX7_whyNoTow_49 rfl (lv_at hl 2 rfl) ?_
      obtain ⟨r12, h11, ho⟩ := gb_some ho
      refine g_calli hW (g_runV (As := [.int x1]) (rest := []) (i := 132) hC hW (c_X7_tow l D y ad x1 _ _ h11) ok_X7_88 ⟨rfl, rfl, Nat.le_of_ble_eq_true rfl, Nat.le_of_ble_eq_true rfl⟩ (by decide) rfl rfl rfl rfl hl.1 rfl (Nat.le_of_ble_eq_true rfl) dX7_whyNoTow_50 ⟨Nat.zero_le _, Nat.zero_le _⟩) (fun H locs hW => ?_)
      refine lv_if_lt (tgt := 60) hx hcd dX7_whyNoTow_53 (by decide) (fun c13 => ?_) (fun c13 => ?_)
      · have ho := gif_p ho c13
        refine lv_iconst (v := 0) hx hcd dX7_whyNoTow_60 (by decide) ?_
        obtain rfl := Option.some.inj ho
        exact g_iret hC hr hlk hsz hW dX7_whyNoTow_61
      · have ho := gif_n ho c13
        refine lv_iconst (v := 3) hx hcd dX7_whyNoTow_56 (by decide) ?_
        refine lv_goto (tgt := 61) hx hcd dX7_whyNoTow_57 (by decide) ?_
        obtain rfl := Option.some.inj ho
        exact g_iret hC hr hlk hsz hW dX7_whyNoTow_61
    · have ho := gif_p ho c10
      refine lv_iconst (v := 2) hx hcd dX7_whyNoTow_44 (by decide) ?_
      refine lv_goto (tgt := 61) hx hcd dX7_whyNoTow_45 (by decide) ?_
      obtain rfl := Option.some.inj ho
      exact g_iret hC hr hlk hsz hW dX7_whyNoTow_61
  · have ho := gif_p ho c3
    refine lv_iconst (v := 1) hx hcd dX7_whyNoTow_8 (by decide) ?_
    obtain rfl := Option.some.inj ho
    exact g_iret hC hr hlk hsz hW dX7_whyNoTow_9
noncomputable def X7_doTow (σ : gS) (x1 : Int32) (x2 : Int32) : Option (Int32 × gS) :=
  (X7_whyNoTow σ x1 x2).bind fun r2 => if r2 = 0 then ((X7_at σ x1).bind fun r5 => gd (ib (r5 + (4 : Int32)) 162) <| lt_ (g_up σ 133 (r5 + (4 : Int32)).toNatClampNeg x2) fun σ7 => (X7_at σ7 x1).bind fun r9 => gd (ib (r9 + (6 : Int32)) 162) <| lt_ (g_up σ7 133 (r9 + (6 : Int32)).toNatClampNeg (-1)) fun σ11 => some (r2, σ11)) else (some (r2, σ))
set_option maxHeartbeats 4000000 in
set_option maxRecDepth 100000 in
theorem c_X7_doTow (l : Launch) (D : va_G) (y : ClassId × ClassId × ClassId) (ad : Nat → Nat) (x1 : Int32) (x2 : Int32) (σ : gS) (sz : Nat) {q : Int32 × gS} (h : X7_doTow σ x1 x2 = some q) : Met l yX7_doTow (Cond.code yX7_doTow cX7_doTow 4 (some .int) :: gl) ({ frames := 3, cells := 0, slots := 0, locals := 66 }) (g_Pc D y ad σ sz [.ref (ad 132), .int x1, .int x2]) (g_Qi D y ad q.2 sz q.1) 0 0 (g_A ad sz) := by
  have ho := h
  unfold X7_doTow at ho
  refine g_start (by decide) (Nat.le_of_ble_eq_true rfl) (fun p e s m below meth c ls hC hr hlk hsz hW hl => ?_)
  have hx := hC.1
  have hcd := hC.2.1
  have hl : lv_has ls 4 [(0, .ref (ad 132)), (1, .int x1), (2, .int x2)] := hl
  refine lv_aload_n hx hcd dX7_doTow_0 rfl (lv_at hl 0 rfl) ?_
  refine lv_iload_n hx hcd dX7_doTow_1 rfl (lv_at hl 1 rfl) ?_
  refine lv_iload_n hx hcd dX7_doTow_2 rfl (lv_at hl 2 rfl) ?_
  obtain ⟨r2, h1, ho⟩ := gb_some ho
  refine g_calli hW (g_runV (As := [.int x1, .int x2]) (rest := []) (i := 132) hC hW (c_X7_whyNoTow l D y ad x1 x2 _ _ h1) ok_X7_167 ⟨rfl, rfl, Nat.le_of_ble_eq_true rfl, Nat.le_of_ble_eq_true rfl⟩ (by decide) rfl rfl rfl rfl hl.1 rfl (Nat.le_of_ble_eq_true rfl) dX7_doTow_3 ⟨Nat.zero_le _, Nat.zero_le _⟩) (fun H locs hW => ?_)
  refine lv_istore_n (lv' := [(3, .int r2), (0, .ref (ad 132)), (1, .int x1), (2, .int x2)]) hx hcd dX7_doTow_6 rfl hl (by decide) rfl (fun ls hl => ?_)
  refine lv_iload_n hx hcd dX7_doTow_7 rfl (lv_at hl 0 rfl) ?_
  refine lv_if_ne (tgt := 36) hx hcd dX7_doTow_8 (by decide) (fun c3 => ?_) (fun c3 => ?_)
  · have ho := gif_n ho c3
    refine lv_iload_n hx hcd dX7_doTow_36 rfl (lv_at hl 0 rfl) ?_
    obtain rfl := Option.some.inj ho
    exact g_iret hC hr hlk hsz hW dX7_doTow_37
  · have ho := gif_p ho c3
    refine lv_aload_n hx hcd dX7_doTow_11 rfl (lv_at hl 1 rfl) ?_
    refine g_getr hC hW (C := RX7) (T := TX7) (N := 19) (ci := 9) (k := 0) (index := 9) (i := 132) (r := 133) inGX7 rfl (by decide) fl_X7_9 (by decide) rfl rfl dX7_doTow_12 ?_
    refine lv_iload_n hx hcd dX7_doTow_15 rfl (lv_at hl 2 rfl) ?_
    obtain ⟨r5, h4, ho⟩ := gb_some ho
    refine g_calli hW (g_runS (As := [.int x1]) (rest := [.ref (ad 133)]) hC hW (c_X7_at l D y ad x1 _ _ h4) ok_X7_81 ⟨rfl, rfl, Nat.le_of_ble_eq_true rfl, Nat.le_of_ble_eq_true rfl⟩ rfl hl.1 rfl (Nat.le_of_ble_eq_true rfl) dX7_doTow_16 ⟨Nat.zero_le _, Nat.zero_le _⟩) (fun H locs hW => ?_)
    refine lv_iconst (v := 4) hx hcd dX7_doTow_19 (by decide) ?_
    refine lv_iadd hx hcd dX7_doTow_20 ?_
    refine lv_iload_n hx hcd dX7_doTow_21 rfl (lv_at hl 3 rfl) ?_
    obtain ⟨i6, ho⟩ := gd_some ho
    obtain ⟨σ7, eσ7, ho⟩ := lt_ex ho
    refine g_iast hC hW (i := 133) (by decide) rfl i6 dX7_doTow_22 (fun H locs hW => ?_)
    rw [← eσ7] at hW
    refine lv_aload_n hx hcd dX7_doTow_23 rfl (lv_at hl 1 rfl) ?_
    refine g_getr hC hW (C := RX7) (T := TX7) (N := 19) (ci := 9) (k := 0) (index := 9) (i := 132) (r := 133) inGX7 rfl (by decide) fl_X7_9 (by decide) rfl rfl dX7_doTow_24 ?_
    refine lv_iload_n hx hcd dX7_doTow_27 rfl (lv_at hl 2 rfl) ?_
    obtain ⟨r9, h8, ho⟩ := gb_some ho
    refine g_calli hW (g_runS (As := [.int x1]) (rest := [.ref (ad 133)]) hC hW (c_X7_at l D y ad x1 _ _ h8) ok_X7_81 ⟨rfl, rfl, Nat.le_of_ble_eq_true rfl, Nat.le_of_ble_eq_true rfl⟩ rfl hl.1 rfl (Nat.le_of_ble_eq_true rfl) dX7_doTow_28 ⟨Nat.zero_le _, Nat.zero_le _⟩) (fun H locs hW => ?_)
    refine lv_bipush (v := 6) hx hcd dX7_doTow_31 (by decide) ?_
    refine lv_iadd hx hcd dX7_doTow_33 ?_
    refine lv_iconst (v := (-1)) hx hcd dX7_doTow_34 (by decide) ?_
    obtain ⟨i10, ho⟩ := gd_some ho
    obtain ⟨σ11, eσ11, ho⟩ := lt_ex ho
    refine g_iast hC hW (i := 133) (by decide) rfl i10 dX7_doTow_35 (fun H locs hW => ?_)
    rw [← eσ11] at hW
    refine lv_iload_n hx hcd dX7_doTow_36 rfl (lv_at hl 0 rfl) ?_
    obtain rfl := Option.some.inj ho
    exact g_iret hC hr hlk hsz hW dX7_doTow_37
noncomputable def X7_tow_ (σ : gS) (x1 : Int32) (x2 : Int32) : Option (Int32 × gS) :=
  (X7_keepState σ).bind fun σ2 => (X7_doTow σ2 x1 x2).bind fun q4 => lt_ (g_up q4.2 132 8 q4.1) fun σ5 => if (σ5 132 8) ≤ 0 then ((X7_change σ5).bind fun σ8 => (X7_at σ8 x1).bind fun r10 => gd (ib (r10 + (2 : Int32)) 162) <| some ((((σ8 133 (r10 + (2 : Int32)).toNatClampNeg) - x2) - (10 : Int32)), σ8)) else (some (0, σ5))
set_option maxHeartbeats 4000000 in
set_option maxRecDepth 100000 in
theorem c_X7_tow_ (l : Launch) (D : va_G) (y : ClassId × ClassId × ClassId) (ad : Nat → Nat) (x1 : Int32) (x2 : Int32) (σ : gS) (sz : Nat) {q : Int32 × gS} (h : X7_tow_ σ x1 x2 = some q) : Met l yX7_tow_ (Cond.code yX7_tow_ cX7_tow_ 3 (some .int) :: gl) ({ frames := 4, cells := 0, slots := 0, locals := 89 }) (g_Pc D y ad σ sz [.ref (ad 132), .int x1, .int x2]) (g_Qi D y ad q.2 sz q.1) 0 0 (g_A ad sz) := by
  have ho := h
  unfold X7_tow_ at ho
  refine g_start (by decide) (Nat.le_of_ble_eq_true rfl) (fun p e s m below meth c ls hC hr hlk hsz hW hl => ?_)
  have hx := hC.1
  have hcd := hC.2.1
  have hl : lv_has ls 3 [(0, .ref (ad 132)), (1, .int x1), (2, .int x2)] := hl
  refine lv_aload_n hx hcd dX7_tow__0 rfl (lv_at hl 0 rfl) ?_
  obtain ⟨σ2, h1, ho⟩ := gb_some ho
  refine g_callv hW (g_runV (As := []) (rest := []) (i := 132) hC hW (c_X7_keepState l D y ad _ _ h1) ok_X7_64 ⟨rfl, rfl, Nat.le_of_ble_eq_true rfl, Nat.le_of_ble_eq_true rfl⟩ (by decide) rfl rfl rfl rfl hl.1 rfl (Nat.le_of_ble_eq_true rfl) dX7_tow__1 ⟨Nat.zero_le _, Nat.zero_le _⟩) (fun H locs hW => ?_)
  refine lv_aload_n hx hcd dX7_tow__4 rfl (lv_at hl 0 rfl) ?_
  refine lv_aload_n hx hcd dX7_tow__5 rfl (lv_at hl 0 rfl) ?_
  refine lv_iload_n hx hcd dX7_tow__6 rfl (lv_at hl 1 rfl) ?_
  refine lv_iload_n hx hcd dX7_tow__7 rfl (lv_at hl 2 rfl) ?_
  obtain ⟨q4, h3, ho⟩ := gb_some ho
  refine g_calli hW (g_runV (As := [.int x1, .int x2]) (rest := [.ref (ad 132)]) (i := 132) hC hW (c_X7_doTow l D y ad x1 x2 _ _ h3) ok_X7_170 ⟨rfl, rfl, Nat.le_of_ble_eq_true rfl, Nat.le_of_ble_eq_true rfl⟩ (by decide) rfl rfl rfl rfl hl.1 rfl (Nat.le_of_ble_eq_true rfl) dX7_tow__8 ⟨Nat.zero_le _, Nat.zero_le _⟩) (fun H locs hW => ?_)
  obtain ⟨σ5, eσ5, ho⟩ := lt_ex ho
  refine g_puti hC hW (C := RX7) (T := TX7) (N := 19) (ci := 9) (k := 8) (index := 48) (i := 132) inGX7 tyX7 tyX7_ok nmX7 rfl (by decide) fl_X7_48 rfl (by decide) rfl rfl rfl rfl dX7_tow__11 (fun H locs hW => ?_)
  rw [← eσ5] at hW
  refine lv_aload_n hx hcd dX7_tow__14 rfl (lv_at hl 0 rfl) ?_
  refine g_geti hC hW (C := RX7) (T := TX7) (N := 19) (ci := 9) (k := 8) (index := 48) (i := 132) inGX7 rfl (by decide) fl_X7_48 (by decide) rfl rfl dX7_tow__15 ?_
  refine lv_if_le (tgt := 23) hx hcd dX7_tow__18 (by decide) (fun c6 => ?_) (fun c6 => ?_)
  · have ho := gif_p ho c6
    refine lv_aload_n hx hcd dX7_tow__23 rfl (lv_at hl 0 rfl) ?_
    obtain ⟨σ8, h7, ho⟩ := gb_some ho
    refine g_callv hW (g_runV (As := []) (rest := []) (i := 132) hC hW (c_X7_change l D y ad _ _ h7) ok_X7_67 ⟨rfl, rfl, Nat.le_of_ble_eq_true rfl, Nat.le_of_ble_eq_true rfl⟩ (by decide) rfl rfl rfl rfl hl.1 rfl (Nat.le_of_ble_eq_true rfl) dX7_tow__24 ⟨Nat.zero_le _, Nat.zero_le _⟩) (fun H locs hW => ?_)
    refine lv_aload_n hx hcd dX7_tow__27 rfl (lv_at hl 0 rfl) ?_
    refine g_getr hC hW (C := RX7) (T := TX7) (N := 19) (ci := 9) (k := 0) (index := 9) (i := 132) (r := 133) inGX7 rfl (by decide) fl_X7_9 (by decide) rfl rfl dX7_tow__28 ?_
    refine lv_iload_n hx hcd dX7_tow__31 rfl (lv_at hl 1 rfl) ?_
    obtain ⟨r10, h9, ho⟩ := gb_some ho
    refine g_calli hW (g_runS (As := [.int x1]) (rest := [.ref (ad 133)]) hC hW (c_X7_at l D y ad x1 _ _ h9) ok_X7_81 ⟨rfl, rfl, Nat.le_of_ble_eq_true rfl, Nat.le_of_ble_eq_true rfl⟩ rfl hl.1 rfl (Nat.le_of_ble_eq_true rfl) dX7_tow__32 ⟨Nat.zero_le _, Nat.zero_le _⟩) (fun H locs hW => ?_)
    refine lv_iconst (v := 2) hx hcd dX7_tow__35 (by decide) ?_
    refine lv_iadd hx hcd dX7_tow__36 ?_
    obtain ⟨i11, ho⟩ := gd_some ho
    refine g_iald hC hW (i := 133) (by decide) rfl i11 dX7_tow__37 ?_
    refine lv_iload_n hx hcd dX7_tow__38 rfl (lv_at hl 2 rfl) ?_
    refine lv_isub hx hcd dX7_tow__39 ?_
    refine lv_bipush (v := 10) hx hcd dX7_tow__40 (by decide) ?_
    refine lv_isub hx hcd dX7_tow__42 ?_
    obtain rfl := Option.some.inj ho
    exact g_iret hC hr hlk hsz hW dX7_tow__43
  · have ho := gif_n ho c6
    refine lv_iconst (v := 0) hx hcd dX7_tow__21 (by decide) ?_
    obtain rfl := Option.some.inj ho
    exact g_iret hC hr hlk hsz hW dX7_tow__22
noncomputable def X7_untow (σ : gS) (x1 : Int32) : Option (Int32 × gS) :=
  (X7_isTurn σ x1).bind fun r2 => if r2 = 0 then (lt_ (g_up σ 132 8 1) fun σ35 => if (σ35 132 8) ≤ 0 then ((X7_changes σ35).bind fun σ38 => (X7_on σ38 (((2 : Int32) * x1) + (1 : Int32))).bind fun r40 => (X7_at σ38 x1).bind fun r42 => gd (ib (r42 + (4 : Int32)) 162) <| lt_ (g_up σ38 133 (r42 + (4 : Int32)).toNatClampNeg (-1)) fun σ44 => (X7_at σ44 x1).bind fun r46 => gd (ib (r46 + (6 : Int32)) 162) <| lt_ (g_up σ44 133 (r46 + (6 : Int32)).toNatClampNeg (-1)) fun σ48 => some (r40, σ48)) else (some (0, σ35))) else ((X7_tow σ x1).bind fun r5 => if 0 ≤ r5 then (lt_ (g_up σ 132 8 0) fun σ7 => if (σ7 132 8) ≤ 0 then ((X7_changes σ7).bind fun σ10 => (X7_on σ10 (((2 : Int32) * x1) + (1 : Int32))).bind fun r12 => (X7_at σ10 x1).bind fun r14 => gd (ib (r14 + (4 : Int32)) 162) <| lt_ (g_up σ10 133 (r14 + (4 : Int32)).toNatClampNeg (-1)) fun σ16 => (X7_at σ16 x1).bind fun r18 => gd (ib (r18 + (6 : Int32)) 162) <| lt_ (g_up σ16 133 (r18 + (6 : Int32)).toNatClampNeg (-1)) fun σ20 => some (r12, σ20)) else (some (0, σ7))) else (lt_ (g_up σ 132 8 2) fun σ21 => if (σ21 132 8) ≤ 0 then ((X7_changes σ21).bind fun σ24 => (X7_on σ24 (((2 : Int32) * x1) + (1 : Int32))).bind fun r26 => (X7_at σ24 x1).bind fun r28 => gd (ib (r28 + (4 : Int32)) 162) <| lt_ (g_up σ24 133 (r28 + (4 : Int32)).toNatClampNeg (-1)) fun σ30 => (X7_at σ30 x1).bind fun r32 => gd (ib (r32 + (6 : Int32)) 162) <| lt_ (g_up σ30 133 (r32 + (6 : Int32)).toNatClampNeg (-1)) fun σ34 => some (r26, σ34)) else (some (0, σ21))))
set_option maxHeartbeats 4000000 in
set_option maxRecDepth 100000 in
theorem c_X7_untow (l : Launch) (D : va_G) (y : ClassId × ClassId × ClassId) (ad : Nat → Nat) (x1 : Int32) (σ : gS) (sz : Nat) {q : Int32 × gS} (h : X7_untow σ x1 = some q) : Met l yX7_untow (Cond.code yX7_untow cX7_untow 3 (some .int) :: gl) ({ frames := 3, cells := 0, slots := 0, locals := 80 }) (g_Pc D y ad σ sz [.ref (ad 132), .int x1]) (g_Qi D y ad q.2 sz q.1) 0 0 (g_A ad sz) := by
  have ho := h
  unfold X7_untow at ho
  refine g_start (by decide) (Nat.le_of_ble_eq_true rfl) (fun p e s m below meth c ls hC hr hlk hsz hW hl => ?_)
  have hx := hC.1
  have hcd := hC.2.1
  have hl : lv_has ls 3 [(0, .ref (ad 132)), (1, .int x1)] := hl
  refine lv_aload_n hx hcd dX7_untow_0 rfl (lv_at hl 0 rfl) ?_
  refine lv_aload_n hx hcd dX7_untow_1 rfl (lv_at hl 0 rfl) ?_
  refine lv_iload_n hx hcd dX7_untow_2 rfl (lv_at hl 1 rfl) ?_
  obtain ⟨r2, h1, ho⟩ := gb_some ho
  refine g_calli hW (g_runV (As := [.int x1]) (rest := [.ref (ad 132)]) (i := 132) hC hW (c_X7_isTurn l D y ad x1 _ _ h1) ok_X7_85 ⟨rfl, rfl, Nat.le_of_ble_eq_true rfl, Nat.le_of_ble_eq_true rfl⟩ (by decide) rfl rfl rfl rfl hl.1 rfl (Nat.le_of_ble_eq_true rfl) dX7_untow_3 ⟨Nat.zero_le _, Nat.zero_le _⟩) (fun H locs hW => ?_)
  refine lv_if_ne (tgt := 13) hx hcd dX7_untow_6 (by decide) (fun c3 => ?_) (fun c3 => ?_)
  · have ho := gif_n ho c3
    refine lv_aload_n hx hcd dX7_untow_13 rfl (lv_at hl 0 rfl) ?_
    refine lv_iload_n hx hcd dX7_untow_14 rfl (lv_at hl 1 rfl) ?_
    obtain ⟨r5, h4, ho⟩ := gb_some ho
    refine g_calli hW (g_runV (As := [.int x1]) (rest := [.ref (ad 132)]) (i := 132) hC hW (c_X7_tow l D y ad x1 _ _ h4) ok_X7_88 ⟨rfl, rfl, Nat.le_of_ble_eq_true rfl, Nat.le_of_ble_eq_true rfl⟩ (by decide) rfl rfl rfl rfl hl.1 rfl (Nat.le_of_ble_eq_true rfl) dX7_untow_15 ⟨Nat.zero_le _, Nat.zero_le _⟩) (fun H locs hW => ?_)
    refine lv_if_ge (tgt := 25) hx hcd dX7_untow_18 (by decide) (fun c6 => ?_) (fun c6 => ?_)
    · have ho := gif_p ho c6
      refine lv_iconst (v := 0) hx hcd dX7_untow_25 (by decide) ?_
      obtain ⟨σ7, eσ7, ho⟩ := lt_ex ho
      refine g_puti hC hW (C := RX7) (T := TX7) (N := 19) (ci := 9) (k := 8) (index := 48) (i := 132) inGX7 tyX7 tyX7_ok nmX7 rfl (by decide) fl_X7_48 rfl (by decide) rfl rfl rfl rfl dX7_untow_26 (fun H locs hW => ?_)
      rw [← eσ7] at hW
      refine lv_aload_n hx hcd dX7_untow_29 rfl (lv_at hl 0 rfl) ?_
      refine g_geti hC hW (C := RX7) (T := TX7) (N := 19) (ci := 9) (k := 8) (index := 48) (i := 132) inGX7 rfl (by decide) fl_X7_48 (by decide) rfl rfl dX7_untow_30 ?_
      refine lv_if_le (tgt := 38) hx hcd dX7_untow_33 (by decide) (fun c8 => ?_) (fun c8 => ?_)
      · have ho := gif_p ho c8
        refine lv_aload_n hx hcd dX7_untow_38 rfl (lv_at hl 0 rfl) ?_
        obtain ⟨σ10, h9, ho⟩ := gb_some ho
        refine g_callv hW (g_runV (As := []) (rest := []) (i := 132) hC hW (c_X7_changes l D y ad _ _ h9) ok_X7_70 ⟨rfl, rfl, Nat.le_of_ble_eq_true rfl, Nat.le_of_ble_eq_true rfl⟩ (by decide) rfl rfl rfl rfl hl.1 rfl (Nat.le_of_ble_eq_true rfl) dX7_untow_39 ⟨Nat.zero_le _, Nat.zero_le _⟩) (fun H locs hW => ?_)
        refine lv_aload_n hx hcd dX7_untow_42 rfl (lv_at hl 0 rfl) ?_
        refine lv_iconst (v := 2) hx hcd dX7_untow_43 (by decide) ?_
        refine lv_iload_n hx hcd dX7_untow_44 rfl (lv_at hl 1 rfl) ?_
        refine lv_imul hx hcd dX7_untow_45 ?_
        refine lv_iconst (v := 1) hx hcd dX7_untow_46 (by decide) ?_
        refine lv_iadd hx hcd dX7_untow_47 ?_
        obtain ⟨r12, h11, ho⟩ := gb_some ho
        refine g_calli hW (g_runV (As := [.int (((2 : Int32) * x1) + (1 : Int32))]) (rest := []) (i := 132) hC hW (c_X7_on l D y ad (((2 : Int32) * x1) + (1 : Int32)) _ _ h11) ok_X7_94 ⟨rfl, rfl, Nat.le_of_ble_eq_true rfl, Nat.le_of_ble_eq_true rfl⟩ (by decide) rfl rfl rfl rfl hl.1 rfl (Nat.le_of_ble_eq_true rfl) dX7_untow_48 ⟨Nat.zero_le _, Nat.zero_le _⟩) (fun H locs hW => ?_)
        refine lv_istore_n (lv' := [(2, .int r12), (0, .ref (ad 132)), (1, .int x1)]) hx hcd dX7_untow_51 rfl hl (by decide) rfl (fun ls hl => ?_)
        refine lv_aload_n hx hcd dX7_untow_52 rfl (lv_at hl 1 rfl) ?_
        refine g_getr hC hW (C := RX7) (T := TX7) (N := 19) (ci := 9) (k := 0) (index := 9) (i := 132) (r := 133) inGX7 rfl (by decide) fl_X7_9 (by decide) rfl rfl dX7_untow_53 ?_
        refine lv_iload_n hx hcd dX7_untow_56 rfl (lv_at hl 2 rfl) ?_
        obtain ⟨r14, h13, ho⟩ := gb_some ho
        refine g_calli hW (g_runS (As := [.int x1]) (rest := [.ref (ad 133)]) hC hW (c_X7_at l D y ad x1 _ _ h13) ok_X7_81 ⟨rfl, rfl, Nat.le_of_ble_eq_true rfl, Nat.le_of_ble_eq_true rfl⟩ rfl hl.1 rfl (Nat.le_of_ble_eq_true rfl) dX7_untow_57 ⟨Nat.zero_le _, Nat.zero_le _⟩) (fun H locs hW => ?_)
        refine lv_iconst (v := 4) hx hcd dX7_untow_60 (by decide) ?_
        refine lv_iadd hx hcd dX7_untow_61 ?_
        refine lv_iconst (v := (-1)) hx hcd dX7_untow_62 (by decide) ?_
        obtain ⟨i15, ho⟩ := gd_some ho
        obtain ⟨σ16, eσ16, ho⟩ := lt_ex ho
        refine g_iast hC hW (i := 133) (by decide) rfl i15 dX7_untow_63 (fun H locs hW => ?_)
        rw [← eσ16] at hW
        refine lv_aload_n hx hcd dX7_untow_64 rfl (lv_at hl 1 rfl) ?_
        refine g_getr hC hW (C := RX7) (T := TX7) (N := 19) (ci := 9) (k := 0) (index := 9) (i := 132) (r := 133) inGX7 rfl (by decide) fl_X7_9 (by decide) rfl rfl dX7_untow_65 ?_
        refine lv_iload_n hx hcd dX7_untow_68 rfl (lv_at hl 2 rfl) ?_
        obtain ⟨r18, h17, ho⟩ := gb_some ho
        refine g_calli hW (g_runS (As := [.int x1]) (rest := [.ref (ad 133)]) hC hW (c_X7_at l D y ad x1 _ _ h17) ok_X7_81 ⟨rfl, rfl, Nat.le_of_ble_eq_true rfl, Nat.le_of_ble_eq_true rfl⟩ rfl hl.1 rfl (Nat.le_of_ble_eq_true rfl) dX7_untow_69 ⟨Nat.zero_le _, Nat.zero_le _⟩) (fun H locs hW => ?_)
        refine lv_bipush (v := 6) hx hcd dX7_untow_72 (by decide) ?_
        refine lv_iadd hx hcd dX7_untow_74 ?_
        refine lv_iconst (v := (-1)) hx hcd dX7_untow_75 (by decide) ?_
        obtain ⟨i19, ho⟩ := gd_some ho
        obtain ⟨σ20, eσ20, ho⟩ := lt_ex ho
        refine g_iast hC hW (i := 133) (by decide) rfl i19 dX7_untow_76 (fun H locs hW => ?_)
        rw [← eσ20] at hW
        refine lv_iload_n hx hcd dX7_untow_77 rfl (lv_at hl 0 rfl) ?_
        obtain rfl := Option.some.inj ho
        exact g_iret hC hr hlk hsz hW dX7_untow_78
      · have ho := gif_n ho c8
        refine lv_iconst (v := 0) hx hcd dX7_untow_36 (by decide) ?_
        obtain rfl := Option.some.inj ho
        exact g_iret hC hr hlk hsz hW dX7_untow_37
    · have ho := gif_n ho c6
      refine lv_iconst (v := 2) hx hcd dX7_untow_21 (by decide) ?_
      refine lv_goto (tgt := 26) hx hcd dX7_untow_22 (by decide) ?_
      obtain ⟨σ21, eσ21, ho⟩ := lt_ex ho
      refine g_puti hC hW (C := RX7) (T := TX7) (N := 19) (ci := 9) (k := 8) (index := 48) (i := 132) inGX7 tyX7 tyX7_ok nmX7 rfl (by decide) fl_X7_48 rfl (by decide) rfl rfl rfl rfl dX7_untow_26 (fun H locs hW => ?_)
      rw [← eσ21] at hW
      refine lv_aload_n hx hcd dX7_untow_29 rfl (lv_at hl 0 rfl) ?_
      refine g_geti hC hW (C := RX7) (T := TX7) (N := 19) (ci := 9) (k := 8) (index := 48) (i := 132) inGX7 rfl (by decide) fl_X7_48 (by decide) rfl rfl dX7_untow_30 ?_
      refine lv_if_le (tgt := 38) hx hcd dX7_untow_33 (by decide) (fun c22 => ?_) (fun c22 => ?_)
      · have ho := gif_p ho c22
        refine lv_aload_n hx hcd dX7_untow_38 rfl (lv_at hl 0 rfl) ?_
        obtain ⟨σ24, h23, ho⟩ := gb_some ho
        refine g_callv hW (g_runV (As := []) (rest := []) (i := 132) hC hW (c_X7_changes l D y ad _ _ h23) ok_X7_70 ⟨rfl, rfl, Nat.le_of_ble_eq_true rfl, Nat.le_of_ble_eq_true rfl⟩ (by decide) rfl rfl rfl rfl hl.1 rfl (Nat.le_of_ble_eq_true rfl) dX7_untow_39 ⟨Nat.zero_le _, Nat.zero_le _⟩) (fun H locs hW => ?_)
        refine lv_aload_n hx hcd dX7_untow_42 rfl (lv_at hl 0 rfl) ?_
        refine lv_iconst (v := 2) hx hcd dX7_untow_43 (by decide) ?_
        refine lv_iload_n hx hcd dX7_untow_44 rfl (lv_at hl 1 rfl) ?_
        refine lv_imul hx hcd dX7_untow_45 ?_
        refine lv_iconst (v := 1) hx hcd dX7_untow_46 (by decide) ?_
        refine lv_iadd hx hcd dX7_untow_47 ?_
        obtain ⟨r26, h25, ho⟩ := gb_some ho
        refine g_calli hW (g_runV (As := [.int (((2 : Int32) * x1) + (1 : Int32))]) (rest := []) (i := 132) hC hW (c_X7_on l D y ad (((2 : Int32) * x1) + (1 : Int32)) _ _ h25) ok_X7_94 ⟨rfl, rfl, Nat.le_of_ble_eq_true rfl, Nat.le_of_ble_eq_true rfl⟩ (by decide) rfl rfl rfl rfl hl.1 rfl (Nat.le_of_ble_eq_true rfl) dX7_untow_48 ⟨Nat.zero_le _, Nat.zero_le _⟩) (fun H locs hW => ?_)
        refine lv_istore_n (lv' := [(2, .int r26), (0, .ref (ad 132)), (1, .int x1)]) hx hcd dX7_untow_51 rfl hl (by decide) rfl (fun ls hl => ?_)
        refine lv_aload_n hx hcd dX7_untow_52 rfl (lv_at hl 1 rfl) ?_
        refine g_getr hC hW (C := RX7) (T := TX7) (N := 19) (ci := 9) (k := 0) (index := 9) (i := 132) (r := 133) inGX7 rfl (by decide) fl_X7_9 (by decide) rfl rfl dX7_untow_53 ?_
        refine lv_iload_n hx hcd dX7_untow_56 rfl (lv_at hl 2 rfl) ?_
        obtain ⟨r28, h27, ho⟩ := gb_some ho
        refine g_calli hW (g_runS (As := [.int x1]) (rest := [.ref (ad 133)]) hC hW (c_X7_at l D y ad x1 _ _ h27) ok_X7_81 ⟨rfl, rfl, Nat.le_of_ble_eq_true rfl, Nat.le_of_ble_eq_true rfl⟩ rfl hl.1 rfl (Nat.le_of_ble_eq_true rfl) dX7_untow_57 ⟨Nat.zero_le _, Nat.zero_le _⟩) (fun H locs hW => ?_)
        refine lv_iconst (v := 4) hx hcd dX7_untow_60 (by decide) ?_
        refine lv_iadd hx hcd dX7_untow_61 ?_
        refine lv_iconst (v := (-1)) hx hcd dX7_untow_62 (by decide) ?_
        obtain ⟨i29, ho⟩ := gd_some ho
        obtain ⟨σ30, eσ30, ho⟩ := lt_ex ho
        refine g_iast hC hW (i := 133) (by decide) rfl i29 dX7_untow_63 (fun H locs hW => ?_)
        rw [← eσ30] at hW
        refine lv_aload_n hx hcd dX7_untow_64 rfl (lv_at hl 1 rfl) ?_
        refine g_getr hC hW (C := RX7) (T := TX7) (N := 19) (ci := 9) (k := 0) (index := 9) (i := 132) (r := 133) inGX7 rfl (by decide) fl_X7_9 (by decide) rfl rfl dX7_untow_65 ?_
        refine lv_iload_n hx hcd dX7_untow_68 rfl (lv_at hl 2 rfl) ?_
        obtain ⟨r32, h31, ho⟩ := gb_some ho
        refine g_calli hW (g_runS (As := [.int x1]) (rest := [.ref (ad 133)]) hC hW (c_X7_at l D y ad x1 _ _ h31) ok_X7_81 ⟨rfl, rfl, Nat.le_of_ble_eq_true rfl, Nat.le_of_ble_eq_true rfl⟩ rfl hl.1 rfl (Nat.le_of_ble_eq_true rfl) dX7_untow_69 ⟨Nat.zero_le _, Nat.zero_le _⟩) (fun H locs hW => ?_)
        refine lv_bipush (v := 6) hx hcd dX7_untow_72 (by decide) ?_
        refine lv_iadd hx hcd dX7_untow_74 ?_
        refine lv_iconst (v := (-1)) hx hcd dX7_untow_75 (by decide) ?_
        obtain ⟨i33, ho⟩ := gd_some ho
        obtain ⟨σ34, eσ34, ho⟩ := lt_ex ho
        refine g_iast hC hW (i := 133) (by decide) rfl i33 dX7_untow_76 (fun H locs hW => ?_)
        rw [← eσ34] at hW
        refine lv_iload_n hx hcd dX7_untow_77 rfl (lv_at hl 0 rfl) ?_
        obtain rfl := Option.some.inj ho
        exact g_iret hC hr hlk hsz hW dX7_untow_78
      · have ho := gif_n ho c22
        refine lv_iconst (v := 0) hx hcd dX7_untow_36 (by decide) ?_
        obtain rfl := Option.some.inj ho
        exact g_iret hC hr hlk hsz hW dX7_untow_37
  · have ho := gif_p ho c3
    refine lv_iconst (v := 1) hx hcd dX7_untow_9 (by decide) ?_
    refine lv_goto (tgt := 26) hx hcd dX7_untow_10 (by decide) ?_
    obtain ⟨σ35, eσ35, ho⟩ := lt_ex ho
    refine g_puti hC hW (C := RX7) (T := TX7) (N := 19) (ci := 9) (k := 8) (index := 48) (i := 132) inGX7 tyX7 tyX7_ok nmX7 rfl (by decide) fl_X7_48 rfl (by decide) rfl rfl rfl rfl dX7_untow_26 (fun H locs hW => ?_)
    rw [← eσ35] at hW
    refine lv_aload_n hx hcd dX7_untow_29 rfl (lv_at hl 0 rfl) ?_
    refine g_geti hC hW (C := RX7) (T := TX7) (N := 19) (ci := 9) (k := 8) (index := 48) (i := 132) inGX7 rfl (by decide) fl_X7_48 (by decide) rfl rfl dX7_untow_30 ?_
    refine lv_if_le (tgt := 38) hx hcd dX7_untow_33 (by decide) (fun c36 => ?_) (fun c36 => ?_)
    · have ho := gif_p ho c36
      refine lv_aload_n hx hcd dX7_untow_38 rfl (lv_at hl 0 rfl) ?_
      obtain ⟨σ38, h37, ho⟩ := gb_some ho
      refine g_callv hW (g_runV (As := []) (rest := []) (i := 132) hC hW (c_X7_changes l D y ad _ _ h37) ok_X7_70 ⟨rfl, rfl, Nat.le_of_ble_eq_true rfl, Nat.le_of_ble_eq_true rfl⟩ (by decide) rfl rfl rfl rfl hl.1 rfl (Nat.le_of_ble_eq_true rfl) dX7_untow_39 ⟨Nat.zero_le _, Nat.zero_le _⟩) (fun H locs hW => ?_)
      refine lv_aload_n hx hcd dX7_untow_42 rfl (lv_at hl 0 rfl) ?_
      refine lv_iconst (v := 2) hx hcd dX7_untow_43 (by decide) ?_
      refine lv_iload_n hx hcd dX7_untow_44 rfl (lv_at hl 1 rfl) ?_
      refine lv_imul hx hcd dX7_untow_45 ?_
      refine lv_iconst (v := 1) hx hcd dX7_untow_46 (by decide) ?_
      refine lv_iadd hx hcd dX7_untow_47 ?_
      obtain ⟨r40, h39, ho⟩ := gb_some ho
      refine g_calli hW (g_runV (As := [.int (((2 : Int32) * x1) + (1 : Int32))]) (rest := []) (i := 132) hC hW (c_X7_on l D y ad (((2 : Int32) * x1) + (1 : Int32)) _ _ h39) ok_X7_94 ⟨rfl, rfl, Nat.le_of_ble_eq_true rfl, Nat.le_of_ble_eq_true rfl⟩ (by decide) rfl rfl rfl rfl hl.1 rfl (Nat.le_of_ble_eq_true rfl) dX7_untow_48 ⟨Nat.zero_le _, Nat.zero_le _⟩) (fun H locs hW => ?_)
      refine lv_istore_n (lv' := [(2, .int r40), (0, .ref (ad 132)), (1, .int x1)]) hx hcd dX7_untow_51 rfl hl (by decide) rfl (fun ls hl => ?_)
      refine lv_aload_n hx hcd dX7_untow_52 rfl (lv_at hl 1 rfl) ?_
      refine g_getr hC hW (C := RX7) (T := TX7) (N := 19) (ci := 9) (k := 0) (index := 9) (i := 132) (r := 133) inGX7 rfl (by decide) fl_X7_9 (by decide) rfl rfl dX7_untow_53 ?_
      refine lv_iload_n hx hcd dX7_untow_56 rfl (lv_at hl 2 rfl) ?_
      obtain ⟨r42, h41, ho⟩ := gb_some ho
      refine g_calli hW (g_runS (As := [.int x1]) (rest := [.ref (ad 133)]) hC hW (c_X7_at l D y ad x1 _ _ h41) ok_X7_81 ⟨rfl, rfl, Nat.le_of_ble_eq_true rfl, Nat.le_of_ble_eq_true rfl⟩ rfl hl.1 rfl (Nat.le_of_ble_eq_true rfl) dX7_untow_57 ⟨Nat.zero_le _, Nat.zero_le _⟩) (fun H locs hW => ?_)
      refine lv_iconst (v := 4) hx hcd dX7_untow_60 (by decide) ?_
      refine lv_iadd hx hcd dX7_untow_61 ?_
      refine lv_iconst (v := (-1)) hx hcd dX7_untow_62 (by decide) ?_
      obtain ⟨i43, ho⟩ := gd_some ho
      obtain ⟨σ44, eσ44, ho⟩ := lt_ex ho
      refine g_iast hC hW (i := 133) (by decide) rfl i43 dX7_untow_63 (fun H locs hW => ?_)
      rw [← eσ44] at hW
      refine lv_aload_n hx hcd dX7_untow_64 rfl (lv_at hl 1 rfl) ?_
      refine g_getr hC hW (C := RX7) (T := TX7) (N := 19) (ci := 9) (k := 0) (index := 9) (i := 132) (r := 133) inGX7 rfl (by decide) fl_X7_9 (by decide) rfl rfl dX7_untow_65 ?_
      refine lv_iload_n hx hcd dX7_untow_68 rfl (lv_at hl 2 rfl) ?_
      obtain ⟨r46, h45, ho⟩ := gb_some ho
      refine g_calli hW (g_runS (As := [.int x1]) (rest := [.ref (ad 133)]) hC hW (c_X7_at l D y ad x1 _ _ h45) ok_X7_81 ⟨rfl, rfl, Nat.le_of_ble_eq_true rfl, Nat.le_of_ble_eq_true rfl⟩ rfl hl.1 rfl (Nat.le_of_ble_eq_true rfl) dX7_untow_69 ⟨Nat.zero_le _, Nat.zero_le _⟩) (fun H locs hW => ?_)
      refine lv_bipush (v := 6) hx hcd dX7_untow_72 (by decide) ?_
      refine lv_iadd hx hcd dX7_untow_74 ?_
      refine lv_iconst (v := (-1)) hx hcd dX7_untow_75 (by decide) ?_
      obtain ⟨i47, ho⟩ := gd_some ho
      obtain ⟨σ48, eσ48, ho⟩ := lt_ex ho
      refine g_iast hC hW (i := 133) (by decide) rfl i47 dX7_untow_76 (fun H locs hW => ?_)
      rw [← eσ48] at hW
      refine lv_iload_n hx hcd dX7_untow_77 rfl (lv_at hl 0 rfl) ?_
      obtain rfl := Option.some.inj ho
      exact g_iret hC hr hlk hsz hW dX7_untow_78
    · have ho := gif_n ho c36
      refine lv_iconst (v := 0) hx hcd dX7_untow_36 (by decide) ?_
      obtain rfl := Option.some.inj ho
      exact g_iret hC hr hlk hsz hW dX7_untow_37
noncomputable def X7_doDelay (σ : gS) (x1 : Int32) (x2 : Int32) : Option (Int32 × gS) :=
  (X7_isTurn σ x1).bind fun r2 => if r2 = 0 then (some (1, σ)) else ((X7_in σ x2 1 300).bind fun r5 => if r5 = 0 then (some (2, σ)) else ((X7_at σ x1).bind fun r8 => gd (ib (r8 + (1 : Int32)) 162) <| gd (ib (r8 + (4 : Int32)) 162) <| if 0 ≤ (σ 133 (r8 + (4 : Int32)).toNatClampNeg) then (lt_ ((if (σ 133 (r8 + (4 : Int32)).toNatClampNeg) < (((σ 133 (r8 + (1 : Int32)).toNatClampNeg) + x2) + (10 : Int32)) then (((σ 133 (r8 + (1 : Int32)).toNatClampNeg) + x2) + (10 : Int32)) else (σ 133 (r8 + (4 : Int32)).toNatClampNeg))) fun v12 => gd (ib (r8 + (2 : Int32)) 162) <| if 0 ≤ v12 then (lt_ ((if (σ 133 (r8 + (2 : Int32)).toNatClampNeg) < (if (((σ 133 (r8 + (1 : Int32)).toNatClampNeg) + x2) + (30 : Int32)) < (v12 + (20 : Int32)) then (v12 + (20 : Int32)) else (((σ 133 (r8 + (1 : Int32)).toNatClampNeg) + x2) + (30 : Int32))) then (if (((σ 133 (r8 + (1 : Int32)).toNatClampNeg) + x2) + (30 : Int32)) < (v12 + (20 : Int32)) then (v12 + (20 : Int32)) else (((σ 133 (r8 + (1 : Int32)).toNatClampNeg) + x2) + (30 : Int32))) else (σ 133 (r8 + (2 : Int32)).toNatClampNeg))) fun v15 => if v15 ≤ 1440 then (lt_ (g_up σ 133 (r8 + (1 : Int32)).toNatClampNeg ((σ 133 (r8 + (1 : Int32)).toNatClampNeg) + x2)) fun σ17 => lt_ (g_up σ17 133 (r8 + (2 : Int32)).toNatClampNeg v15) fun σ18 => lt_ (g_up σ18 133 (r8 + (4 : Int32)).toNatClampNeg v12) fun σ19 => some (0, σ19)) else (some (3, σ))) else (lt_ ((if (σ 133 (r8 + (2 : Int32)).toNatClampNeg) < (if (((σ 133 (r8 + (1 : Int32)).toNatClampNeg) + x2) + (30 : Int32)) < 0 then 0 else (((σ 133 (r8 + (1 : Int32)).toNatClampNeg) + x2) + (30 : Int32))) then (if (((σ 133 (r8 + (1 : Int32)).toNatClampNeg) + x2) + (30 : Int32)) < 0 then 0 else (((σ 133 (r8 + (1 : Int32)).toNatClampNeg) + x2) + (30 : Int32))) else (σ 133 (r8 + (2 : Int32)).toNatClampNeg))) fun v20 => if v20 ≤ 1440 then (lt_ (g_up σ 133 (r8 + (1 : Int32)).toNatClampNeg ((σ 133 (r8 + (1 : Int32)).toNatClampNeg) + x2)) fun σ22 => lt_ (g_up σ22 133 (r8 + (2 : Int32)).toNatClampNeg v20) fun σ23 => lt_ (g_up σ23 133 (r8 + (4 : Int32)).toNatClampNeg v12) fun σ24 => some (0, σ24)) else (some (3, σ)))) else (gd (ib (r8 + (2 : Int32)) 162) <| lt_ ((if (σ 133 (r8 + (2 : Int32)).toNatClampNeg) < (if (((σ 133 (r8 + (1 : Int32)).toNatClampNeg) + x2) + (30 : Int32)) < 0 then 0 else (((σ 133 (r8 + (1 : Int32)).toNatClampNeg) + x2) + (30 : Int32))) then (if (((σ 133 (r8 + (1 : Int32)).toNatClampNeg) + x2) + (30 : Int32)) < 0 then 0 else (((σ 133 (r8 + (1 : Int32)).toNatClampNeg) + x2) + (30 : Int32))) else (σ 133 (r8 + (2 : Int32)).toNatClampNeg))) fun v26 => if v26 ≤ 1440 then (lt_ (g_up σ 133 (r8 + (1 : Int32)).toNatClampNeg ((σ 133 (r8 + (1 : Int32)).toNatClampNeg) + x2)) fun σ28 => lt_ (g_up σ28 133 (r8 + (2 : Int32)).toNatClampNeg v26) fun σ29 => lt_ (g_up σ29 133 (r8 + (4 : Int32)).toNatClampNeg (-1)) fun σ30 => some (0, σ30)) else (some (3, σ)))))
set_option maxHeartbeats 4000000 in
set_option maxRecDepth 100000 in
theorem c_X7_doDelay (l : Launch) (D : va_G) (y : ClassId × ClassId × ClassId) (ad : Nat → Nat) (x1 : Int32) (x2 : Int32) (σ : gS) (sz : Nat) {q : Int32 × gS} (h : X7_doDelay σ x1 x2 = some q) : Met l yX7_doDelay (Cond.code yX7_doDelay cX7_doDelay 7 (some .int) :: gl) ({ frames := 2, cells := 0, slots := 0, locals := 43 }) (g_Pc D y ad σ sz [.ref (ad 132), .int x1, .int x2]) (g_Qi D y ad q.2 sz q.1) 0 0 (g_A ad sz) := by
  have ho := h
  unfold X7_doDelay at ho
  refine g_start (by decide) (Nat.le_of_ble_eq_true rfl) (fun p e s m below meth c ls hC hr hlk hsz hW hl => ?_)
  have hx := hC.1
  have hcd := hC.2.1
  have hl : lv_has ls 7 [(0, .ref (ad 132)), (1, .int x1), (2, .int x2)] := hl
  refine lv_aload_n hx hcd dX7_doDelay_0 rfl (lv_at hl 0 rfl) ?_
  refine lv_iload_n hx hcd dX7_doDelay_1 rfl (lv_at hl 1 rfl) ?_
  obtain ⟨r2, h1, ho⟩ := gb_some ho
  refine g_calli hW (g_runV (As := [.int x1]) (rest := []) (i := 132) hC hW (c_X7_isTurn l D y ad x1 _ _ h1) ok_X7_85 ⟨rfl, rfl, Nat.le_of_ble_eq_true rfl, Nat.le_of_ble_eq_true rfl⟩ (by decide) rfl rfl rfl rfl hl.1 rfl (Nat.le_of_ble_eq_true rfl) dX7_doDelay_2 ⟨Nat.zero_le _, Nat.zero_le _⟩) (fun H locs hW => ?_)
  refine lv_if_ne (tgt := 10) hx hcd dX7_doDelay_5 (by decide) (fun c3 => ?_) (fun c3 => ?_)
  · have ho := gif_n ho c3
    refine lv_iload_n hx hcd dX7_doDelay_10 rfl (lv_at hl 2 rfl) ?_
    refine lv_iconst (v := 1) hx hcd dX7_doDelay_11 (by decide) ?_
    refine lv_sipush (v := 300) hx hcd dX7_doDelay_12 (by decide) ?_
    obtain ⟨r5, h4, ho⟩ := gb_some ho
    refine g_calli hW (g_runS (As := [.int x2, .int 1, .int 300]) (rest := []) hC hW (c_X7_in l D y ad x2 1 300 _ _ h4) ok_X7_51 ⟨rfl, rfl, Nat.le_of_ble_eq_true rfl, Nat.le_of_ble_eq_true rfl⟩ rfl hl.1 rfl (Nat.le_of_ble_eq_true rfl) dX7_doDelay_15 ⟨Nat.zero_le _, Nat.zero_le _⟩) (fun H locs hW => ?_)
    refine lv_if_ne (tgt := 23) hx hcd dX7_doDelay_18 (by decide) (fun c6 => ?_) (fun c6 => ?_)
    · have ho := gif_n ho c6
      refine lv_iload_n hx hcd dX7_doDelay_23 rfl (lv_at hl 1 rfl) ?_
      obtain ⟨r8, h7, ho⟩ := gb_some ho
      refine g_calli hW (g_runS (As := [.int x1]) (rest := []) hC hW (c_X7_at l D y ad x1 _ _ h7) ok_X7_81 ⟨rfl, rfl, Nat.le_of_ble_eq_true rfl, Nat.le_of_ble_eq_true rfl⟩ rfl hl.1 rfl (Nat.le_of_ble_eq_true rfl) dX7_doDelay_24 ⟨Nat.zero_le _, Nat.zero_le _⟩) (fun H locs hW => ?_)
      refine lv_istore_n (lv' := [(3, .int r8), (0, .ref (ad 132)), (1, .int x1), (2, .int x2)]) hx hcd dX7_doDelay_27 rfl hl (by decide) rfl (fun ls hl => ?_)
      refine lv_aload_n hx hcd dX7_doDelay_28 rfl (lv_at hl 1 rfl) ?_
      refine g_getr hC hW (C := RX7) (T := TX7) (N := 19) (ci := 9) (k := 0) (index := 9) (i := 132) (r := 133) inGX7 rfl (by decide) fl_X7_9 (by decide) rfl rfl dX7_doDelay_29 ?_
      refine lv_iload_n hx hcd dX7_doDelay_32 rfl (lv_at hl 0 rfl) ?_
      refine lv_iconst (v := 1) hx hcd dX7_doDelay_33 (by decide) ?_
      refine lv_iadd hx hcd dX7_doDelay_34 ?_
      obtain ⟨i9, ho⟩ := gd_some ho
      refine g_iald hC hW (i := 133) (by decide) rfl i9 dX7_doDelay_35 ?_
      refine lv_iload_n hx hcd dX7_doDelay_36 rfl (lv_at hl 3 rfl) ?_
      refine lv_iadd hx hcd dX7_doDelay_37 ?_
      refine lv_istore (lv' := [(4, .int ((σ 133 (r8 + (1 : Int32)).toNatClampNeg) + x2)), (3, .int r8), (0, .ref (ad 132)), (1, .int x1), (2, .int x2)]) hx hcd dX7_doDelay_38 hl (by decide) rfl (fun ls hl => ?_)
      refine lv_aload_n hx hcd dX7_doDelay_40 rfl (lv_at hl 2 rfl) ?_
      refine g_getr hC hW (C := RX7) (T := TX7) (N := 19) (ci := 9) (k := 0) (index := 9) (i := 132) (r := 133) inGX7 rfl (by decide) fl_X7_9 (by decide) rfl rfl dX7_doDelay_41 ?_
      refine lv_iload_n hx hcd dX7_doDelay_44 rfl (lv_at hl 1 rfl) ?_
      refine lv_iconst (v := 4) hx hcd dX7_doDelay_45 (by decide) ?_
      refine lv_iadd hx hcd dX7_doDelay_46 ?_
      obtain ⟨i10, ho⟩ := gd_some ho
      refine g_iald hC hW (i := 133) (by decide) rfl i10 dX7_doDelay_47 ?_
      refine lv_if_ge (tgt := 55) hx hcd dX7_doDelay_48 (by decide) (fun c11 => ?_) (fun c11 => ?_)
      · have ho := gif_p ho c11
        refine lv_aload_n hx hcd dX7_doDelay_55 rfl (lv_at hl 2 rfl) ?_
        refine g_getr hC hW (C := RX7) (T := TX7) (N := 19) (ci := 9) (k := 0) (index := 9) (i := 132) (r := 133) inGX7 rfl (by decide) fl_X7_9 (by decide) rfl rfl dX7_doDelay_56 ?_
        refine lv_iload_n hx hcd dX7_doDelay_59 rfl (lv_at hl 1 rfl) ?_
        refine lv_iconst (v := 4) hx hcd dX7_doDelay_60 (by decide) ?_
        refine lv_iadd hx hcd dX7_doDelay_61 ?_
        refine g_iald hC hW (i := 133) (by decide) rfl i10 dX7_doDelay_62 ?_
        refine lv_iload hx hcd dX7_doDelay_63 (lv_at hl 0 rfl) ?_
        refine lv_bipush (v := 10) hx hcd dX7_doDelay_65 (by decide) ?_
        refine lv_iadd hx hcd dX7_doDelay_67 ?_
        refine va_mmax hx hcd (hC.2.2.1.trans hl.1.symm) hC.2.2.2.1 (hC.2.2.2.2.1 _ ml_X7_173) (hC.2.2.2.2.1 _ mt_J9_max_7cf53) (hC.2.2.2.2.1 _ ii_J9) (hC.2.2.2.2.1 _ mc_J9_max_7cf53) (Nat.le_of_ble_eq_true rfl) (Nat.le_of_ble_eq_true rfl) (Nat.zero_le _) (Nat.zero_le _) dX7_doDelay_68 ?_
        obtain ⟨v12, ev12, ho⟩ := lt_ex ho
        rw [← ev12]
        refine lv_istore (lv' := [(5, .int v12), (4, .int ((σ 133 (r8 + (1 : Int32)).toNatClampNeg) + x2)), (3, .int r8), (0, .ref (ad 132)), (1, .int x1), (2, .int x2)]) hx hcd dX7_doDelay_71 hl (by decide) rfl (fun ls hl => ?_)
        refine lv_aload_n hx hcd dX7_doDelay_73 rfl (lv_at hl 3 rfl) ?_
        refine g_getr hC hW (C := RX7) (T := TX7) (N := 19) (ci := 9) (k := 0) (index := 9) (i := 132) (r := 133) inGX7 rfl (by decide) fl_X7_9 (by decide) rfl rfl dX7_doDelay_74 ?_
        refine lv_iload_n hx hcd dX7_doDelay_77 rfl (lv_at hl 2 rfl) ?_
        refine lv_iconst (v := 2) hx hcd dX7_doDelay_78 (by decide) ?_
        refine lv_iadd hx hcd dX7_doDelay_79 ?_
        obtain ⟨i13, ho⟩ := gd_some ho
        refine g_iald hC hW (i := 133) (by decide) rfl i13 dX7_doDelay_80 ?_
        refine lv_iload hx hcd dX7_doDelay_81 (lv_at hl 1 rfl) ?_
        refine lv_bipush (v := 30) hx hcd dX7_doDelay_83 (by decide) ?_
        refine lv_iadd hx hcd dX7_doDelay_85 ?_
        refine lv_iload hx hcd dX7_doDelay_86 (lv_at hl 0 rfl) ?_
        refine lv_if_ge (tgt := 95) hx hcd dX7_doDelay_88 (by decide) (fun c14 => ?_) (fun c14 => ?_)
        · have ho := gif_p ho c14
          refine lv_iload hx hcd dX7_doDelay_95 (lv_at hl 0 rfl) ?_
          refine lv_bipush (v := 20) hx hcd dX7_doDelay_97 (by decide) ?_
          refine lv_iadd hx hcd dX7_doDelay_99 ?_
          refine va_mmax hx hcd (hC.2.2.1.trans hl.1.symm) hC.2.2.2.1 (hC.2.2.2.2.1 _ ml_X7_173) (hC.2.2.2.2.1 _ mt_J9_max_7cf53) (hC.2.2.2.2.1 _ ii_J9) (hC.2.2.2.2.1 _ mc_J9_max_7cf53) (Nat.le_of_ble_eq_true rfl) (Nat.le_of_ble_eq_true rfl) (Nat.zero_le _) (Nat.zero_le _) dX7_doDelay_100 ?_
          refine va_mmax hx hcd (hC.2.2.1.trans hl.1.symm) hC.2.2.2.1 (hC.2.2.2.2.1 _ ml_X7_173) (hC.2.2.2.2.1 _ mt_J9_max_7cf53) (hC.2.2.2.2.1 _ ii_J9) (hC.2.2.2.2.1 _ mc_J9_max_7cf53) (Nat.le_of_ble_eq_true rfl) (Nat.le_of_ble_eq_true rfl) (Nat.zero_le _) (Nat.zero_le _) dX7_doDelay_103 ?_
          obtain ⟨v15, ev15, ho⟩ := lt_ex ho
          rw [← ev15]
          refine lv_istore (lv' := [(6, .int v15), (5, .int v12), (4, .int ((σ 133 (r8 + (1 : Int32)).toNatClampNeg) + x2)), (3, .int r8), (0, .ref (ad 132)), (1, .int x1), (2, .int x2)]) hx hcd dX7_doDelay_106 hl (by decide) rfl (fun ls hl => ?_)
          refine lv_iload hx hcd dX7_doDelay_108 (lv_at hl 0 rfl) ?_
          refine lv_sipush (v := 1440) hx hcd dX7_doDelay_110 (by decide) ?_
          refine lv_icmp_le (tgt := 118) hx hcd dX7_doDelay_113 (by decide) (fun c16 => ?_) (fun c16 => ?_)
          · have ho := gif_p ho c16
            refine lv_aload_n hx hcd dX7_doDelay_118 rfl (lv_at hl 4 rfl) ?_
            refine g_getr hC hW (C := RX7) (T := TX7) (N := 19) (ci := 9) (k := 0) (index := 9) (i := 132) (r := 133) inGX7 rfl (by decide) fl_X7_9 (by decide) rfl rfl dX7_doDelay_119 ?_
            refine lv_iload_n hx hcd dX7_doDelay_122 rfl (lv_at hl 3 rfl) ?_
            refine lv_iconst (v := 1) hx hcd dX7_doDelay_123 (by decide) ?_
            refine lv_iadd hx hcd dX7_doDelay_124 ?_
            refine lv_iload hx hcd dX7_doDelay_125 (lv_at hl 2 rfl) ?_
            obtain ⟨σ17, eσ17, ho⟩ := lt_ex ho
            refine g_iast hC hW (i := 133) (by decide) rfl i9 dX7_doDelay_127 (fun H locs hW => ?_)
            rw [← eσ17] at hW
            refine lv_aload_n hx hcd dX7_doDelay_128 rfl (lv_at hl 4 rfl) ?_
            refine g_getr hC hW (C := RX7) (T := TX7) (N := 19) (ci := 9) (k := 0) (index := 9) (i := 132) (r := 133) inGX7 rfl (by decide) fl_X7_9 (by decide) rfl rfl dX7_doDelay_129 ?_
            refine lv_iload_n hx hcd dX7_doDelay_132 rfl (lv_at hl 3 rfl) ?_
            refine lv_iconst (v := 2) hx hcd dX7_doDelay_133 (by decide) ?_
            refine lv_iadd hx hcd dX7_doDelay_134 ?_
            refine lv_iload hx hcd dX7_doDelay_135 (lv_at hl 0 rfl) ?_
            obtain ⟨σ18, eσ18, ho⟩ := lt_ex ho
            refine g_iast hC hW (i := 133) (by decide) rfl i13 dX7_doDelay_137 (fun H locs hW => ?_)
            rw [← eσ18] at hW
            refine lv_aload_n hx hcd dX7_doDelay_138 rfl (lv_at hl 4 rfl) ?_
            refine g_getr hC hW (C := RX7) (T := TX7) (N := 19) (ci := 9) (k := 0) (index := 9) (i := 132) (r := 133) inGX7 rfl (by decide) fl_X7_9 (by decide) rfl rfl dX7_doDelay_139 ?_
            refine lv_iload_n hx hcd dX7_doDelay_142 rfl (lv_at hl 3 rfl) ?_
            refine lv_iconst (v := 4) hx hcd dX7_doDelay_143 (by decide) ?_
            refine lv_iadd hx hcd dX7_doDelay_144 ?_
            refine lv_iload hx hcd dX7_doDelay_145 (lv_at hl 1 rfl) ?_
            obtain ⟨σ19, eσ19, ho⟩ := lt_ex ho
            refine g_iast hC hW (i := 133) (by decide) rfl i10 dX7_doDelay_147 (fun H locs hW => ?_)
            rw [← eσ19] at hW
            refine lv_iconst (v := 0) hx hcd dX7_doDelay_148 (by decide) ?_
            obtain rfl := Option.some.inj ho
            exact g_iret hC hr hlk hsz hW dX7_doDelay_149
          · have ho := gif_n ho c16
            refine lv_iconst (v := 3) hx hcd dX7_doDelay_116 (by decide) ?_
            obtain rfl := Option.some.inj ho
            exact g_iret hC hr hlk hsz hW dX7_doDelay_117
        · have ho := gif_n ho c14
          refine lv_iconst (v := 0) hx hcd dX7_doDelay_91 (by decide) ?_
          refine lv_goto (tgt := 100) hx hcd dX7_doDelay_92 (by decide) ?_
          refine va_mmax hx hcd (hC.2.2.1.trans hl.1.symm) hC.2.2.2.1 (hC.2.2.2.2.1 _ ml_X7_173) (hC.2.2.2.2.1 _ mt_J9_max_7cf53) (hC.2.2.2.2.1 _ ii_J9) (hC.2.2.2.2.1 _ mc_J9_max_7cf53) (Nat.le_of_ble_eq_true rfl) (Nat.le_of_ble_eq_true rfl) (Nat.zero_le _) (Nat.zero_le _) dX7_doDelay_100 ?_
          refine va_mmax hx hcd (hC.2.2.1.trans hl.1.symm) hC.2.2.2.1 (hC.2.2.2.2.1 _ ml_X7_173) (hC.2.2.2.2.1 _ mt_J9_max_7cf53) (hC.2.2.2.2.1 _ ii_J9) (hC.2.2.2.2.1 _ mc_J9_max_7cf53) (Nat.le_of_ble_eq_true rfl) (Nat.le_of_ble_eq_true rfl) (Nat.zero_le _) (Nat.zero_le _) dX7_doDelay_103 ?_
          obtain ⟨v20, ev20, ho⟩ := lt_ex ho
          rw [← ev20]
          refine lv_istore (lv' := [(6, .int v20), (5, .int v12), (4, .int ((σ 133 (r8 + (1 : Int32)).toNatClampNeg) + x2)), (3, .int r8), (0, .ref (ad 132)), (1, .int x1), (2, .int x2)]) hx hcd dX7_doDelay_106 hl (by decide) rfl (fun ls hl => ?_)
          refine lv_iload hx hcd dX7_doDelay_108 (lv_at hl 0 rfl) ?_
          refine lv_sipush (v := 1440) hx hcd dX7_doDelay_110 (by decide) ?_
          refine lv_icmp_le (tgt := 118) hx hcd dX7_doDelay_113 (by decide) (fun c21 => ?_) (fun c21 => ?_)
          · have ho := gif_p ho c21
            refine lv_aload_n hx hcd dX7_doDelay_118 rfl (lv_at hl 4 rfl) ?_
            refine g_getr hC hW (C := RX7) (T := TX7) (N := 19) (ci := 9) (k := 0) (index := 9) (i := 132) (r := 133) inGX7 rfl (by decide) fl_X7_9 (by decide) rfl rfl dX7_doDelay_119 ?_
            refine lv_iload_n hx hcd dX7_doDelay_122 rfl (lv_at hl 3 rfl) ?_
            refine lv_iconst (v := 1) hx hcd dX7_doDelay_123 (by decide) ?_
            refine lv_iadd hx hcd dX7_doDelay_124 ?_
            refine lv_iload hx hcd dX7_doDelay_125 (lv_at hl 2 rfl) ?_
            obtain ⟨σ22, eσ22, ho⟩ := lt_ex ho
            refine g_iast hC hW (i := 133) (by decide) rfl i9 dX7_doDelay_127 (fun H locs hW => ?_)
            rw [← eσ22] at hW
            refine lv_aload_n hx hcd dX7_doDelay_128 rfl (lv_at hl 4 rfl) ?_
            refine g_getr hC hW (C := RX7) (T := TX7) (N := 19) (ci := 9) (k := 0) (index := 9) (i := 132) (r := 133) inGX7 rfl (by decide) fl_X7_9 (by decide) rfl rfl dX7_doDelay_129 ?_
            refine lv_iload_n hx hcd dX7_doDelay_132 rfl (lv_at hl 3 rfl) ?_
            refine lv_iconst (v := 2) hx hcd dX7_doDelay_133 (by decide) ?_
            refine lv_iadd hx hcd dX7_doDelay_134 ?_
            refine lv_iload hx hcd dX7_doDelay_135 (lv_at hl 0 rfl) ?_
            obtain ⟨σ23, eσ23, ho⟩ := lt_ex ho
            refine g_iast hC hW (i := 133) (by decide) rfl i13 dX7_doDelay_137 (fun H locs hW => ?_)
            rw [← eσ23] at hW
            refine lv_aload_n hx hcd dX7_doDelay_138 rfl (lv_at hl 4 rfl) ?_
            refine g_getr hC hW (C := RX7) (T := TX7) (N := 19) (ci := 9) (k := 0) (index := 9) (i := 132) (r := 133) inGX7 rfl (by decide) fl_X7_9 (by decide) rfl rfl dX7_doDelay_139 ?_
            refine lv_iload_n hx hcd dX7_doDelay_142 rfl (lv_at hl 3 rfl) ?_
            refine lv_iconst (v := 4) hx hcd dX7_doDelay_143 (by decide) ?_
            refine lv_iadd hx hcd dX7_doDelay_144 ?_
            refine lv_iload hx hcd dX7_doDelay_145 (lv_at hl 1 rfl) ?_
            obtain ⟨σ24, eσ24, ho⟩ := lt_ex ho
            refine g_iast hC hW (i := 133) (by decide) rfl i10 dX7_doDelay_147 (fun H locs hW => ?_)
            rw [← eσ24] at hW
            refine lv_iconst (v := 0) hx hcd dX7_doDelay_148 (by decide) ?_
            obtain rfl := Option.some.inj ho
            exact g_iret hC hr hlk hsz hW dX7_doDelay_149
          · have ho := gif_n ho c21
            refine lv_iconst (v := 3) hx hcd dX7_doDelay_116 (by decide) ?_
            obtain rfl := Option.some.inj ho
            exact g_iret hC hr hlk hsz hW dX7_doDelay_117
      · have ho := gif_n ho c11
        refine lv_iconst (v := (-1)) hx hcd dX7_doDelay_51 (by decide) ?_
        refine lv_goto (tgt := 71) hx hcd dX7_doDelay_52 (by decide) ?_
        refine lv_istore (lv' := [(5, .int (-1)), (4, .int ((σ 133 (r8 + (1 : Int32)).toNatClampNeg) + x2)), (3, .int r8), (0, .ref (ad 132)), (1, .int x1), (2, .int x2)]) hx hcd dX7_doDelay_71 hl (by decide) rfl (fun ls hl => ?_)
        refine lv_aload_n hx hcd dX7_doDelay_73 rfl (lv_at hl 3 rfl) ?_
        refine g_getr hC hW (C := RX7) (T := TX7) (N := 19) (ci := 9) (k := 0) (index := 9) (i := 132) (r := 133) inGX7 rfl (by decide) fl_X7_9 (by decide) rfl rfl dX7_doDelay_74 ?_
        refine lv_iload_n hx hcd dX7_doDelay_77 rfl (lv_at hl 2 rfl) ?_
        refine lv_iconst (v := 2) hx hcd dX7_doDelay_78 (by decide) ?_
        refine lv_iadd hx hcd dX7_doDelay_79 ?_
        obtain ⟨i25, ho⟩ := gd_some ho
        refine g_iald hC hW (i := 133) (by decide) rfl i25 dX7_doDelay_80 ?_
        refine lv_iload hx hcd dX7_doDelay_81 (lv_at hl 1 rfl) ?_
        refine lv_bipush (v := 30) hx hcd dX7_doDelay_83 (by decide) ?_
        refine lv_iadd hx hcd dX7_doDelay_85 ?_
        refine lv_iload hx hcd dX7_doDelay_86 (lv_at hl 0 rfl) ?_
        refine lv_if_ge (tgt := 95) hx hcd dX7_doDelay_88 (by decide) (fun hq => absurd hq (by decide)) (fun _ => ?_)
        refine lv_iconst (v := 0) hx hcd dX7_doDelay_91 (by decide) ?_
        refine lv_goto (tgt := 100) hx hcd dX7_doDelay_92 (by decide) ?_
        refine va_mmax hx hcd (hC.2.2.1.trans hl.1.symm) hC.2.2.2.1 (hC.2.2.2.2.1 _ ml_X7_173) (hC.2.2.2.2.1 _ mt_J9_max_7cf53) (hC.2.2.2.2.1 _ ii_J9) (hC.2.2.2.2.1 _ mc_J9_max_7cf53) (Nat.le_of_ble_eq_true rfl) (Nat.le_of_ble_eq_true rfl) (Nat.zero_le _) (Nat.zero_le _) dX7_doDelay_100 ?_
        refine va_mmax hx hcd (hC.2.2.1.trans hl.1.symm) hC.2.2.2.1 (hC.2.2.2.2.1 _ ml_X7_173) (hC.2.2.2.2.1 _ mt_J9_max_7cf53) (hC.2.2.2.2.1 _ ii_J9) (hC.2.2.2.2.1 _ mc_J9_max_7cf53) (Nat.le_of_ble_eq_true rfl) (Nat.le_of_ble_eq_true rfl) (Nat.zero_le _) (Nat.zero_le _) dX7_doDelay_103 ?_
        obtain ⟨v26, ev26, ho⟩ := lt_ex ho
        rw [← ev26]
        refine lv_istore (lv' := [(6, .int v26), (5, .int (-1)), (4, .int ((σ 133 (r8 + (1 : Int32)).toNatClampNeg) + x2)), (3, .int r8), (0, .ref (ad 132)), (1, .int x1), (2, .int x2)]) hx hcd dX7_doDelay_106 hl (by decide) rfl (fun ls hl => ?_)
        refine lv_iload hx hcd dX7_doDelay_108 (lv_at hl 0 rfl) ?_
        refine lv_sipush (v := 1440) hx hcd dX7_doDelay_110 (by decide) ?_
        refine lv_icmp_le (tgt := 118) hx hcd dX7_doDelay_113 (by decide) (fun c27 => ?_) (fun c27 => ?_)
        · have ho := gif_p ho c27
          refine lv_aload_n hx hcd dX7_doDelay_118 rfl (lv_at hl 4 rfl) ?_
          refine g_getr hC hW (C := RX7) (T := TX7) (N := 19) (ci := 9) (k := 0) (index := 9) (i := 132) (r := 133) inGX7 rfl (by decide) fl_X7_9 (by decide) rfl rfl dX7_doDelay_119 ?_
          refine lv_iload_n hx hcd dX7_doDelay_122 rfl (lv_at hl 3 rfl) ?_
          refine lv_iconst (v := 1) hx hcd dX7_doDelay_123 (by decide) ?_
          refine lv_iadd hx hcd dX7_doDelay_124 ?_
          refine lv_iload hx hcd dX7_doDelay_125 (lv_at hl 2 rfl) ?_
          obtain ⟨σ28, eσ28, ho⟩ := lt_ex ho
          refine g_iast hC hW (i := 133) (by decide) rfl i9 dX7_doDelay_127 (fun H locs hW => ?_)
          rw [← eσ28] at hW
          refine lv_aload_n hx hcd dX7_doDelay_128 rfl (lv_at hl 4 rfl) ?_
          refine g_getr hC hW (C := RX7) (T := TX7) (N := 19) (ci := 9) (k := 0) (index := 9) (i := 132) (r := 133) inGX7 rfl (by decide) fl_X7_9 (by decide) rfl rfl dX7_doDelay_129 ?_
          refine lv_iload_n hx hcd dX7_doDelay_132 rfl (lv_at hl 3 rfl) ?_
          refine lv_iconst (v := 2) hx hcd dX7_doDelay_133 (by decide) ?_
          refine lv_iadd hx hcd dX7_doDelay_134 ?_
          refine lv_iload hx hcd dX7_doDelay_135 (lv_at hl 0 rfl) ?_
          obtain ⟨σ29, eσ29, ho⟩ := lt_ex ho
          refine g_iast hC hW (i := 133) (by decide) rfl i25 dX7_doDelay_137 (fun H locs hW => ?_)
          rw [← eσ29] at hW
          refine lv_aload_n hx hcd dX7_doDelay_138 rfl (lv_at hl 4 rfl) ?_
          refine g_getr hC hW (C := RX7) (T := TX7) (N := 19) (ci := 9) (k := 0) (index := 9) (i := 132) (r := 133) inGX7 rfl (by decide) fl_X7_9 (by decide) rfl rfl dX7_doDelay_139 ?_
          refine lv_iload_n hx hcd dX7_doDelay_142 rfl (lv_at hl 3 rfl) ?_
          refine lv_iconst (v := 4) hx hcd dX7_doDelay_143 (by decide) ?_
          refine lv_iadd hx hcd dX7_doDelay_144 ?_
          refine lv_iload hx hcd dX7_doDelay_145 (lv_at hl 1 rfl) ?_
          obtain ⟨σ30, eσ30, ho⟩ := lt_ex ho
          refine g_iast hC hW (i := 133) (by decide) rfl i10 dX7_doDelay_147 (fun H locs hW => ?_)
          rw [← eσ30] at hW
          refine lv_iconst (v := 0) hx hcd dX7_doDelay_148 (by decide) ?_
          obtain rfl := Option.some.inj ho
          exact g_iret hC hr hlk hsz hW dX7_doDelay_149
        · have ho := gif_n ho c27
          refine lv_iconst (v := 3) hx hcd dX7_doDelay_116 (by decide) ?_
          obtain rfl := Option.some.inj ho
          exact g_iret hC hr hlk hsz hW dX7_doDelay_117
    · have ho := gif_p ho c6
      refine lv_iconst (v := 2) hx hcd dX7_doDelay_21 (by decide) ?_
      obtain rfl := Option.some.inj ho
      exact g_iret hC hr hlk hsz hW dX7_doDelay_22
  · have ho := gif_p ho c3
    refine lv_iconst (v := 1) hx hcd dX7_doDelay_8 (by decide) ?_
    obtain rfl := Option.some.inj ho
    exact g_iret hC hr hlk hsz hW dX7_doDelay_9
noncomputable def X7_delay (σ : gS) (x1 : Int32) (x2 : Int32) : Option (Int32 × gS) :=
  (X7_isTurn σ x1).bind fun r2 => if r2 = 0 then ((X7_keepState σ).bind fun σ5 => (X7_doDelay σ5 x1 x2).bind fun q7 => lt_ (g_up q7.2 132 8 q7.1) fun σ8 => if (σ8 132 8) ≤ 0 then ((X7_change σ8).bind fun σ11 => (X7_at σ11 x1).bind fun r13 => gd (ib (r13 + (2 : Int32)) 162) <| some (((σ11 133 (r13 + (2 : Int32)).toNatClampNeg) - (0 : Int32)), σ11)) else (some (0, σ8))) else ((X7_at σ x1).bind fun r16 => gd (ib (r16 + (2 : Int32)) 162) <| (X7_keepState σ).bind fun σ19 => (X7_doDelay σ19 x1 x2).bind fun q21 => lt_ (g_up q21.2 132 8 q21.1) fun σ22 => if (σ22 132 8) ≤ 0 then ((X7_change σ22).bind fun σ25 => (X7_at σ25 x1).bind fun r27 => gd (ib (r27 + (2 : Int32)) 162) <| some (((σ25 133 (r27 + (2 : Int32)).toNatClampNeg) - (σ 133 (r16 + (2 : Int32)).toNatClampNeg)), σ25)) else (some (0, σ22)))
set_option maxHeartbeats 4000000 in
set_option maxRecDepth 100000 in
theorem c_X7_delay (l : Launch) (D : va_G) (y : ClassId × ClassId × ClassId) (ad : Nat → Nat) (x1 : Int32) (x2 : Int32) (σ : gS) (sz : Nat) {q : Int32 × gS} (h : X7_delay σ x1 x2 = some q) : Met l yX7_delay (Cond.code yX7_delay cX7_delay 4 (some .int) :: gl) ({ frames := 3, cells := 0, slots := 0, locals := 69 }) (g_Pc D y ad σ sz [.ref (ad 132), .int x1, .int x2]) (g_Qi D y ad q.2 sz q.1) 0 0 (g_A ad sz) := by
  have ho := h
  unfold X7_delay at ho
  refine g_start (by decide) (Nat.le_of_ble_eq_true rfl) (fun p e s m below meth c ls hC hr hlk hsz hW hl => ?_)
  have hx := hC.1
  have hcd := hC.2.1
  have hl : lv_has ls 4 [(0, .ref (ad 132)), (1, .int x1), (2, .int x2)] := hl
  refine lv_aload_n hx hcd dX7_delay_0 rfl (lv_at hl 0 rfl) ?_
  refine lv_iload_n hx hcd dX7_delay_1 rfl (lv_at hl 1 rfl) ?_
  obtain ⟨r2, h1, ho⟩ := gb_some ho
  refine g_calli hW (g_runV (As := [.int x1]) (rest := []) (i := 132) hC hW (c_X7_isTurn l D y ad x1 _ _ h1) ok_X7_85 ⟨rfl, rfl, Nat.le_of_ble_eq_true rfl, Nat.le_of_ble_eq_true rfl⟩ (by decide) rfl rfl rfl rfl hl.1 rfl (Nat.le_of_ble_eq_true rfl) dX7_delay_2 ⟨Nat.zero_le _, Nat.zero_le _⟩) (fun H locs hW => ?_)
  refine lv_if_eq (tgt := 22) hx hcd dX7_delay_5 (by decide) (fun c3 => ?_) (fun c3 => ?_)
  · have ho := gif_p ho c3
    refine lv_iconst (v := 0) hx hcd dX7_delay_22 (by decide) ?_
    refine lv_istore_n (lv' := [(3, .int 0), (0, .ref (ad 132)), (1, .int x1), (2, .int x2)]) hx hcd dX7_delay_23 rfl hl (by decide) rfl (fun ls hl => ?_)
    refine lv_aload_n hx hcd dX7_delay_24 rfl (lv_at hl 1 rfl) ?_
    obtain ⟨σ5, h4, ho⟩ := gb_some ho
    refine g_callv hW (g_runV (As := []) (rest := []) (i := 132) hC hW (c_X7_keepState l D y ad _ _ h4) ok_X7_64 ⟨rfl, rfl, Nat.le_of_ble_eq_true rfl, Nat.le_of_ble_eq_true rfl⟩ (by decide) rfl rfl rfl rfl hl.1 rfl (Nat.le_of_ble_eq_true rfl) dX7_delay_25 ⟨Nat.zero_le _, Nat.zero_le _⟩) (fun H locs hW => ?_)
    refine lv_aload_n hx hcd dX7_delay_28 rfl (lv_at hl 1 rfl) ?_
    refine lv_aload_n hx hcd dX7_delay_29 rfl (lv_at hl 1 rfl) ?_
    refine lv_iload_n hx hcd dX7_delay_30 rfl (lv_at hl 2 rfl) ?_
    refine lv_iload_n hx hcd dX7_delay_31 rfl (lv_at hl 3 rfl) ?_
    obtain ⟨q7, h6, ho⟩ := gb_some ho
    refine g_calli hW (g_runV (As := [.int x1, .int x2]) (rest := [.ref (ad 132)]) (i := 132) hC hW (c_X7_doDelay l D y ad x1 x2 _ _ h6) ok_X7_176 ⟨rfl, rfl, Nat.le_of_ble_eq_true rfl, Nat.le_of_ble_eq_true rfl⟩ (by decide) rfl rfl rfl rfl hl.1 rfl (Nat.le_of_ble_eq_true rfl) dX7_delay_32 ⟨Nat.zero_le _, Nat.zero_le _⟩) (fun H locs hW => ?_)
    obtain ⟨σ8, eσ8, ho⟩ := lt_ex ho
    refine g_puti hC hW (C := RX7) (T := TX7) (N := 19) (ci := 9) (k := 8) (index := 48) (i := 132) inGX7 tyX7 tyX7_ok nmX7 rfl (by decide) fl_X7_48 rfl (by decide) rfl rfl rfl rfl dX7_delay_35 (fun H locs hW => ?_)
    rw [← eσ8] at hW
    refine lv_aload_n hx hcd dX7_delay_38 rfl (lv_at hl 1 rfl) ?_
    refine g_geti hC hW (C := RX7) (T := TX7) (N := 19) (ci := 9) (k := 8) (index := 48) (i := 132) inGX7 rfl (by decide) fl_X7_48 (by decide) rfl rfl dX7_delay_39 ?_
    refine lv_if_le (tgt := 47) hx hcd dX7_delay_42 (by decide) (fun c9 => ?_) (fun c9 => ?_)
    · have ho := gif_p ho c9
      refine lv_aload_n hx hcd dX7_delay_47 rfl (lv_at hl 1 rfl) ?_
      obtain ⟨σ11, h10, ho⟩ := gb_some ho
      refine g_callv hW (g_runV (As := []) (rest := []) (i := 132) hC hW (c_X7_change l D y ad _ _ h10) ok_X7_67 ⟨rfl, rfl, Nat.le_of_ble_eq_true rfl, Nat.le_of_ble_eq_true rfl⟩ (by decide) rfl rfl rfl rfl hl.1 rfl (Nat.le_of_ble_eq_true rfl) dX7_delay_48 ⟨Nat.zero_le _, Nat.zero_le _⟩) (fun H locs hW => ?_)
      refine lv_aload_n hx hcd dX7_delay_51 rfl (lv_at hl 1 rfl) ?_
      refine g_getr hC hW (C := RX7) (T := TX7) (N := 19) (ci := 9) (k := 0) (index := 9) (i := 132) (r := 133) inGX7 rfl (by decide) fl_X7_9 (by decide) rfl rfl dX7_delay_52 ?_
      refine lv_iload_n hx hcd dX7_delay_55 rfl (lv_at hl 2 rfl) ?_
      obtain ⟨r13, h12, ho⟩ := gb_some ho
      refine g_calli hW (g_runS (As := [.int x1]) (rest := [.ref (ad 133)]) hC hW (c_X7_at l D y ad x1 _ _ h12) ok_X7_81 ⟨rfl, rfl, Nat.le_of_ble_eq_true rfl, Nat.le_of_ble_eq_true rfl⟩ rfl hl.1 rfl (Nat.le_of_ble_eq_true rfl) dX7_delay_56 ⟨Nat.zero_le _, Nat.zero_le _⟩) (fun H locs hW => ?_)
      refine lv_iconst (v := 2) hx hcd dX7_delay_59 (by decide) ?_
      refine lv_iadd hx hcd dX7_delay_60 ?_
      obtain ⟨i14, ho⟩ := gd_some ho
      refine g_iald hC hW (i := 133) (by decide) rfl i14 dX7_delay_61 ?_
      refine lv_iload_n hx hcd dX7_delay_62 rfl (lv_at hl 0 rfl) ?_
      refine lv_isub hx hcd dX7_delay_63 ?_
      obtain rfl := Option.some.inj ho
      exact g_iret hC hr hlk hsz hW dX7_delay_64
    · have ho := gif_n ho c9
      refine lv_iconst (v := 0) hx hcd dX7_delay_45 (by decide) ?_
      obtain rfl := Option.some.inj ho
      exact g_iret hC hr hlk hsz hW dX7_delay_46
  · have ho := gif_n ho c3
    refine lv_aload_n hx hcd dX7_delay_8 rfl (lv_at hl 0 rfl) ?_
    refine g_getr hC hW (C := RX7) (T := TX7) (N := 19) (ci := 9) (k := 0) (index := 9) (i := 132) (r := 133) inGX7 rfl (by decide) fl_X7_9 (by decide) rfl rfl dX7_delay_9 ?_
    refine lv_iload_n hx hcd dX7_delay_12 rfl (lv_at hl 1 rfl) ?_
    obtain ⟨r16, h15, ho⟩ := gb_some ho
    refine g_calli hW (g_runS (As := [.int x1]) (rest := [.ref (ad 133)]) hC hW (c_X7_at l D y ad x1 _ _ h15) ok_X7_81 ⟨rfl, rfl, Nat.le_of_ble_eq_true rfl, Nat.le_of_ble_eq_true rfl⟩ rfl hl.1 rfl (Nat.le_of_ble_eq_true rfl) dX7_delay_13 ⟨Nat.zero_le _, Nat.zero_le _⟩) (fun H locs hW => ?_)
    refine lv_iconst (v := 2) hx hcd dX7_delay_16 (by decide) ?_
    refine lv_iadd hx hcd dX7_delay_17 ?_
    obtain ⟨i17, ho⟩ := gd_some ho
    refine g_iald hC hW (i := 133) (by decide) rfl i17 dX7_delay_18 ?_
    refine lv_goto (tgt := 23) hx hcd dX7_delay_19 (by decide) ?_
    refine lv_istore_n (lv' := [(3, .int (σ 133 (r16 + (2 : Int32)).toNatClampNeg)), (0, .ref (ad 132)), (1, .int x1), (2, .int x2)]) hx hcd dX7_delay_23 rfl hl (by decide) rfl (fun ls hl => ?_)
    refine lv_aload_n hx hcd dX7_delay_24 rfl (lv_at hl 1 rfl) ?_
    obtain ⟨σ19, h18, ho⟩ := gb_some ho
    refine g_callv hW (g_runV (As := []) (rest := []) (i := 132) hC hW (c_X7_keepState l D y ad _ _ h18) ok_X7_64 ⟨rfl, rfl, Nat.le_of_ble_eq_true rfl, Nat.le_of_ble_eq_true rfl⟩ (by decide) rfl rfl rfl rfl hl.1 rfl (Nat.le_of_ble_eq_true rfl) dX7_delay_25 ⟨Nat.zero_le _, Nat.zero_le _⟩) (fun H locs hW => ?_)
    refine lv_aload_n hx hcd dX7_delay_28 rfl (lv_at hl 1 rfl) ?_
    refine lv_aload_n hx hcd dX7_delay_29 rfl (lv_at hl 1 rfl) ?_
    refine lv_iload_n hx hcd dX7_delay_30 rfl (lv_at hl 2 rfl) ?_
    refine lv_iload_n hx hcd dX7_delay_31 rfl (lv_at hl 3 rfl) ?_
    obtain ⟨q21, h20, ho⟩ := gb_some ho
    refine g_calli hW (g_runV (As := [.int x1, .int x2]) (rest := [.ref (ad 132)]) (i := 132) hC hW (c_X7_doDelay l D y ad x1 x2 _ _ h20) ok_X7_176 ⟨rfl, rfl, Nat.le_of_ble_eq_true rfl, Nat.le_of_ble_eq_true rfl⟩ (by decide) rfl rfl rfl rfl hl.1 rfl (Nat.le_of_ble_eq_true rfl) dX7_delay_32 ⟨Nat.zero_le _, Nat.zero_le _⟩) (fun H locs hW => ?_)
    obtain ⟨σ22, eσ22, ho⟩ := lt_ex ho
    refine g_puti hC hW (C := RX7) (T := TX7) (N := 19) (ci := 9) (k := 8) (index := 48) (i := 132) inGX7 tyX7 tyX7_ok nmX7 rfl (by decide) fl_X7_48 rfl (by decide) rfl rfl rfl rfl dX7_delay_35 (fun H locs hW => ?_)
    rw [← eσ22] at hW
    refine lv_aload_n hx hcd dX7_delay_38 rfl (lv_at hl 1 rfl) ?_
    refine g_geti hC hW (C := RX7) (T := TX7) (N := 19) (ci := 9) (k := 8) (index := 48) (i := 132) inGX7 rfl (by decide) fl_X7_48 (by decide) rfl rfl dX7_delay_39 ?_
    refine lv_if_le (tgt := 47) hx hcd dX7_delay_42 (by decide) (fun c23 => ?_) (fun c23 => ?_)
    · have ho := gif_p ho c23
      refine lv_aload_n hx hcd dX7_delay_47 rfl (lv_at hl 1 rfl) ?_
      obtain ⟨σ25, h24, ho⟩ := gb_some ho
      refine g_callv hW (g_runV (As := []) (rest := []) (i := 132) hC hW (c_X7_change l D y ad _ _ h24) ok_X7_67 ⟨rfl, rfl, Nat.le_of_ble_eq_true rfl, Nat.le_of_ble_eq_true rfl⟩ (by decide) rfl rfl rfl rfl hl.1 rfl (Nat.le_of_ble_eq_true rfl) dX7_delay_48 ⟨Nat.zero_le _, Nat.zero_le _⟩) (fun H locs hW => ?_)
      refine lv_aload_n hx hcd dX7_delay_51 rfl (lv_at hl 1 rfl) ?_
      refine g_getr hC hW (C := RX7) (T := TX7) (N := 19) (ci := 9) (k := 0) (index := 9) (i := 132) (r := 133) inGX7 rfl (by decide) fl_X7_9 (by decide) rfl rfl dX7_delay_52 ?_
      refine lv_iload_n hx hcd dX7_delay_55 rfl (lv_at hl 2 rfl) ?_
      obtain ⟨r27, h26, ho⟩ := gb_some ho
      refine g_calli hW (g_runS (As := [.int x1]) (rest := [.ref (ad 133)]) hC hW (c_X7_at l D y ad x1 _ _ h26) ok_X7_81 ⟨rfl, rfl, Nat.le_of_ble_eq_true rfl, Nat.le_of_ble_eq_true rfl⟩ rfl hl.1 rfl (Nat.le_of_ble_eq_true rfl) dX7_delay_56 ⟨Nat.zero_le _, Nat.zero_le _⟩) (fun H locs hW => ?_)
      refine lv_iconst (v := 2) hx hcd dX7_delay_59 (by decide) ?_
      refine lv_iadd hx hcd dX7_delay_60 ?_
      obtain ⟨i28, ho⟩ := gd_some ho
      refine g_iald hC hW (i := 133) (by decide) rfl i28 dX7_delay_61 ?_
      refine lv_iload_n hx hcd dX7_delay_62 rfl (lv_at hl 0 rfl) ?_
      refine lv_isub hx hcd dX7_delay_63 ?_
      obtain rfl := Option.some.inj ho
      exact g_iret hC hr hlk hsz hW dX7_delay_64
    · have ho := gif_n ho c23
      refine lv_iconst (v := 0) hx hcd dX7_delay_45 (by decide) ?_
      obtain rfl := Option.some.inj ho
      exact g_iret hC hr hlk hsz hW dX7_delay_46
noncomputable def X7_isAhead (σ : gS) (x1 : Int32) (x2 : Int32) : Option (Int32) :=
  (X7_from σ x1).bind fun r2 => (X7_from σ x2).bind fun r4 => if r2 = r4 then ((X7_weight σ x1).bind fun r7 => (X7_weight σ x2).bind fun r9 => if r7 = r9 then (if x2 ≤ x1 then (some 0) else (some 1)) else ((X7_weight σ x1).bind fun r13 => (X7_weight σ x2).bind fun r15 => if r13 ≤ r15 then (some 0) else (some 1))) else ((X7_from σ x1).bind fun r18 => (X7_from σ x2).bind fun r20 => if r20 ≤ r18 then (some 0) else (some 1))
set_option maxHeartbeats 4000000 in
set_option maxRecDepth 100000 in
theorem c_X7_isAhead (l : Launch) (D : va_G) (y : ClassId × ClassId × ClassId) (ad : Nat → Nat) (x1 : Int32) (x2 : Int32) (σ : gS) (sz : Nat) {q : Int32} (h : X7_isAhead σ x1 x2 = some q) : Met l yX7_isAhead (Cond.code yX7_isAhead cX7_isAhead 3 (some .boolean) :: gl) ({ frames := 2, cells := 0, slots := 0, locals := 42 }) (g_Pc D y ad σ sz [.ref (ad 132), .int x1, .int x2]) (g_Qi D y ad σ sz q) 0 0 (g_A ad sz) := by
  have ho := h
  unfold X7_isAhead at ho
  refine g_start (by decide) (Nat.le_of_ble_eq_true rfl) (fun p e s m below meth c ls hC hr hlk hsz hW hl => ?_)
  have hx := hC.1
  have hcd := hC.2.1
  have hl : lv_has ls 3 [(0, .ref (ad 132)), (1, .int x1), (2, .int x2)] := hl
  refine lv_aload_n hx hcd dX7_isAhead_0 rfl (lv_at hl 0 rfl) ?_
  refine lv_iload_n hx hcd dX7_isAhead_1 rfl (lv_at hl 1 rfl) ?_
  obtain ⟨r2, h1, ho⟩ := gb_some ho
  refine g_calli hW (g_runV (As := [.int x1]) (rest := []) (i := 132) hC hW (c_X7_from l D y ad x1 _ _ h1) ok_X7_103 ⟨rfl, rfl, Nat.le_of_ble_eq_true rfl, Nat.le_of_ble_eq_true rfl⟩ (by decide) rfl rfl rfl rfl hl.1 rfl (Nat.le_of_ble_eq_true rfl) dX7_isAhead_2 ⟨Nat.zero_le _, Nat.zero_le _⟩) (fun H locs hW => ?_)
  refine lv_aload_n hx hcd dX7_isAhead_5 rfl (lv_at hl 0 rfl) ?_
  refine lv_iload_n hx hcd dX7_isAhead_6 rfl (lv_at hl 2 rfl) ?_
  obtain ⟨r4, h3, ho⟩ := gb_some ho
  refine g_calli hW (g_runV (As := [.int x2]) (rest := [.int r2]) (i := 132) hC hW (c_X7_from l D y ad x2 _ _ h3) ok_X7_103 ⟨rfl, rfl, Nat.le_of_ble_eq_true rfl, Nat.le_of_ble_eq_true rfl⟩ (by decide) rfl rfl rfl rfl hl.1 rfl (Nat.le_of_ble_eq_true rfl) dX7_isAhead_7 ⟨Nat.zero_le _, Nat.zero_le _⟩) (fun H locs hW => ?_)
  refine lv_icmp_eq (tgt := 32) hx hcd dX7_isAhead_10 (by decide) (fun c5 => ?_) (fun c5 => ?_)
  · have ho := gif_p ho c5
    refine lv_aload_n hx hcd dX7_isAhead_32 rfl (lv_at hl 0 rfl) ?_
    refine lv_iload_n hx hcd dX7_isAhead_33 rfl (lv_at hl 1 rfl) ?_
    obtain ⟨r7, h6, ho⟩ := gb_some ho
    refine g_calli hW (g_runV (As := [.int x1]) (rest := []) (i := 132) hC hW (c_X7_weight l D y ad x1 _ _ h6) ok_X7_113 ⟨rfl, rfl, Nat.le_of_ble_eq_true rfl, Nat.le_of_ble_eq_true rfl⟩ (by decide) rfl rfl rfl rfl hl.1 rfl (Nat.le_of_ble_eq_true rfl) dX7_isAhead_34 ⟨Nat.zero_le _, Nat.zero_le _⟩) (fun H locs hW => ?_)
    refine lv_aload_n hx hcd dX7_isAhead_37 rfl (lv_at hl 0 rfl) ?_
    refine lv_iload_n hx hcd dX7_isAhead_38 rfl (lv_at hl 2 rfl) ?_
    obtain ⟨r9, h8, ho⟩ := gb_some ho
    refine g_calli hW (g_runV (As := [.int x2]) (rest := [.int r7]) (i := 132) hC hW (c_X7_weight l D y ad x2 _ _ h8) ok_X7_113 ⟨rfl, rfl, Nat.le_of_ble_eq_true rfl, Nat.le_of_ble_eq_true rfl⟩ (by decide) rfl rfl rfl rfl hl.1 rfl (Nat.le_of_ble_eq_true rfl) dX7_isAhead_39 ⟨Nat.zero_le _, Nat.zero_le _⟩) (fun H locs hW => ?_)
    refine lv_icmp_eq (tgt := 66) hx hcd dX7_isAhead_42 (by decide) (fun c10 => ?_) (fun c10 => ?_)
    · have ho := gif_p ho c10
      refine lv_iload_n hx hcd dX7_isAhead_66 rfl (lv_at hl 1 rfl) ?_
      refine lv_iload_n hx hcd dX7_isAhead_67 rfl (lv_at hl 2 rfl) ?_
      refine lv_icmp_ge (tgt := 75) hx hcd dX7_isAhead_68 (by decide) (fun c11 => ?_) (fun c11 => ?_)
      · have ho := gif_p ho c11
        refine lv_iconst (v := 0) hx hcd dX7_isAhead_75 (by decide) ?_
        obtain rfl := Option.some.inj ho
        exact g_zret (r := 0) hC hr hlk hsz hW (by decide) dX7_isAhead_76
      · have ho := gif_n ho c11
        refine lv_iconst (v := 1) hx hcd dX7_isAhead_71 (by decide) ?_
        refine lv_goto (tgt := 76) hx hcd dX7_isAhead_72 (by decide) ?_
        obtain rfl := Option.some.inj ho
        exact g_zret (r := 1) hC hr hlk hsz hW (by decide) dX7_isAhead_76
    · have ho := gif_n ho c10
      refine lv_aload_n hx hcd dX7_isAhead_45 rfl (lv_at hl 0 rfl) ?_
      refine lv_iload_n hx hcd dX7_isAhead_46 rfl (lv_at hl 1 rfl) ?_
      obtain ⟨r13, h12, ho⟩ := gb_some ho
      refine g_calli hW (g_runV (As := [.int x1]) (rest := []) (i := 132) hC hW (c_X7_weight l D y ad x1 _ _ h12) ok_X7_113 ⟨rfl, rfl, Nat.le_of_ble_eq_true rfl, Nat.le_of_ble_eq_true rfl⟩ (by decide) rfl rfl rfl rfl hl.1 rfl (Nat.le_of_ble_eq_true rfl) dX7_isAhead_47 ⟨Nat.zero_le _, Nat.zero_le _⟩) (fun H locs hW => ?_)
      refine lv_aload_n hx hcd dX7_isAhead_50 rfl (lv_at hl 0 rfl) ?_
      refine lv_iload_n hx hcd dX7_isAhead_51 rfl (lv_at hl 2 rfl) ?_
      obtain ⟨r15, h14, ho⟩ := gb_some ho
      refine g_calli hW (g_runV (As := [.int x2]) (rest := [.int r13]) (i := 132) hC hW (c_X7_weight l D y ad x2 _ _ h14) ok_X7_113 ⟨rfl, rfl, Nat.le_of_ble_eq_true rfl, Nat.le_of_ble_eq_true rfl⟩ (by decide) rfl rfl rfl rfl hl.1 rfl (Nat.le_of_ble_eq_true rfl) dX7_isAhead_52 ⟨Nat.zero_le _, Nat.zero_le _⟩) (fun H locs hW => ?_)
      refine lv_icmp_le (tgt := 62) hx hcd dX7_isAhead_55 (by decide) (fun c16 => ?_) (fun c16 => ?_)
      · have ho := gif_p ho c16
        refine lv_iconst (v := 0) hx hcd dX7_isAhead_62 (by decide) ?_
        refine lv_goto (tgt := 76) hx hcd dX7_isAhead_63 (by decide) ?_
        obtain rfl := Option.some.inj ho
        exact g_zret (r := 0) hC hr hlk hsz hW (by decide) dX7_isAhead_76
      · have ho := gif_n ho c16
        refine lv_iconst (v := 1) hx hcd dX7_isAhead_58 (by decide) ?_
        refine lv_goto (tgt := 76) hx hcd dX7_isAhead_59 (by decide) ?_
        obtain rfl := Option.some.inj ho
        exact g_zret (r := 1) hC hr hlk hsz hW (by decide) dX7_isAhead_76
  · have ho := gif_n ho c5
    refine lv_aload_n hx hcd dX7_isAhead_13 rfl (lv_at hl 0 rfl) ?_
    refine lv_iload_n hx hcd dX7_isAhead_14 rfl (lv_at hl 1 rfl) ?_
    obtain ⟨r18, h17, ho⟩ := gb_some ho
    refine g_calli hW (g_runV (As := [.int x1]) (rest := []) (i := 132) hC hW (c_X7_from l D y ad x1 _ _ h17) ok_X7_103 ⟨rfl, rfl, Nat.le_of_ble_eq_true rfl, Nat.le_of_ble_eq_true rfl⟩ (by decide) rfl rfl rfl rfl hl.1 rfl (Nat.le_of_ble_eq_true rfl) dX7_isAhead_15 ⟨Nat.zero_le _, Nat.zero_le _⟩) (fun H locs hW => ?_)
    refine lv_aload_n hx hcd dX7_isAhead_18 rfl (lv_at hl 0 rfl) ?_
    refine lv_iload_n hx hcd dX7_isAhead_19 rfl (lv_at hl 2 rfl) ?_
    obtain ⟨r20, h19, ho⟩ := gb_some ho
    refine g_calli hW (g_runV (As := [.int x2]) (rest := [.int r18]) (i := 132) hC hW (c_X7_from l D y ad x2 _ _ h19) ok_X7_103 ⟨rfl, rfl, Nat.le_of_ble_eq_true rfl, Nat.le_of_ble_eq_true rfl⟩ (by decide) rfl rfl rfl rfl hl.1 rfl (Nat.le_of_ble_eq_true rfl) dX7_isAhead_20 ⟨Nat.zero_le _, Nat.zero_le _⟩) (fun H locs hW => ?_)
    refine lv_icmp_ge (tgt := 30) hx hcd dX7_isAhead_23 (by decide) (fun c21 => ?_) (fun c21 => ?_)
    · have ho := gif_p ho c21
      refine lv_iconst (v := 0) hx hcd dX7_isAhead_30 (by decide) ?_
      obtain rfl := Option.some.inj ho
      exact g_zret (r := 0) hC hr hlk hsz hW (by decide) dX7_isAhead_31
    · have ho := gif_n ho c21
      refine lv_iconst (v := 1) hx hcd dX7_isAhead_26 (by decide) ?_
      refine lv_goto (tgt := 31) hx hcd dX7_isAhead_27 (by decide) ?_
      obtain rfl := Option.some.inj ho
      exact g_zret (r := 1) hC hr hlk hsz hW (by decide) dX7_isAhead_31
noncomputable def X7_assign_k0 (σ : gS) (x1 : Int32) (x2 : Int32) : Option ((Nat × Int32 × Int32 × Int32 × Int32 × gS) ⊕ (Int32 × gS)) :=
  if 20 ≤ x2 then (some (.inl (1, x1, 0, 0, 0, σ))) else ((X7_isStay σ x2).bind fun r3 => if r3 = 0 then (some (.inl (0, (x1 ||| (0 : Int32)), (x2 + 1), 0, 0, σ))) else ((X7_isOn σ x2).bind fun r6 => if r6 = 0 then (some (.inl (0, (x1 ||| ((1 : Int32) <<< (x2 &&& 31))), (x2 + 1), 0, 0, σ))) else (some (.inl (0, (x1 ||| (0 : Int32)), (x2 + 1), 0, 0, σ)))))
noncomputable def X7_assign_k1 (σ : gS) (x1 : Int32) (x2 : Int32) : Option ((Nat × Int32 × Int32 × Int32 × Int32 × gS) ⊕ (Int32 × gS)) :=
  if x1 = 0 then (some (.inr (x2, σ))) else (some (.inl (2, x1, x2, (-1), 0, σ)))
noncomputable def X7_assign_k2 (σ : gS) (x1 : Int32) (x2 : Int32) (x3 : Int32) (x4 : Int32) : Option ((Nat × Int32 × Int32 × Int32 × Int32 × gS) ⊕ (Int32 × gS)) :=
  if 20 ≤ x4 then ((X7_cheapestOf σ x3).bind fun q11 => if q11.1 < 0 then (some (.inl (1, (x1 &&& (((1 : Int32) <<< (x3 &&& 31)) ^^^ (-1 : Int32))), x2, 0, 0, q11.2))) else ((X7_put q11.2 x3 q11.1).bind fun σ14 => some (.inl (1, (x1 &&& (((1 : Int32) <<< (x3 &&& 31)) ^^^ (-1 : Int32))), (x2 + 1), 0, 0, σ14)))) else (if ((x1 >>> (x4 &&& 31)) &&& (1 : Int32)) = 1 then (if x3 < 0 then (some (.inl (2, x1, x2, x4, (x4 + 1), σ))) else ((X7_isAhead σ x4 x3).bind fun r18 => if r18 = 0 then (some (.inl (2, x1, x2, x3, (x4 + 1), σ))) else (some (.inl (2, x1, x2, x4, (x4 + 1), σ))))) else (some (.inl (2, x1, x2, x3, (x4 + 1), σ))))
noncomputable def X7_assign_s (a : Nat × Int32 × Int32 × Int32 × Int32 × gS) : Option ((Nat × Int32 × Int32 × Int32 × Int32 × gS) ⊕ (Int32 × gS)) :=
  if a.1 = 0 then X7_assign_k0 a.2.2.2.2.2 a.2.1 a.2.2.1 else if a.1 = 1 then X7_assign_k1 a.2.2.2.2.2 a.2.1 a.2.2.1 else if a.1 = 2 then X7_assign_k2 a.2.2.2.2.2 a.2.1 a.2.2.1 a.2.2.2.1 a.2.2.2.2.1 else none
noncomputable def X7_assign (σ : gS) : Option (Int32 × gS) :=
  gr (X7_assign_s) (0, 0, 0, 0, 0, σ)
set_option maxHeartbeats 4000000 in
set_option maxRecDepth 100000 in
theorem l_X7_assign {p : Program} {e : Env} {s : State} {m : MethodId} {args : Array Value} {below : List Frame} {meth : Method} {c : Code} (l : Launch) (D : va_G) (y : ClassId × ClassId × ClassId) (ad : Nat → Nat) (sz : Nat) (hC : g_C p s m args c cX7_assign 5 RX7 D y) (hr : meth.sig.returnType = (some .int)) (hlk : meth.locks = false) (hsz : s.heap.size = sz) {r0 : Int32 × gS} : ∀ a : Nat × Int32 × Int32 × Int32 × Int32 × gS, gr (X7_assign_s) a = some r0 → ∀ (H : Heap) (locs : List Loc) (ls : Array Slot), g_W (g_A ad sz) s.heap D y ad [] a.2.2.2.2.2 H locs → (a.1 = 0 → lv_has ls 5 [(0, .ref (ad 132)), (1, .int a.2.1), (2, .int a.2.2.1)] → W p l e ({ frames := 9, cells := 0, slots := 0, locals := 203 }) s m args below meth c H locs 0 0 (MQ below (g_Qi D y ad r0.2 sz r0.1) args s 0 0 (g_A ad sz)) (F0 m 4 ls [])) ∧ (a.1 = 1 → lv_has ls 5 [(0, .ref (ad 132)), (1, .int a.2.1), (2, .int a.2.2.1)] → W p l e ({ frames := 9, cells := 0, slots := 0, locals := 203 }) s m args below meth c H locs 0 0 (MQ below (g_Qi D y ad r0.2 sz r0.1) args s 0 0 (g_A ad sz)) (F0 m 44 ls [])) ∧ (a.1 = 2 → lv_has ls 5 [(0, .ref (ad 132)), (1, .int a.2.1), (2, .int a.2.2.1), (3, .int a.2.2.2.1), (4, .int a.2.2.2.2.1)] → W p l e ({ frames := 9, cells := 0, slots := 0, locals := 203 }) s m args below meth c H locs 0 0 (MQ below (g_Qi D y ad r0.2 sz r0.1) args s 0 0 (g_A ad sz)) (F0 m 53 ls [])) := by
  have hx := hC.1
  have hcd := hC.2.1
  refine gr_all (fun a o ho hret hjmp => ?_)
  obtain ⟨lb, y0, y1, y2, y3, σ⟩ := a
  intro H locs ls hW
  refine ⟨?_, ?_, ?_⟩
  · intro hlb hl
    have hlb : lb = 0 := hlb
    subst hlb
    have ho : X7_assign_k0 σ y0 y1 = some o := ho
    unfold X7_assign_k0 at ho
    have hl : lv_has ls 5 [(0, .ref (ad 132)), (1, .int y0), (2, .int y1)] := hl
    have hW : g_W (g_A ad sz) s.heap D y ad [] σ H locs := hW
    refine lv_iload_n hx hcd dX7_assign_4 rfl (lv_at hl 2 rfl) ?_
    refine lv_bipush (v := 20) hx hcd dX7_assign_5 (by decide) ?_
    refine lv_icmp_ge (tgt := 42) hx hcd dX7_assign_7 (by decide) (fun c1 => ?_) (fun c1 => ?_)
    · have ho := gif_p ho c1
      refine lv_iconst (v := 0) hx hcd dX7_assign_42 (by decide) ?_
      refine lv_istore_n (lv' := [(2, .int 0), (0, .ref (ad 132)), (1, .int y0)]) hx hcd dX7_assign_43 rfl hl (by decide) rfl (fun ls hl => ?_)
      exact (hjmp _ (Option.some.inj ho).symm _ _ _ hW).2.1 rfl (lv_sub hl [1, 2, 0] rfl)
    · have ho := gif_n ho c1
      refine lv_iload_n hx hcd dX7_assign_10 rfl (lv_at hl 1 rfl) ?_
      refine lv_aload_n hx hcd dX7_assign_11 rfl (lv_at hl 0 rfl) ?_
      refine lv_iload_n hx hcd dX7_assign_12 rfl (lv_at hl 2 rfl) ?_
      obtain ⟨r3, h2, ho⟩ := gb_some ho
      refine g_calli hW (g_runV (As := [.int y1]) (rest := [.int y0]) (i := 132) hC hW (c_X7_isStay l D y ad y1 _ _ h2) ok_X7_91 ⟨rfl, rfl, Nat.le_of_ble_eq_true rfl, Nat.le_of_ble_eq_true rfl⟩ (by decide) rfl rfl rfl rfl hl.1 rfl (Nat.le_of_ble_eq_true rfl) dX7_assign_13 ⟨Nat.zero_le _, Nat.zero_le _⟩) (fun H locs hW => ?_)
      refine lv_if_eq (tgt := 33) hx hcd dX7_assign_16 (by decide) (fun c4 => ?_) (fun c4 => ?_)
      · have ho := gif_p ho c4
        refine lv_iconst (v := 0) hx hcd dX7_assign_33 (by decide) ?_
        refine lv_ior hx hcd dX7_assign_34 ?_
        refine lv_istore_n (lv' := [(1, .int (y0 ||| (0 : Int32))), (0, .ref (ad 132)), (2, .int y1)]) hx hcd dX7_assign_35 rfl hl (by decide) rfl (fun ls hl => ?_)
        refine lv_iinc (v := y1 + 1) (lv' := [(2, .int (y1 + 1)), (1, .int (y0 ||| (0 : Int32))), (0, .ref (ad 132))]) hx hcd dX7_assign_36 hl (k := 2) rfl rfl (by decide) rfl (fun ls hl => ?_)
        refine lv_goto (tgt := 4) hx hcd dX7_assign_39 (by decide) ?_
        exact (hjmp _ (Option.some.inj ho).symm _ _ _ hW).1 rfl (lv_sub hl [2, 1, 0] rfl)
      · have ho := gif_n ho c4
        refine lv_aload_n hx hcd dX7_assign_19 rfl (lv_at hl 0 rfl) ?_
        refine lv_iload_n hx hcd dX7_assign_20 rfl (lv_at hl 2 rfl) ?_
        obtain ⟨r6, h5, ho⟩ := gb_some ho
        refine g_calli hW (g_runV (As := [.int y1]) (rest := [.int y0]) (i := 132) hC hW (c_X7_isOn l D y ad y1 _ _ h5) ok_X7_97 ⟨rfl, rfl, Nat.le_of_ble_eq_true rfl, Nat.le_of_ble_eq_true rfl⟩ (by decide) rfl rfl rfl rfl hl.1 rfl (Nat.le_of_ble_eq_true rfl) dX7_assign_21 ⟨Nat.zero_le _, Nat.zero_le _⟩) (fun H locs hW => ?_)
        refine lv_if_ne (tgt := 33) hx hcd dX7_assign_24 (by decide) (fun c7 => ?_) (fun c7 => ?_)
        · have ho := gif_n ho c7
          refine lv_iconst (v := 0) hx hcd dX7_assign_33 (by decide) ?_
          refine lv_ior hx hcd dX7_assign_34 ?_
          refine lv_istore_n (lv' := [(1, .int (y0 ||| (0 : Int32))), (0, .ref (ad 132)), (2, .int y1)]) hx hcd dX7_assign_35 rfl hl (by decide) rfl (fun ls hl => ?_)
          refine lv_iinc (v := y1 + 1) (lv' := [(2, .int (y1 + 1)), (1, .int (y0 ||| (0 : Int32))), (0, .ref (ad 132))]) hx hcd dX7_assign_36 hl (k := 2) rfl rfl (by decide) rfl (fun ls hl => ?_)
          refine lv_goto (tgt := 4) hx hcd dX7_assign_39 (by decide) ?_
          exact (hjmp _ (Option.some.inj ho).symm _ _ _ hW).1 rfl (lv_sub hl [2, 1, 0] rfl)
        · have ho := gif_p ho c7
          refine lv_iconst (v := 1) hx hcd dX7_assign_27 (by decide) ?_
          refine lv_iload_n hx hcd dX7_assign_28 rfl (lv_at hl 2 rfl) ?_
          refine lv_ishl hx hcd dX7_assign_29 ?_
          refine lv_goto (tgt := 34) hx hcd dX7_assign_30 (by decide) ?_
          refine lv_ior hx hcd dX7_assign_34 ?_
          refine lv_istore_n (lv' := [(1, .int (y0 ||| ((1 : Int32) <<< (y1 &&& 31)))), (0, .ref (ad 132)), (2, .int y1)]) hx hcd dX7_assign_35 rfl hl (by decide) rfl (fun ls hl => ?_)
          refine lv_iinc (v := y1 + 1) (lv' := [(2, .int (y1 + 1)), (1, .int (y0 ||| ((1 : Int32) <<< (y1 &&& 31)))), (0, .ref (ad 132))]) hx hcd dX7_assign_36 hl (k := 2) rfl rfl (by decide) rfl (fun ls hl => ?_)
          refine lv_goto (tgt := 4) hx hcd dX7_assign_39 (by decide) ?_
          exact (hjmp _ (Option.some.inj ho).symm _ _ _ hW).1 rfl (lv_sub hl [2, 1, 0] rfl)
  · intro hlb hl
    have hlb : lb = 1 := hlb
    subst hlb
    have ho : X7_assign_k1 σ y0 y1 = some o := ho
    unfold X7_assign_k1 at ho
    have hl : lv_has ls 5 [(0, .ref (ad 132)), (1, .int y0), (2, .int y1)] := hl
    have hW : g_W (g_A ad sz) s.heap D y ad [] σ H locs := hW
    refine lv_iload_n hx hcd dX7_assign_44 rfl (lv_at hl 1 rfl) ?_
    refine lv_if_eq (tgt := 130) hx hcd dX7_assign_45 (by decide) (fun c8 => ?_) (fun c8 => ?_)
    · have ho := gif_p ho c8
      refine lv_iload_n hx hcd dX7_assign_130 rfl (lv_at hl 2 rfl) ?_
      obtain rfl := hret _ (Option.some.inj ho).symm
      exact g_iret hC hr hlk hsz hW dX7_assign_131
    · have ho := gif_n ho c8
      refine lv_iconst (v := (-1)) hx hcd dX7_assign_48 (by decide) ?_
      refine lv_istore_n (lv' := [(3, .int (-1)), (0, .ref (ad 132)), (1, .int y0), (2, .int y1)]) hx hcd dX7_assign_49 rfl hl (by decide) rfl (fun ls hl => ?_)
      refine lv_iconst (v := 0) hx hcd dX7_assign_50 (by decide) ?_
      refine lv_istore (lv' := [(4, .int 0), (3, .int (-1)), (0, .ref (ad 132)), (1, .int y0), (2, .int y1)]) hx hcd dX7_assign_51 hl (by decide) rfl (fun ls hl => ?_)
      exact (hjmp _ (Option.some.inj ho).symm _ _ _ hW).2.2 rfl (lv_sub hl [2, 3, 4, 1, 0] rfl)
  · intro hlb hl
    have hlb : lb = 2 := hlb
    subst hlb
    have ho : X7_assign_k2 σ y0 y1 y2 y3 = some o := ho
    unfold X7_assign_k2 at ho
    have hl : lv_has ls 5 [(0, .ref (ad 132)), (1, .int y0), (2, .int y1), (3, .int y2), (4, .int y3)] := hl
    have hW : g_W (g_A ad sz) s.heap D y ad [] σ H locs := hW
    refine lv_iload hx hcd dX7_assign_53 (lv_at hl 4 rfl) ?_
    refine lv_bipush (v := 20) hx hcd dX7_assign_55 (by decide) ?_
    refine lv_icmp_ge (tgt := 97) hx hcd dX7_assign_57 (by decide) (fun c9 => ?_) (fun c9 => ?_)
    · have ho := gif_p ho c9
      refine lv_iload_n hx hcd dX7_assign_97 rfl (lv_at hl 1 rfl) ?_
      refine lv_iconst (v := 1) hx hcd dX7_assign_98 (by decide) ?_
      refine lv_iload_n hx hcd dX7_assign_99 rfl (lv_at hl 3 rfl) ?_
      refine lv_ishl hx hcd dX7_assign_100 ?_
      refine lv_iconst (v := (-1)) hx hcd dX7_assign_101 (by decide) ?_
      refine lv_ixor hx hcd dX7_assign_102 ?_
      refine lv_iand hx hcd dX7_assign_103 ?_
      refine lv_istore_n (lv' := [(1, .int (y0 &&& (((1 : Int32) <<< (y2 &&& 31)) ^^^ (-1 : Int32)))), (0, .ref (ad 132)), (2, .int y1), (3, .int y2), (4, .int y3)]) hx hcd dX7_assign_104 rfl hl (by decide) rfl (fun ls hl => ?_)
      refine lv_aload_n hx hcd dX7_assign_105 rfl (lv_at hl 1 rfl) ?_
      refine lv_iload_n hx hcd dX7_assign_106 rfl (lv_at hl 3 rfl) ?_
      obtain ⟨q11, h10, ho⟩ := gb_some ho
      refine g_calli hW (g_runV (As := [.int y2]) (rest := []) (i := 132) hC hW (c_X7_cheapestOf l D y ad y2 _ _ h10) ok_X7_161 ⟨rfl, rfl, Nat.le_of_ble_eq_true rfl, Nat.le_of_ble_eq_true rfl⟩ (by decide) rfl rfl rfl rfl hl.1 rfl (Nat.le_of_ble_eq_true rfl) dX7_assign_107 ⟨Nat.zero_le _, Nat.zero_le _⟩) (fun H locs hW => ?_)
      refine lv_istore (lv' := [(4, .int q11.1), (1, .int (y0 &&& (((1 : Int32) <<< (y2 &&& 31)) ^^^ (-1 : Int32)))), (0, .ref (ad 132)), (2, .int y1), (3, .int y2)]) hx hcd dX7_assign_110 hl (by decide) rfl (fun ls hl => ?_)
      refine lv_iload hx hcd dX7_assign_112 (lv_at hl 0 rfl) ?_
      refine lv_if_lt (tgt := 127) hx hcd dX7_assign_114 (by decide) (fun c12 => ?_) (fun c12 => ?_)
      · have ho := gif_p ho c12
        refine lv_goto (tgt := 44) hx hcd dX7_assign_127 (by decide) ?_
        exact (hjmp _ (Option.some.inj ho).symm _ _ _ hW).2.1 rfl (lv_sub hl [2, 1, 3] rfl)
      · have ho := gif_n ho c12
        refine lv_aload_n hx hcd dX7_assign_117 rfl (lv_at hl 2 rfl) ?_
        refine lv_iload_n hx hcd dX7_assign_118 rfl (lv_at hl 4 rfl) ?_
        refine lv_iload hx hcd dX7_assign_119 (lv_at hl 0 rfl) ?_
        obtain ⟨σ14, h13, ho⟩ := gb_some ho
        refine g_callv hW (g_runV (As := [.int y2, .int q11.1]) (rest := []) (i := 132) hC hW (c_X7_put l D y ad y2 q11.1 _ _ h13) ok_X7_141 ⟨rfl, rfl, Nat.le_of_ble_eq_true rfl, Nat.le_of_ble_eq_true rfl⟩ (by decide) rfl rfl rfl rfl hl.1 rfl (Nat.le_of_ble_eq_true rfl) dX7_assign_121 ⟨Nat.zero_le _, Nat.zero_le _⟩) (fun H locs hW => ?_)
        refine lv_iinc (v := y1 + 1) (lv' := [(2, .int (y1 + 1)), (4, .int q11.1), (1, .int (y0 &&& (((1 : Int32) <<< (y2 &&& 31)) ^^^ (-1 : Int32)))), (0, .ref (ad 132)), (3, .int y2)]) hx hcd dX7_assign_124 hl (k := 3) rfl rfl (by decide) rfl (fun ls hl => ?_)
        refine lv_goto (tgt := 44) hx hcd dX7_assign_127 (by decide) ?_
        exact (hjmp _ (Option.some.inj ho).symm _ _ _ hW).2.1 rfl (lv_sub hl [3, 2, 0] rfl)
    · have ho := gif_n ho c9
      refine lv_iload_n hx hcd dX7_assign_60 rfl (lv_at hl 1 rfl) ?_
      refine lv_iload hx hcd dX7_assign_61 (lv_at hl 4 rfl) ?_
      refine lv_ishr hx hcd dX7_assign_63 ?_
      refine lv_iconst (v := 1) hx hcd dX7_assign_64 (by decide) ?_
      refine lv_iand hx hcd dX7_assign_65 ?_
      refine lv_iconst (v := 1) hx hcd dX7_assign_66 (by decide) ?_
      refine lv_icmp_ne (tgt := 89) hx hcd dX7_assign_67 (by decide) (fun c15 => ?_) (fun c15 => ?_)
      · have ho := gif_n ho c15
        refine lv_iload_n hx hcd dX7_assign_89 rfl (lv_at hl 3 rfl) ?_
        refine lv_istore_n (lv' := [(3, .int y2), (0, .ref (ad 132)), (1, .int y0), (2, .int y1), (4, .int y3)]) hx hcd dX7_assign_90 rfl hl (by decide) rfl (fun ls hl => ?_)
        refine lv_iinc (v := y3 + 1) (lv' := [(4, .int (y3 + 1)), (3, .int y2), (0, .ref (ad 132)), (1, .int y0), (2, .int y1)]) hx hcd dX7_assign_91 hl (k := 4) rfl rfl (by decide) rfl (fun ls hl => ?_)
        refine lv_goto (tgt := 53) hx hcd dX7_assign_94 (by decide) ?_
        exact (hjmp _ (Option.some.inj ho).symm _ _ _ hW).2.2 rfl (lv_sub hl [2, 3, 4, 1, 0] rfl)
      · have ho := gif_p ho c15
        refine lv_iload_n hx hcd dX7_assign_70 rfl (lv_at hl 3 rfl) ?_
        refine lv_if_lt (tgt := 84) hx hcd dX7_assign_71 (by decide) (fun c16 => ?_) (fun c16 => ?_)
        · have ho := gif_p ho c16
          refine lv_iload hx hcd dX7_assign_84 (lv_at hl 4 rfl) ?_
          refine lv_goto (tgt := 90) hx hcd dX7_assign_86 (by decide) ?_
          refine lv_istore_n (lv' := [(3, .int y3), (0, .ref (ad 132)), (1, .int y0), (2, .int y1), (4, .int y3)]) hx hcd dX7_assign_90 rfl hl (by decide) rfl (fun ls hl => ?_)
          refine lv_iinc (v := y3 + 1) (lv' := [(4, .int (y3 + 1)), (3, .int y3), (0, .ref (ad 132)), (1, .int y0), (2, .int y1)]) hx hcd dX7_assign_91 hl (k := 4) rfl rfl (by decide) rfl (fun ls hl => ?_)
          refine lv_goto (tgt := 53) hx hcd dX7_assign_94 (by decide) ?_
          exact (hjmp _ (Option.some.inj ho).symm _ _ _ hW).2.2 rfl (lv_sub hl [2, 3, 4, 1, 0] rfl)
        · have ho := gif_n ho c16
          refine lv_aload_n hx hcd dX7_assign_74 rfl (lv_at hl 0 rfl) ?_
          refine lv_iload hx hcd dX7_assign_75 (lv_at hl 4 rfl) ?_
          refine lv_iload_n hx hcd dX7_assign_77 rfl (lv_at hl 3 rfl) ?_
          obtain ⟨r18, h17, ho⟩ := gb_some ho
          refine g_calli hW (g_runV (As := [.int y3, .int y2]) (rest := []) (i := 132) hC hW (c_X7_isAhead l D y ad y3 y2 _ _ h17) ok_X7_179 ⟨rfl, rfl, Nat.le_of_ble_eq_true rfl, Nat.le_of_ble_eq_true rfl⟩ (by decide) rfl rfl rfl rfl hl.1 rfl (Nat.le_of_ble_eq_true rfl) dX7_assign_78 ⟨Nat.zero_le _, Nat.zero_le _⟩) (fun H locs hW => ?_)
          refine lv_if_eq (tgt := 89) hx hcd dX7_assign_81 (by decide) (fun c19 => ?_) (fun c19 => ?_)
          · have ho := gif_p ho c19
            refine lv_iload_n hx hcd dX7_assign_89 rfl (lv_at hl 3 rfl) ?_
            refine lv_istore_n (lv' := [(3, .int y2), (0, .ref (ad 132)), (1, .int y0), (2, .int y1), (4, .int y3)]) hx hcd dX7_assign_90 rfl hl (by decide) rfl (fun ls hl => ?_)
            refine lv_iinc (v := y3 + 1) (lv' := [(4, .int (y3 + 1)), (3, .int y2), (0, .ref (ad 132)), (1, .int y0), (2, .int y1)]) hx hcd dX7_assign_91 hl (k := 4) rfl rfl (by decide) rfl (fun ls hl => ?_)
            refine lv_goto (tgt := 53) hx hcd dX7_assign_94 (by decide) ?_
            exact (hjmp _ (Option.some.inj ho).symm _ _ _ hW).2.2 rfl (lv_sub hl [2, 3, 4, 1, 0] rfl)
          · have ho := gif_n ho c19
            refine lv_iload hx hcd dX7_assign_84 (lv_at hl 4 rfl) ?_
            refine lv_goto (tgt := 90) hx hcd dX7_assign_86 (by decide) ?_
            refine lv_istore_n (lv' := [(3, .int y3), (0, .ref (ad 132)), (1, .int y0), (2, .int y1), (4, .int y3)]) hx hcd dX7_assign_90 rfl hl (by decide) rfl (fun ls hl => ?_)
            refine lv_iinc (v := y3 + 1) (lv' := [(4, .int (y3 + 1)), (3, .int y3), (0, .ref (ad 132)), (1, .int y0), (2, .int y1)]) hx hcd dX7_assign_91 hl (k := 4) rfl rfl (by decide) rfl (fun ls hl => ?_)
            refine lv_goto (tgt := 53) hx hcd dX7_assign_94 (by decide) ?_
            exact (hjmp _ (Option.some.inj ho).symm _ _ _ hW).2.2 rfl (lv_sub hl [2, 3, 4, 1, 0] rfl)
set_option maxHeartbeats 4000000 in
set_option maxRecDepth 100000 in
theorem c_X7_assign (l : Launch) (D : va_G) (y : ClassId × ClassId × ClassId) (ad : Nat → Nat) (σ : gS) (sz : Nat) {q : Int32 × gS} (h : X7_assign σ = some q) : Met l yX7_assign (Cond.code yX7_assign cX7_assign 5 (some .int) :: gl) ({ frames := 9, cells := 0, slots := 0, locals := 203 }) (g_Pc D y ad σ sz [.ref (ad 132)]) (g_Qi D y ad q.2 sz q.1) 0 0 (g_A ad sz) := by
  have ho := h
  unfold X7_assign at ho
  refine g_start (by decide) (Nat.le_of_ble_eq_true rfl) (fun p e s m below meth c ls hC hr hlk hsz hW hl => ?_)
  have hx := hC.1
  have hcd := hC.2.1
  have hl : lv_has ls 5 [(0, .ref (ad 132))] := hl
  refine lv_iconst (v := 0) hx hcd dX7_assign_0 (by decide) ?_
  refine lv_istore_n (lv' := [(1, .int 0), (0, .ref (ad 132))]) hx hcd dX7_assign_1 rfl hl (by decide) rfl (fun ls hl => ?_)
  refine lv_iconst (v := 0) hx hcd dX7_assign_2 (by decide) ?_
  refine lv_istore_n (lv' := [(2, .int 0), (1, .int 0), (0, .ref (ad 132))]) hx hcd dX7_assign_3 rfl hl (by decide) rfl (fun ls hl => ?_)
  exact (l_X7_assign l D y ad sz hC hr hlk hsz _ ho _ _ _ hW).1 rfl (lv_sub hl [2, 1, 0] rfl)
noncomputable def X7_assignAll (σ : gS) : Option (Int32 × gS) :=
  lt_ (g_up σ 132 8 0) fun σ1 => (X7_changes σ1).bind fun σ3 => (X7_assign σ3).bind fun q5 => some (q5.1, q5.2)
set_option maxHeartbeats 4000000 in
set_option maxRecDepth 100000 in
theorem c_X7_assignAll (l : Launch) (D : va_G) (y : ClassId × ClassId × ClassId) (ad : Nat → Nat) (σ : gS) (sz : Nat) {q : Int32 × gS} (h : X7_assignAll σ = some q) : Met l yX7_assignAll (Cond.code yX7_assignAll cX7_assignAll 1 (some .int) :: gl) ({ frames := 10, cells := 0, slots := 0, locals := 227 }) (g_Pc D y ad σ sz [.ref (ad 132)]) (g_Qi D y ad q.2 sz q.1) 0 0 (g_A ad sz) := by
  have ho := h
  unfold X7_assignAll at ho
  refine g_start (by decide) (Nat.le_of_ble_eq_true rfl) (fun p e s m below meth c ls hC hr hlk hsz hW hl => ?_)
  have hx := hC.1
  have hcd := hC.2.1
  have hl : lv_has ls 1 [(0, .ref (ad 132))] := hl
  refine lv_aload_n hx hcd dX7_assignAll_0 rfl (lv_at hl 0 rfl) ?_
  refine lv_iconst (v := 0) hx hcd dX7_assignAll_1 (by decide) ?_
  obtain ⟨σ1, eσ1, ho⟩ := lt_ex ho
  refine g_puti hC hW (C := RX7) (T := TX7) (N := 19) (ci := 9) (k := 8) (index := 48) (i := 132) inGX7 tyX7 tyX7_ok nmX7 rfl (by decide) fl_X7_48 rfl (by decide) rfl rfl rfl rfl dX7_assignAll_2 (fun H locs hW => ?_)
  rw [← eσ1] at hW
  refine lv_aload_n hx hcd dX7_assignAll_5 rfl (lv_at hl 0 rfl) ?_
  obtain ⟨σ3, h2, ho⟩ := gb_some ho
  refine g_callv hW (g_runV (As := []) (rest := []) (i := 132) hC hW (c_X7_changes l D y ad _ _ h2) ok_X7_70 ⟨rfl, rfl, Nat.le_of_ble_eq_true rfl, Nat.le_of_ble_eq_true rfl⟩ (by decide) rfl rfl rfl rfl hl.1 rfl (Nat.le_of_ble_eq_true rfl) dX7_assignAll_6 ⟨Nat.zero_le _, Nat.zero_le _⟩) (fun H locs hW => ?_)
  refine lv_aload_n hx hcd dX7_assignAll_9 rfl (lv_at hl 0 rfl) ?_
  obtain ⟨q5, h4, ho⟩ := gb_some ho
  refine g_calli hW (g_runV (As := []) (rest := []) (i := 132) hC hW (c_X7_assign l D y ad _ _ h4) ok_X7_182 ⟨rfl, rfl, Nat.le_of_ble_eq_true rfl, Nat.le_of_ble_eq_true rfl⟩ (by decide) rfl rfl rfl rfl hl.1 rfl (Nat.le_of_ble_eq_true rfl) dX7_assignAll_10 ⟨Nat.zero_le _, Nat.zero_le _⟩) (fun H locs hW => ?_)
  obtain rfl := Option.some.inj ho
  exact g_iret hC hr hlk hsz hW dX7_assignAll_13
noncomputable def X7_costAssigned (σ : gS) : Option (Int32 × gS) :=
  lt_ (g_row σ 134 (va_cpy (σ 133) (σ 134) (0 : Int32).toNatClampNeg (0 : Int32).toNatClampNeg (162 : Int32).toNatClampNeg)) fun σ1 => (X7_assign σ1).bind fun q3 => (X7_cost q3.2).bind fun r5 => lt_ (g_row q3.2 133 (va_cpy (q3.2 134) (q3.2 133) (0 : Int32).toNatClampNeg (0 : Int32).toNatClampNeg (162 : Int32).toNatClampNeg)) fun σ6 => if 0 ≤ q3.1 then (some (r5, σ6)) else (some (0, σ6))
set_option maxHeartbeats 4000000 in
set_option maxRecDepth 100000 in
theorem c_X7_costAssigned (l : Launch) (D : va_G) (y : ClassId × ClassId × ClassId) (ad : Nat → Nat) (σ : gS) (sz : Nat) {q : Int32 × gS} (h : X7_costAssigned σ = some q) : Met l yX7_costAssigned (Cond.code yX7_costAssigned cX7_costAssigned 3 (some .int) :: gl) ({ frames := 10, cells := 0, slots := 0, locals := 227 }) (g_Pc D y ad σ sz [.ref (ad 132)]) (g_Qi D y ad q.2 sz q.1) 0 0 (g_A ad sz) := by
  have ho := h
  unfold X7_costAssigned at ho
  refine g_start (by decide) (Nat.le_of_ble_eq_true rfl) (fun p e s m below meth c ls hC hr hlk hsz hW hl => ?_)
  have hx := hC.1
  have hcd := hC.2.1
  have hl : lv_has ls 3 [(0, .ref (ad 132))] := hl
  refine lv_aload_n hx hcd dX7_costAssigned_0 rfl (lv_at hl 0 rfl) ?_
  refine g_getr hC hW (C := RX7) (T := TX7) (N := 19) (ci := 9) (k := 0) (index := 9) (i := 132) (r := 133) inGX7 rfl (by decide) fl_X7_9 (by decide) rfl rfl dX7_costAssigned_1 ?_
  refine lv_iconst (v := 0) hx hcd dX7_costAssigned_4 (by decide) ?_
  refine lv_aload_n hx hcd dX7_costAssigned_5 rfl (lv_at hl 0 rfl) ?_
  refine g_getr hC hW (C := RX7) (T := TX7) (N := 19) (ci := 9) (k := 1) (index := 13) (i := 132) (r := 134) inGX7 rfl (by decide) fl_X7_13 (by decide) rfl rfl dX7_costAssigned_6 ?_
  refine lv_iconst (v := 0) hx hcd dX7_costAssigned_9 (by decide) ?_
  refine lv_sipush (v := 162) hx hcd dX7_costAssigned_10 (by decide) ?_
  obtain ⟨σ1, eσ1, ho⟩ := lt_ex ho
  refine g_copy hC hW hl.1 ml_X7_58 (i0 := 133) (i1 := 134) (n0 := 162) (n1 := 162) (by decide) (by decide) rfl rfl (by decide +kernel) ac_w ⟨Nat.le_of_ble_eq_true rfl, Nat.le_of_ble_eq_true rfl⟩ dX7_costAssigned_13 (fun H locs hW => ?_)
  rw [← eσ1] at hW
  refine lv_aload_n hx hcd dX7_costAssigned_16 rfl (lv_at hl 0 rfl) ?_
  obtain ⟨q3, h2, ho⟩ := gb_some ho
  refine g_calli hW (g_runV (As := []) (rest := []) (i := 132) hC hW (c_X7_assign l D y ad _ _ h2) ok_X7_182 ⟨rfl, rfl, Nat.le_of_ble_eq_true rfl, Nat.le_of_ble_eq_true rfl⟩ (by decide) rfl rfl rfl rfl hl.1 rfl (Nat.le_of_ble_eq_true rfl) dX7_costAssigned_17 ⟨Nat.zero_le _, Nat.zero_le _⟩) (fun H locs hW => ?_)
  refine lv_istore_n (lv' := [(1, .int q3.1), (0, .ref (ad 132))]) hx hcd dX7_costAssigned_20 rfl hl (by decide) rfl (fun ls hl => ?_)
  refine lv_aload_n hx hcd dX7_costAssigned_21 rfl (lv_at hl 1 rfl) ?_
  obtain ⟨r5, h4, ho⟩ := gb_some ho
  refine g_calli hW (g_runV (As := []) (rest := []) (i := 132) hC hW (c_X7_cost l D y ad _ _ h4) ok_X7_186 ⟨rfl, rfl, Nat.le_of_ble_eq_true rfl, Nat.le_of_ble_eq_true rfl⟩ (by decide) rfl rfl rfl rfl hl.1 rfl (Nat.le_of_ble_eq_true rfl) dX7_costAssigned_22 ⟨Nat.zero_le _, Nat.zero_le _⟩) (fun H locs hW => ?_)
  refine lv_istore_n (lv' := [(2, .int r5), (1, .int q3.1), (0, .ref (ad 132))]) hx hcd dX7_costAssigned_25 rfl hl (by decide) rfl (fun ls hl => ?_)
  refine lv_aload_n hx hcd dX7_costAssigned_26 rfl (lv_at hl 2 rfl) ?_
  refine g_getr hC hW (C := RX7) (T := TX7) (N := 19) (ci := 9) (k := 1) (index := 13) (i := 132) (r := 134) inGX7 rfl (by decide) fl_X7_13 (by decide) rfl rfl dX7_costAssigned_27 ?_
  refine lv_iconst (v := 0) hx hcd dX7_costAssigned_30 (by decide) ?_
  refine lv_aload_n hx hcd dX7_costAssigned_31 rfl (lv_at hl 2 rfl) ?_
  refine g_getr hC hW (C := RX7) (T := TX7) (N := 19) (ci := 9) (k := 0) (index := 9) (i := 132) (r := 133) inGX7 rfl (by decide) fl_X7_9 (by decide) rfl rfl dX7_costAssigned_32 ?_
  refine lv_iconst (v := 0) hx hcd dX7_costAssigned_35 (by decide) ?_
  refine lv_sipush (v := 162) hx hcd dX7_costAssigned_36 (by decide) ?_
  obtain ⟨σ6, eσ6, ho⟩ := lt_ex ho
  refine g_copy hC hW hl.1 ml_X7_58 (i0 := 134) (i1 := 133) (n0 := 162) (n1 := 162) (by decide) (by decide) rfl rfl (by decide +kernel) ac_w ⟨Nat.le_of_ble_eq_true rfl, Nat.le_of_ble_eq_true rfl⟩ dX7_costAssigned_39 (fun H locs hW => ?_)
  rw [← eσ6] at hW
  refine lv_iload_n hx hcd dX7_costAssigned_42 rfl (lv_at hl 1 rfl) ?_
  refine lv_if_ge (tgt := 50) hx hcd dX7_costAssigned_43 (by decide) (fun c7 => ?_) (fun c7 => ?_)
  · have ho := gif_p ho c7
    refine lv_iload_n hx hcd dX7_costAssigned_50 rfl (lv_at hl 0 rfl) ?_
    obtain rfl := Option.some.inj ho
    exact g_iret hC hr hlk hsz hW dX7_costAssigned_51
  · have ho := gif_n ho c7
    refine lv_iconst (v := 0) hx hcd dX7_costAssigned_46 (by decide) ?_
    refine lv_goto (tgt := 51) hx hcd dX7_costAssigned_47 (by decide) ?_
    obtain rfl := Option.some.inj ho
    exact g_iret hC hr hlk hsz hW dX7_costAssigned_51
noncomputable def X7_towGain (σ : gS) (x1 : Int32) (x2 : Int32) : Option (Int32 × gS) :=
  (X7_whyNoTow σ x1 x2).bind fun r2 => lt_ (g_up σ 132 8 r2) fun σ3 => if (σ3 132 8) ≤ 0 then ((X7_costAssigned σ3).bind fun q6 => (X7_keepState q6.2).bind fun σ8 => (X7_doTow σ8 x1 x2).bind fun q10 => (X7_costAssigned q10.2).bind fun q12 => lt_ (g_row q12.2 133 (va_cpy (q12.2 135) (q12.2 133) (0 : Int32).toNatClampNeg (0 : Int32).toNatClampNeg (162 : Int32).toNatClampNeg)) fun σ13 => if q10.1 ≤ 0 then (some ((q6.1 - q12.1), σ13)) else (some (0, σ13))) else (some (0, σ3))
set_option maxHeartbeats 4000000 in
set_option maxRecDepth 100000 in
theorem c_X7_towGain (l : Launch) (D : va_G) (y : ClassId × ClassId × ClassId) (ad : Nat → Nat) (x1 : Int32) (x2 : Int32) (σ : gS) (sz : Nat) {q : Int32 × gS} (h : X7_towGain σ x1 x2 = some q) : Met l yX7_towGain (Cond.code yX7_towGain cX7_towGain 6 (some .int) :: gl) ({ frames := 11, cells := 0, slots := 0, locals := 249 }) (g_Pc D y ad σ sz [.ref (ad 132), .int x1, .int x2]) (g_Qi D y ad q.2 sz q.1) 0 0 (g_A ad sz) := by
  have ho := h
  unfold X7_towGain at ho
  refine g_start (by decide) (Nat.le_of_ble_eq_true rfl) (fun p e s m below meth c ls hC hr hlk hsz hW hl => ?_)
  have hx := hC.1
  have hcd := hC.2.1
  have hl : lv_has ls 6 [(0, .ref (ad 132)), (1, .int x1), (2, .int x2)] := hl
  refine lv_aload_n hx hcd dX7_towGain_0 rfl (lv_at hl 0 rfl) ?_
  refine lv_aload_n hx hcd dX7_towGain_1 rfl (lv_at hl 0 rfl) ?_
  refine lv_iload_n hx hcd dX7_towGain_2 rfl (lv_at hl 1 rfl) ?_
  refine lv_iload_n hx hcd dX7_towGain_3 rfl (lv_at hl 2 rfl) ?_
  obtain ⟨r2, h1, ho⟩ := gb_some ho
  refine g_calli hW (g_runV (As := [.int x1, .int x2]) (rest := [.ref (ad 132)]) (i := 132) hC hW (c_X7_whyNoTow l D y ad x1 x2 _ _ h1) ok_X7_167 ⟨rfl, rfl, Nat.le_of_ble_eq_true rfl, Nat.le_of_ble_eq_true rfl⟩ (by decide) rfl rfl rfl rfl hl.1 rfl (Nat.le_of_ble_eq_true rfl) dX7_towGain_4 ⟨Nat.zero_le _, Nat.zero_le _⟩) (fun H locs hW => ?_)
  obtain ⟨σ3, eσ3, ho⟩ := lt_ex ho
  refine g_puti hC hW (C := RX7) (T := TX7) (N := 19) (ci := 9) (k := 8) (index := 48) (i := 132) inGX7 tyX7 tyX7_ok nmX7 rfl (by decide) fl_X7_48 rfl (by decide) rfl rfl rfl rfl dX7_towGain_7 (fun H locs hW => ?_)
  rw [← eσ3] at hW
  refine lv_aload_n hx hcd dX7_towGain_10 rfl (lv_at hl 0 rfl) ?_
  refine g_geti hC hW (C := RX7) (T := TX7) (N := 19) (ci := 9) (k := 8) (index := 48) (i := 132) inGX7 rfl (by decide) fl_X7_48 (by decide) rfl rfl dX7_towGain_11 ?_
  refine lv_if_le (tgt := 19) hx hcd dX7_towGain_14 (by decide) (fun c4 => ?_) (fun c4 => ?_)
  · have ho := gif_p ho c4
    refine lv_aload_n hx hcd dX7_towGain_19 rfl (lv_at hl 0 rfl) ?_
    obtain ⟨q6, h5, ho⟩ := gb_some ho
    refine g_calli hW (g_runV (As := []) (rest := []) (i := 132) hC hW (c_X7_costAssigned l D y ad _ _ h5) ok_X7_189 ⟨rfl, rfl, Nat.le_of_ble_eq_true rfl, Nat.le_of_ble_eq_true rfl⟩ (by decide) rfl rfl rfl rfl hl.1 rfl (Nat.le_of_ble_eq_true rfl) dX7_towGain_20 ⟨Nat.zero_le _, Nat.zero_le _⟩) (fun H locs hW => ?_)
    refine lv_istore_n (lv' := [(3, .int q6.1), (0, .ref (ad 132)), (1, .int x1), (2, .int x2)]) hx hcd dX7_towGain_23 rfl hl (by decide) rfl (fun ls hl => ?_)
    refine lv_aload_n hx hcd dX7_towGain_24 rfl (lv_at hl 1 rfl) ?_
    obtain ⟨σ8, h7, ho⟩ := gb_some ho
    refine g_callv hW (g_runV (As := []) (rest := []) (i := 132) hC hW (c_X7_keepState l D y ad _ _ h7) ok_X7_64 ⟨rfl, rfl, Nat.le_of_ble_eq_true rfl, Nat.le_of_ble_eq_true rfl⟩ (by decide) rfl rfl rfl rfl hl.1 rfl (Nat.le_of_ble_eq_true rfl) dX7_towGain_25 ⟨Nat.zero_le _, Nat.zero_le _⟩) (fun H locs hW => ?_)
    refine lv_aload_n hx hcd dX7_towGain_28 rfl (lv_at hl 1 rfl) ?_
    refine lv_iload_n hx hcd dX7_towGain_29 rfl (lv_at hl 2 rfl) ?_
    refine lv_iload_n hx hcd dX7_towGain_30 rfl (lv_at hl 3 rfl) ?_
    obtain ⟨q10, h9, ho⟩ := gb_some ho
    refine g_calli hW (g_runV (As := [.int x1, .int x2]) (rest := []) (i := 132) hC hW (c_X7_doTow l D y ad x1 x2 _ _ h9) ok_X7_170 ⟨rfl, rfl, Nat.le_of_ble_eq_true rfl, Nat.le_of_ble_eq_true rfl⟩ (by decide) rfl rfl rfl rfl hl.1 rfl (Nat.le_of_ble_eq_true rfl) dX7_towGain_31 ⟨Nat.zero_le _, Nat.zero_le _⟩) (fun H locs hW => ?_)
    refine lv_istore (lv' := [(4, .int q10.1), (3, .int q6.1), (0, .ref (ad 132)), (1, .int x1), (2, .int x2)]) hx hcd dX7_towGain_34 hl (by decide) rfl (fun ls hl => ?_)
    refine lv_aload_n hx hcd dX7_towGain_36 rfl (lv_at hl 2 rfl) ?_
    obtain ⟨q12, h11, ho⟩ := gb_some ho
    refine g_calli hW (g_runV (As := []) (rest := []) (i := 132) hC hW (c_X7_costAssigned l D y ad _ _ h11) ok_X7_189 ⟨rfl, rfl, Nat.le_of_ble_eq_true rfl, Nat.le_of_ble_eq_true rfl⟩ (by decide) rfl rfl rfl rfl hl.1 rfl (Nat.le_of_ble_eq_true rfl) dX7_towGain_37 ⟨Nat.zero_le _, Nat.zero_le _⟩) (fun H locs hW => ?_)
    refine lv_istore (lv' := [(5, .int q12.1), (4, .int q10.1), (3, .int q6.1), (0, .ref (ad 132)), (1, .int x1), (2, .int x2)]) hx hcd dX7_towGain_40 hl (by decide) rfl (fun ls hl => ?_)
    refine lv_aload_n hx hcd dX7_towGain_42 rfl (lv_at hl 3 rfl) ?_
    refine g_getr hC hW (C := RX7) (T := TX7) (N := 19) (ci := 9) (k := 2) (index := 16) (i := 132) (r := 135) inGX7 rfl (by decide) fl_X7_16 (by decide) rfl rfl dX7_towGain_43 ?_
    refine lv_iconst (v := 0) hx hcd dX7_towGain_46 (by decide) ?_
    refine lv_aload_n hx hcd dX7_towGain_47 rfl (lv_at hl 3 rfl) ?_
    refine g_getr hC hW (C := RX7) (T := TX7) (N := 19) (ci := 9) (k := 0) (index := 9) (i := 132) (r := 133) inGX7 rfl (by decide) fl_X7_9 (by decide) rfl rfl dX7_towGain_48 ?_
    refine lv_iconst (v := 0) hx hcd dX7_towGain_51 (by decide) ?_
    refine lv_sipush (v := 162) hx hcd dX7_towGain_52 (by decide) ?_
    obtain ⟨σ13, eσ13, ho⟩ := lt_ex ho
    refine g_copy hC hW hl.1 ml_X7_58 (i0 := 135) (i1 := 133) (n0 := 162) (n1 := 162) (by decide) (by decide) rfl rfl (by decide +kernel) ac_w ⟨Nat.le_of_ble_eq_true rfl, Nat.le_of_ble_eq_true rfl⟩ dX7_towGain_55 (fun H locs hW => ?_)
    rw [← eσ13] at hW
    refine lv_iload hx hcd dX7_towGain_58 (lv_at hl 1 rfl) ?_
    refine lv_if_le (tgt := 67) hx hcd dX7_towGain_60 (by decide) (fun c14 => ?_) (fun c14 => ?_)
    · have ho := gif_p ho c14
      refine lv_iload_n hx hcd dX7_towGain_67 rfl (lv_at hl 2 rfl) ?_
      refine lv_iload hx hcd dX7_towGain_68 (lv_at hl 0 rfl) ?_
      refine lv_isub hx hcd dX7_towGain_70 ?_
      obtain rfl := Option.some.inj ho
      exact g_iret hC hr hlk hsz hW dX7_towGain_71
    · have ho := gif_n ho c14
      refine lv_iconst (v := 0) hx hcd dX7_towGain_63 (by decide) ?_
      refine lv_goto (tgt := 71) hx hcd dX7_towGain_64 (by decide) ?_
      obtain rfl := Option.some.inj ho
      exact g_iret hC hr hlk hsz hW dX7_towGain_71
  · have ho := gif_n ho c4
    refine lv_iconst (v := 0) hx hcd dX7_towGain_17 (by decide) ?_
    obtain rfl := Option.some.inj ho
    exact g_iret hC hr hlk hsz hW dX7_towGain_18
noncomputable def X7_isMoved_k0 (σ : gS) (x1 : Int32) (x2 : Int32) (x3 : Int32) (x4 : Int32) : Option ((Int32 × Int32 × Int32 × Int32) ⊕ (Int32)) :=
  if x2 ≤ x4 then (gd (bz x3) <| some (.inr x3)) else (if x3 = 0 then (gd (ib x4 3) <| if (σ 138 x4.toNatClampNeg) = x1 then (some (.inl (x1, x2, 1, (x4 + 1)))) else (some (.inl (x1, x2, 0, (x4 + 1))))) else (some (.inl (x1, x2, 1, (x4 + 1)))))
noncomputable def X7_isMoved_s (σ : gS) (a : Int32 × Int32 × Int32 × Int32) : Option ((Int32 × Int32 × Int32 × Int32) ⊕ (Int32)) :=
  X7_isMoved_k0 σ a.1 a.2.1 a.2.2.1 a.2.2.2
noncomputable def X7_isMoved (σ : gS) (x1 : Int32) (x2 : Int32) : Option (Int32) :=
  gr (X7_isMoved_s σ) (x1, x2, 0, 0)
set_option maxHeartbeats 4000000 in
set_option maxRecDepth 100000 in
theorem l_X7_isMoved {p : Program} {e : Env} {s : State} {m : MethodId} {args : Array Value} {below : List Frame} {meth : Method} {c : Code} (l : Launch) (D : va_G) (y : ClassId × ClassId × ClassId) (ad : Nat → Nat) (σ : gS) (sz : Nat) (hC : g_C p s m args c cX7_isMoved 5 RX7 D y) (hr : meth.sig.returnType = (some .boolean)) (hlk : meth.locks = false) (hsz : s.heap.size = sz) {r0 : Int32} : ∀ a : Int32 × Int32 × Int32 × Int32, gr (X7_isMoved_s σ) a = some r0 → ∀ (H : Heap) (locs : List Loc) (ls : Array Slot), g_W (g_A ad sz) s.heap D y ad [] σ H locs → lv_has ls 5 [(0, .ref (ad 132)), (1, .int a.1), (2, .int a.2.1), (3, .int a.2.2.1), (4, .int a.2.2.2)] → W p l e ({ frames := 0, cells := 0, slots := 0, locals := 0 }) s m args below meth c H locs 0 0 (MQ below (g_Qi D y ad σ sz r0) args s 0 0 (g_A ad sz)) (F0 m 5 ls []) := by
  have hx := hC.1
  have hcd := hC.2.1
  refine gr_all (fun a o ho hret hjmp => ?_)
  obtain ⟨x1, x2, x3, x4⟩ := a
  intro H locs ls hW hl
  have ho : X7_isMoved_k0 σ x1 x2 x3 x4 = some o := ho
  unfold X7_isMoved_k0 at ho
  refine lv_iload hx hcd dX7_isMoved_5 (lv_at hl 4 rfl) ?_
  refine lv_iload_n hx hcd dX7_isMoved_7 rfl (lv_at hl 2 rfl) ?_
  refine lv_icmp_ge (tgt := 38) hx hcd dX7_isMoved_8 (by decide) (fun c1 => ?_) (fun c1 => ?_)
  · have ho := gif_p ho c1
    refine lv_iload_n hx hcd dX7_isMoved_38 rfl (lv_at hl 3 rfl) ?_
    obtain ⟨z2, ho⟩ := gd_some ho
    obtain rfl := hret _ (Option.some.inj ho).symm
    exact g_zret (r := x3) hC hr hlk hsz hW z2 dX7_isMoved_39
  · have ho := gif_n ho c1
    refine lv_iload_n hx hcd dX7_isMoved_11 rfl (lv_at hl 3 rfl) ?_
    refine lv_if_ne (tgt := 26) hx hcd dX7_isMoved_12 (by decide) (fun c3 => ?_) (fun c3 => ?_)
    · have ho := gif_n ho c3
      refine lv_iconst (v := 1) hx hcd dX7_isMoved_26 (by decide) ?_
      refine lv_goto (tgt := 31) hx hcd dX7_isMoved_27 (by decide) ?_
      refine lv_istore_n (lv' := [(3, .int 1), (0, .ref (ad 132)), (1, .int x1), (2, .int x2), (4, .int x4)]) hx hcd dX7_isMoved_31 rfl hl (by decide) rfl (fun ls hl => ?_)
      refine lv_iinc (v := x4 + 1) (lv' := [(4, .int (x4 + 1)), (3, .int 1), (0, .ref (ad 132)), (1, .int x1), (2, .int x2)]) hx hcd dX7_isMoved_32 hl (k := 4) rfl rfl (by decide) rfl (fun ls hl => ?_)
      refine lv_goto (tgt := 5) hx hcd dX7_isMoved_35 (by decide) ?_
      exact hjmp _ (Option.some.inj ho).symm _ _ _ hW (lv_sub hl [2, 3, 4, 1, 0] rfl)
    · have ho := gif_p ho c3
      refine lv_aload_n hx hcd dX7_isMoved_15 rfl (lv_at hl 0 rfl) ?_
      refine g_getr hC hW (C := RX7) (T := TX7) (N := 19) (ci := 9) (k := 9) (index := 25) (i := 132) (r := 138) inGX7 rfl (by decide) fl_X7_25 (by decide) rfl rfl dX7_isMoved_16 ?_
      refine lv_iload hx hcd dX7_isMoved_19 (lv_at hl 4 rfl) ?_
      obtain ⟨i4, ho⟩ := gd_some ho
      refine g_iald hC hW (i := 138) (by decide) rfl i4 dX7_isMoved_21 ?_
      refine lv_iload_n hx hcd dX7_isMoved_22 rfl (lv_at hl 1 rfl) ?_
      refine lv_icmp_ne (tgt := 30) hx hcd dX7_isMoved_23 (by decide) (fun c5 => ?_) (fun c5 => ?_)
      · have ho := gif_n ho c5
        refine lv_iconst (v := 0) hx hcd dX7_isMoved_30 (by decide) ?_
        refine lv_istore_n (lv' := [(3, .int 0), (0, .ref (ad 132)), (1, .int x1), (2, .int x2), (4, .int x4)]) hx hcd dX7_isMoved_31 rfl hl (by decide) rfl (fun ls hl => ?_)
        refine lv_iinc (v := x4 + 1) (lv' := [(4, .int (x4 + 1)), (3, .int 0), (0, .ref (ad 132)), (1, .int x1), (2, .int x2)]) hx hcd dX7_isMoved_32 hl (k := 4) rfl rfl (by decide) rfl (fun ls hl => ?_)
        refine lv_goto (tgt := 5) hx hcd dX7_isMoved_35 (by decide) ?_
        exact hjmp _ (Option.some.inj ho).symm _ _ _ hW (lv_sub hl [2, 3, 4, 1, 0] rfl)
      · have ho := gif_p ho c5
        refine lv_iconst (v := 1) hx hcd dX7_isMoved_26 (by decide) ?_
        refine lv_goto (tgt := 31) hx hcd dX7_isMoved_27 (by decide) ?_
        refine lv_istore_n (lv' := [(3, .int 1), (0, .ref (ad 132)), (1, .int x1), (2, .int x2), (4, .int x4)]) hx hcd dX7_isMoved_31 rfl hl (by decide) rfl (fun ls hl => ?_)
        refine lv_iinc (v := x4 + 1) (lv' := [(4, .int (x4 + 1)), (3, .int 1), (0, .ref (ad 132)), (1, .int x1), (2, .int x2)]) hx hcd dX7_isMoved_32 hl (k := 4) rfl rfl (by decide) rfl (fun ls hl => ?_)
        refine lv_goto (tgt := 5) hx hcd dX7_isMoved_35 (by decide) ?_
        exact hjmp _ (Option.some.inj ho).symm _ _ _ hW (lv_sub hl [2, 3, 4, 1, 0] rfl)
set_option maxHeartbeats 4000000 in
set_option maxRecDepth 100000 in
theorem c_X7_isMoved (l : Launch) (D : va_G) (y : ClassId × ClassId × ClassId) (ad : Nat → Nat) (x1 : Int32) (x2 : Int32) (σ : gS) (sz : Nat) {q : Int32} (h : X7_isMoved σ x1 x2 = some q) : Met l yX7_isMoved (Cond.code yX7_isMoved cX7_isMoved 5 (some .boolean) :: gl) ({ frames := 0, cells := 0, slots := 0, locals := 0 }) (g_Pc D y ad σ sz [.ref (ad 132), .int x1, .int x2]) (g_Qi D y ad σ sz q) 0 0 (g_A ad sz) := by
  have ho := h
  unfold X7_isMoved at ho
  refine g_start (by decide) (Nat.le_of_ble_eq_true rfl) (fun p e s m below meth c ls hC hr hlk hsz hW hl => ?_)
  have hx := hC.1
  have hcd := hC.2.1
  have hl : lv_has ls 5 [(0, .ref (ad 132)), (1, .int x1), (2, .int x2)] := hl
  refine lv_iconst (v := 0) hx hcd dX7_isMoved_0 (by decide) ?_
  refine lv_istore_n (lv' := [(3, .int 0), (0, .ref (ad 132)), (1, .int x1), (2, .int x2)]) hx hcd dX7_isMoved_1 rfl hl (by decide) rfl (fun ls hl => ?_)
  refine lv_iconst (v := 0) hx hcd dX7_isMoved_2 (by decide) ?_
  refine lv_istore (lv' := [(4, .int 0), (3, .int 0), (0, .ref (ad 132)), (1, .int x1), (2, .int x2)]) hx hcd dX7_isMoved_3 hl (by decide) rfl (fun ls hl => ?_)
  exact l_X7_isMoved l D y ad σ sz hC hr hlk hsz _ ho _ _ _ hW (lv_sub hl [2, 3, 4, 1, 0] rfl)
noncomputable def X7_areOthersGood_k0 (σ : gS) (x1 : Int32) (x2 : Int32) : Option ((Nat × Int32 × Int32 × Int32) ⊕ (Int32)) :=
  if 20 ≤ x2 then (some (.inr 1)) else ((X7_isOn σ x2).bind fun r3 => if r3 = 0 then (some (.inl (0, x1, (x2 + 1), 0))) else ((X7_isMoved σ x2 x1).bind fun r6 => if r6 = 0 then ((X7_isHindered σ x2).bind fun r9 => if r9 = 0 then (some (.inl (1, x1, x2, 0))) else (some (.inr 0))) else (some (.inl (0, x1, (x2 + 1), 0)))))
noncomputable def X7_areOthersGood_k1 (σ : gS) (x1 : Int32) (x2 : Int32) (x3 : Int32) : Option ((Nat × Int32 × Int32 × Int32) ⊕ (Int32)) :=
  if x2 ≤ x3 then (some (.inl (0, x1, (x2 + 1), 0))) else ((X7_isMoved σ x3 x1).bind fun r13 => if r13 = 0 then ((X7_areInConflict σ x2 x3).bind fun r16 => if r16 = 0 then (some (.inl (1, x1, x2, (x3 + 1)))) else (some (.inr 0))) else (some (.inl (1, x1, x2, (x3 + 1)))))
noncomputable def X7_areOthersGood_s (σ : gS) (a : Nat × Int32 × Int32 × Int32) : Option ((Nat × Int32 × Int32 × Int32) ⊕ (Int32)) :=
  if a.1 = 0 then X7_areOthersGood_k0 σ a.2.1 a.2.2.1 else if a.1 = 1 then X7_areOthersGood_k1 σ a.2.1 a.2.2.1 a.2.2.2 else none
noncomputable def X7_areOthersGood (σ : gS) (x1 : Int32) : Option (Int32) :=
  gr (X7_areOthersGood_s σ) (0, x1, 0, 0)
set_option maxHeartbeats 4000000 in
set_option maxRecDepth 100000 in
theorem l_X7_areOthersGood {p : Program} {e : Env} {s : State} {m : MethodId} {args : Array Value} {below : List Frame} {meth : Method} {c : Code} (l : Launch) (D : va_G) (y : ClassId × ClassId × ClassId) (ad : Nat → Nat) (σ : gS) (sz : Nat) (hC : g_C p s m args c cX7_areOthersGood 4 RX7 D y) (hr : meth.sig.returnType = (some .boolean)) (hlk : meth.locks = false) (hsz : s.heap.size = sz) {r0 : Int32} : ∀ a : Nat × Int32 × Int32 × Int32, gr (X7_areOthersGood_s σ) a = some r0 → ∀ (H : Heap) (locs : List Loc) (ls : Array Slot), g_W (g_A ad sz) s.heap D y ad [] σ H locs → (a.1 = 0 → lv_has ls 4 [(0, .ref (ad 132)), (1, .int a.2.1), (2, .int a.2.2.1)] → W p l e ({ frames := 5, cells := 0, slots := 0, locals := 108 }) s m args below meth c H locs 0 0 (MQ below (g_Qi D y ad σ sz r0) args s 0 0 (g_A ad sz)) (F0 m 2 ls [])) ∧ (a.1 = 1 → lv_has ls 4 [(0, .ref (ad 132)), (1, .int a.2.1), (2, .int a.2.2.1), (3, .int a.2.2.2)] → W p l e ({ frames := 5, cells := 0, slots := 0, locals := 108 }) s m args below meth c H locs 0 0 (MQ below (g_Qi D y ad σ sz r0) args s 0 0 (g_A ad sz)) (F0 m 37 ls [])) := by
  have hx := hC.1
  have hcd := hC.2.1
  refine gr_all (fun a o ho hret hjmp => ?_)
  obtain ⟨lb, y0, y1, y2⟩ := a
  intro H locs ls hW
  refine ⟨?_, ?_⟩
  · intro hlb hl
    have hlb : lb = 0 := hlb
    subst hlb
    have ho : X7_areOthersGood_k0 σ y0 y1 = some o := ho
    unfold X7_areOthersGood_k0 at ho
    have hl : lv_has ls 4 [(0, .ref (ad 132)), (1, .int y0), (2, .int y1)] := hl
    have hW : g_W (g_A ad sz) s.heap D y ad [] σ H locs := hW
    refine lv_iload_n hx hcd dX7_areOthersGood_2 rfl (lv_at hl 2 rfl) ?_
    refine lv_bipush (v := 20) hx hcd dX7_areOthersGood_3 (by decide) ?_
    refine lv_icmp_ge (tgt := 74) hx hcd dX7_areOthersGood_5 (by decide) (fun c1 => ?_) (fun c1 => ?_)
    · have ho := gif_p ho c1
      refine lv_iconst (v := 1) hx hcd dX7_areOthersGood_74 (by decide) ?_
      obtain rfl := hret _ (Option.some.inj ho).symm
      exact g_zret (r := 1) hC hr hlk hsz hW (by decide) dX7_areOthersGood_75
    · have ho := gif_n ho c1
      refine lv_aload_n hx hcd dX7_areOthersGood_8 rfl (lv_at hl 0 rfl) ?_
      refine lv_iload_n hx hcd dX7_areOthersGood_9 rfl (lv_at hl 2 rfl) ?_
      obtain ⟨r3, h2, ho⟩ := gb_some ho
      refine g_calli hW (g_runV (As := [.int y1]) (rest := []) (i := 132) hC hW (c_X7_isOn l D y ad y1 _ _ h2) ok_X7_97 ⟨rfl, rfl, Nat.le_of_ble_eq_true rfl, Nat.le_of_ble_eq_true rfl⟩ (by decide) rfl rfl rfl rfl hl.1 rfl (Nat.le_of_ble_eq_true rfl) dX7_areOthersGood_10 ⟨Nat.zero_le _, Nat.zero_le _⟩) (fun H locs hW => ?_)
      refine lv_if_eq (tgt := 68) hx hcd dX7_areOthersGood_13 (by decide) (fun c4 => ?_) (fun c4 => ?_)
      · have ho := gif_p ho c4
        refine lv_iinc (v := y1 + 1) (lv' := [(2, .int (y1 + 1)), (0, .ref (ad 132)), (1, .int y0)]) hx hcd dX7_areOthersGood_68 hl (k := 2) rfl rfl (by decide) rfl (fun ls hl => ?_)
        refine lv_goto (tgt := 2) hx hcd dX7_areOthersGood_71 (by decide) ?_
        exact (hjmp _ (Option.some.inj ho).symm _ _ _ hW).1 rfl (lv_sub hl [1, 2, 0] rfl)
      · have ho := gif_n ho c4
        refine lv_aload_n hx hcd dX7_areOthersGood_16 rfl (lv_at hl 0 rfl) ?_
        refine lv_iload_n hx hcd dX7_areOthersGood_17 rfl (lv_at hl 2 rfl) ?_
        refine lv_iload_n hx hcd dX7_areOthersGood_18 rfl (lv_at hl 1 rfl) ?_
        obtain ⟨r6, h5, ho⟩ := gb_some ho
        refine g_calli hW (g_runV (As := [.int y1, .int y0]) (rest := []) (i := 132) hC hW (c_X7_isMoved l D y ad y1 y0 _ _ h5) ok_X7_192 ⟨rfl, rfl, Nat.le_of_ble_eq_true rfl, Nat.le_of_ble_eq_true rfl⟩ (by decide) rfl rfl rfl rfl hl.1 rfl (Nat.le_of_ble_eq_true rfl) dX7_areOthersGood_19 ⟨Nat.zero_le _, Nat.zero_le _⟩) (fun H locs hW => ?_)
        refine lv_if_ne (tgt := 68) hx hcd dX7_areOthersGood_22 (by decide) (fun c7 => ?_) (fun c7 => ?_)
        · have ho := gif_n ho c7
          refine lv_iinc (v := y1 + 1) (lv' := [(2, .int (y1 + 1)), (0, .ref (ad 132)), (1, .int y0)]) hx hcd dX7_areOthersGood_68 hl (k := 2) rfl rfl (by decide) rfl (fun ls hl => ?_)
          refine lv_goto (tgt := 2) hx hcd dX7_areOthersGood_71 (by decide) ?_
          exact (hjmp _ (Option.some.inj ho).symm _ _ _ hW).1 rfl (lv_sub hl [1, 2, 0] rfl)
        · have ho := gif_p ho c7
          refine lv_aload_n hx hcd dX7_areOthersGood_25 rfl (lv_at hl 0 rfl) ?_
          refine lv_iload_n hx hcd dX7_areOthersGood_26 rfl (lv_at hl 2 rfl) ?_
          obtain ⟨r9, h8, ho⟩ := gb_some ho
          refine g_calli hW (g_runV (As := [.int y1]) (rest := []) (i := 132) hC hW (c_X7_isHindered l D y ad y1 _ _ h8) ok_X7_125 ⟨rfl, rfl, Nat.le_of_ble_eq_true rfl, Nat.le_of_ble_eq_true rfl⟩ (by decide) rfl rfl rfl rfl hl.1 rfl (Nat.le_of_ble_eq_true rfl) dX7_areOthersGood_27 ⟨Nat.zero_le _, Nat.zero_le _⟩) (fun H locs hW => ?_)
          refine lv_if_eq (tgt := 35) hx hcd dX7_areOthersGood_30 (by decide) (fun c10 => ?_) (fun c10 => ?_)
          · have ho := gif_p ho c10
            refine lv_iconst (v := 0) hx hcd dX7_areOthersGood_35 (by decide) ?_
            refine lv_istore_n (lv' := [(3, .int 0), (0, .ref (ad 132)), (1, .int y0), (2, .int y1)]) hx hcd dX7_areOthersGood_36 rfl hl (by decide) rfl (fun ls hl => ?_)
            exact (hjmp _ (Option.some.inj ho).symm _ _ _ hW).2 rfl (lv_sub hl [1, 2, 3, 0] rfl)
          · have ho := gif_n ho c10
            refine lv_iconst (v := 0) hx hcd dX7_areOthersGood_33 (by decide) ?_
            obtain rfl := hret _ (Option.some.inj ho).symm
            exact g_zret (r := 0) hC hr hlk hsz hW (by decide) dX7_areOthersGood_34
  · intro hlb hl
    have hlb : lb = 1 := hlb
    subst hlb
    have ho : X7_areOthersGood_k1 σ y0 y1 y2 = some o := ho
    unfold X7_areOthersGood_k1 at ho
    have hl : lv_has ls 4 [(0, .ref (ad 132)), (1, .int y0), (2, .int y1), (3, .int y2)] := hl
    have hW : g_W (g_A ad sz) s.heap D y ad [] σ H locs := hW
    refine lv_iload_n hx hcd dX7_areOthersGood_37 rfl (lv_at hl 3 rfl) ?_
    refine lv_iload_n hx hcd dX7_areOthersGood_38 rfl (lv_at hl 2 rfl) ?_
    refine lv_icmp_ge (tgt := 68) hx hcd dX7_areOthersGood_39 (by decide) (fun c11 => ?_) (fun c11 => ?_)
    · have ho := gif_p ho c11
      refine lv_iinc (v := y1 + 1) (lv' := [(2, .int (y1 + 1)), (0, .ref (ad 132)), (1, .int y0), (3, .int y2)]) hx hcd dX7_areOthersGood_68 hl (k := 2) rfl rfl (by decide) rfl (fun ls hl => ?_)
      refine lv_goto (tgt := 2) hx hcd dX7_areOthersGood_71 (by decide) ?_
      exact (hjmp _ (Option.some.inj ho).symm _ _ _ hW).1 rfl (lv_sub hl [1, 2, 0] rfl)
    · have ho := gif_n ho c11
      refine lv_aload_n hx hcd dX7_areOthersGood_42 rfl (lv_at hl 0 rfl) ?_
      refine lv_iload_n hx hcd dX7_areOthersGood_43 rfl (lv_at hl 3 rfl) ?_
      refine lv_iload_n hx hcd dX7_areOthersGood_44 rfl (lv_at hl 1 rfl) ?_
      obtain ⟨r13, h12, ho⟩ := gb_some ho
      refine g_calli hW (g_runV (As := [.int y2, .int y0]) (rest := []) (i := 132) hC hW (c_X7_isMoved l D y ad y2 y0 _ _ h12) ok_X7_192 ⟨rfl, rfl, Nat.le_of_ble_eq_true rfl, Nat.le_of_ble_eq_true rfl⟩ (by decide) rfl rfl rfl rfl hl.1 rfl (Nat.le_of_ble_eq_true rfl) dX7_areOthersGood_45 ⟨Nat.zero_le _, Nat.zero_le _⟩) (fun H locs hW => ?_)
      refine lv_if_ne (tgt := 62) hx hcd dX7_areOthersGood_48 (by decide) (fun c14 => ?_) (fun c14 => ?_)
      · have ho := gif_n ho c14
        refine lv_iinc (v := y2 + 1) (lv' := [(3, .int (y2 + 1)), (0, .ref (ad 132)), (1, .int y0), (2, .int y1)]) hx hcd dX7_areOthersGood_62 hl (k := 3) rfl rfl (by decide) rfl (fun ls hl => ?_)
        refine lv_goto (tgt := 37) hx hcd dX7_areOthersGood_65 (by decide) ?_
        exact (hjmp _ (Option.some.inj ho).symm _ _ _ hW).2 rfl (lv_sub hl [1, 2, 3, 0] rfl)
      · have ho := gif_p ho c14
        refine lv_aload_n hx hcd dX7_areOthersGood_51 rfl (lv_at hl 0 rfl) ?_
        refine lv_iload_n hx hcd dX7_areOthersGood_52 rfl (lv_at hl 2 rfl) ?_
        refine lv_iload_n hx hcd dX7_areOthersGood_53 rfl (lv_at hl 3 rfl) ?_
        obtain ⟨r16, h15, ho⟩ := gb_some ho
        refine g_calli hW (g_runV (As := [.int y1, .int y2]) (rest := []) (i := 132) hC hW (c_X7_areInConflict l D y ad y1 y2 _ _ h15) ok_X7_109 ⟨rfl, rfl, Nat.le_of_ble_eq_true rfl, Nat.le_of_ble_eq_true rfl⟩ (by decide) rfl rfl rfl rfl hl.1 rfl (Nat.le_of_ble_eq_true rfl) dX7_areOthersGood_54 ⟨Nat.zero_le _, Nat.zero_le _⟩) (fun H locs hW => ?_)
        refine lv_if_eq (tgt := 62) hx hcd dX7_areOthersGood_57 (by decide) (fun c17 => ?_) (fun c17 => ?_)
        · have ho := gif_p ho c17
          refine lv_iinc (v := y2 + 1) (lv' := [(3, .int (y2 + 1)), (0, .ref (ad 132)), (1, .int y0), (2, .int y1)]) hx hcd dX7_areOthersGood_62 hl (k := 3) rfl rfl (by decide) rfl (fun ls hl => ?_)
          refine lv_goto (tgt := 37) hx hcd dX7_areOthersGood_65 (by decide) ?_
          exact (hjmp _ (Option.some.inj ho).symm _ _ _ hW).2 rfl (lv_sub hl [1, 2, 3, 0] rfl)
        · have ho := gif_n ho c17
          refine lv_iconst (v := 0) hx hcd dX7_areOthersGood_60 (by decide) ?_
          obtain rfl := hret _ (Option.some.inj ho).symm
          exact g_zret (r := 0) hC hr hlk hsz hW (by decide) dX7_areOthersGood_61
set_option maxHeartbeats 4000000 in
set_option maxRecDepth 100000 in
theorem c_X7_areOthersGood (l : Launch) (D : va_G) (y : ClassId × ClassId × ClassId) (ad : Nat → Nat) (x1 : Int32) (σ : gS) (sz : Nat) {q : Int32} (h : X7_areOthersGood σ x1 = some q) : Met l yX7_areOthersGood (Cond.code yX7_areOthersGood cX7_areOthersGood 4 (some .boolean) :: gl) ({ frames := 5, cells := 0, slots := 0, locals := 108 }) (g_Pc D y ad σ sz [.ref (ad 132), .int x1]) (g_Qi D y ad σ sz q) 0 0 (g_A ad sz) := by
  have ho := h
  unfold X7_areOthersGood at ho
  refine g_start (by decide) (Nat.le_of_ble_eq_true rfl) (fun p e s m below meth c ls hC hr hlk hsz hW hl => ?_)
  have hx := hC.1
  have hcd := hC.2.1
  have hl : lv_has ls 4 [(0, .ref (ad 132)), (1, .int x1)] := hl
  refine lv_iconst (v := 0) hx hcd dX7_areOthersGood_0 (by decide) ?_
  refine lv_istore_n (lv' := [(2, .int 0), (0, .ref (ad 132)), (1, .int x1)]) hx hcd dX7_areOthersGood_1 rfl hl (by decide) rfl (fun ls hl => ?_)
  exact (l_X7_areOthersGood l D y ad σ sz hC hr hlk hsz _ ho _ _ _ hW).1 rfl (lv_sub hl [1, 2, 0] rfl)
noncomputable def X7_areMovedGood_k0 (σ : gS) (x1 : Int32) (x2 : Int32) : Option ((Int32 × Int32) ⊕ (Int32)) :=
  if x1 ≤ x2 then (some (.inr 1)) else (gd (ib x2 3) <| (X7_isHindered σ (σ 138 x2.toNatClampNeg)).bind fun r4 => if r4 = 0 then ((X7_conflictsOf σ (σ 138 x2.toNatClampNeg)).bind fun r7 => if r7 = 0 then (some (.inl (x1, (x2 + 1)))) else (some (.inr 0))) else (some (.inr 0)))
noncomputable def X7_areMovedGood_s (σ : gS) (a : Int32 × Int32) : Option ((Int32 × Int32) ⊕ (Int32)) :=
  X7_areMovedGood_k0 σ a.1 a.2
noncomputable def X7_areMovedGood (σ : gS) (x1 : Int32) : Option (Int32) :=
  gr (X7_areMovedGood_s σ) (x1, 0)
set_option maxHeartbeats 4000000 in
set_option maxRecDepth 100000 in
theorem l_X7_areMovedGood {p : Program} {e : Env} {s : State} {m : MethodId} {args : Array Value} {below : List Frame} {meth : Method} {c : Code} (l : Launch) (D : va_G) (y : ClassId × ClassId × ClassId) (ad : Nat → Nat) (σ : gS) (sz : Nat) (hC : g_C p s m args c cX7_areMovedGood 3 RX7 D y) (hr : meth.sig.returnType = (some .boolean)) (hlk : meth.locks = false) (hsz : s.heap.size = sz) {r0 : Int32} : ∀ a : Int32 × Int32, gr (X7_areMovedGood_s σ) a = some r0 → ∀ (H : Heap) (locs : List Loc) (ls : Array Slot), g_W (g_A ad sz) s.heap D y ad [] σ H locs → lv_has ls 3 [(0, .ref (ad 132)), (1, .int a.1), (2, .int a.2)] → W p l e ({ frames := 6, cells := 0, slots := 0, locals := 131 }) s m args below meth c H locs 0 0 (MQ below (g_Qi D y ad σ sz r0) args s 0 0 (g_A ad sz)) (F0 m 2 ls []) := by
  have hx := hC.1
  have hcd := hC.2.1
  refine gr_all (fun a o ho hret hjmp => ?_)
  obtain ⟨x1, x2⟩ := a
  intro H locs ls hW hl
  have ho : X7_areMovedGood_k0 σ x1 x2 = some o := ho
  unfold X7_areMovedGood_k0 at ho
  refine lv_iload_n hx hcd dX7_areMovedGood_2 rfl (lv_at hl 2 rfl) ?_
  refine lv_iload_n hx hcd dX7_areMovedGood_3 rfl (lv_at hl 1 rfl) ?_
  refine lv_icmp_ge (tgt := 41) hx hcd dX7_areMovedGood_4 (by decide) (fun c1 => ?_) (fun c1 => ?_)
  · have ho := gif_p ho c1
    refine lv_iconst (v := 1) hx hcd dX7_areMovedGood_41 (by decide) ?_
    obtain rfl := hret _ (Option.some.inj ho).symm
    exact g_zret (r := 1) hC hr hlk hsz hW (by decide) dX7_areMovedGood_42
  · have ho := gif_n ho c1
    refine lv_aload_n hx hcd dX7_areMovedGood_7 rfl (lv_at hl 0 rfl) ?_
    refine lv_aload_n hx hcd dX7_areMovedGood_8 rfl (lv_at hl 0 rfl) ?_
    refine g_getr hC hW (C := RX7) (T := TX7) (N := 19) (ci := 9) (k := 9) (index := 25) (i := 132) (r := 138) inGX7 rfl (by decide) fl_X7_25 (by decide) rfl rfl dX7_areMovedGood_9 ?_
    refine lv_iload_n hx hcd dX7_areMovedGood_12 rfl (lv_at hl 2 rfl) ?_
    obtain ⟨i2, ho⟩ := gd_some ho
    refine g_iald hC hW (i := 138) (by decide) rfl i2 dX7_areMovedGood_13 ?_
    obtain ⟨r4, h3, ho⟩ := gb_some ho
    refine g_calli hW (g_runV (As := [.int (σ 138 x2.toNatClampNeg)]) (rest := []) (i := 132) hC hW (c_X7_isHindered l D y ad (σ 138 x2.toNatClampNeg) _ _ h3) ok_X7_125 ⟨rfl, rfl, Nat.le_of_ble_eq_true rfl, Nat.le_of_ble_eq_true rfl⟩ (by decide) rfl rfl rfl rfl hl.1 rfl (Nat.le_of_ble_eq_true rfl) dX7_areMovedGood_14 ⟨Nat.zero_le _, Nat.zero_le _⟩) (fun H locs hW => ?_)
    refine lv_if_ne (tgt := 33) hx hcd dX7_areMovedGood_17 (by decide) (fun c5 => ?_) (fun c5 => ?_)
    · have ho := gif_n ho c5
      refine lv_iconst (v := 0) hx hcd dX7_areMovedGood_33 (by decide) ?_
      obtain rfl := hret _ (Option.some.inj ho).symm
      exact g_zret (r := 0) hC hr hlk hsz hW (by decide) dX7_areMovedGood_34
    · have ho := gif_p ho c5
      refine lv_aload_n hx hcd dX7_areMovedGood_20 rfl (lv_at hl 0 rfl) ?_
      refine lv_aload_n hx hcd dX7_areMovedGood_21 rfl (lv_at hl 0 rfl) ?_
      refine g_getr hC hW (C := RX7) (T := TX7) (N := 19) (ci := 9) (k := 9) (index := 25) (i := 132) (r := 138) inGX7 rfl (by decide) fl_X7_25 (by decide) rfl rfl dX7_areMovedGood_22 ?_
      refine lv_iload_n hx hcd dX7_areMovedGood_25 rfl (lv_at hl 2 rfl) ?_
      refine g_iald hC hW (i := 138) (by decide) rfl i2 dX7_areMovedGood_26 ?_
      obtain ⟨r7, h6, ho⟩ := gb_some ho
      refine g_calli hW (g_runV (As := [.int (σ 138 x2.toNatClampNeg)]) (rest := []) (i := 132) hC hW (c_X7_conflictsOf l D y ad (σ 138 x2.toNatClampNeg) _ _ h6) ok_X7_128 ⟨rfl, rfl, Nat.le_of_ble_eq_true rfl, Nat.le_of_ble_eq_true rfl⟩ (by decide) rfl rfl rfl rfl hl.1 rfl (Nat.le_of_ble_eq_true rfl) dX7_areMovedGood_27 ⟨Nat.zero_le _, Nat.zero_le _⟩) (fun H locs hW => ?_)
      refine lv_if_eq (tgt := 35) hx hcd dX7_areMovedGood_30 (by decide) (fun c8 => ?_) (fun c8 => ?_)
      · have ho := gif_p ho c8
        refine lv_iinc (v := x2 + 1) (lv' := [(2, .int (x2 + 1)), (0, .ref (ad 132)), (1, .int x1)]) hx hcd dX7_areMovedGood_35 hl (k := 2) rfl rfl (by decide) rfl (fun ls hl => ?_)
        refine lv_goto (tgt := 2) hx hcd dX7_areMovedGood_38 (by decide) ?_
        exact hjmp _ (Option.some.inj ho).symm _ _ _ hW (lv_sub hl [1, 2, 0] rfl)
      · have ho := gif_n ho c8
        refine lv_iconst (v := 0) hx hcd dX7_areMovedGood_33 (by decide) ?_
        obtain rfl := hret _ (Option.some.inj ho).symm
        exact g_zret (r := 0) hC hr hlk hsz hW (by decide) dX7_areMovedGood_34
set_option maxHeartbeats 4000000 in
set_option maxRecDepth 100000 in
theorem c_X7_areMovedGood (l : Launch) (D : va_G) (y : ClassId × ClassId × ClassId) (ad : Nat → Nat) (x1 : Int32) (σ : gS) (sz : Nat) {q : Int32} (h : X7_areMovedGood σ x1 = some q) : Met l yX7_areMovedGood (Cond.code yX7_areMovedGood cX7_areMovedGood 3 (some .boolean) :: gl) ({ frames := 6, cells := 0, slots := 0, locals := 131 }) (g_Pc D y ad σ sz [.ref (ad 132), .int x1]) (g_Qi D y ad σ sz q) 0 0 (g_A ad sz) := by
  have ho := h
  unfold X7_areMovedGood at ho
  refine g_start (by decide) (Nat.le_of_ble_eq_true rfl) (fun p e s m below meth c ls hC hr hlk hsz hW hl => ?_)
  have hx := hC.1
  have hcd := hC.2.1
  have hl : lv_has ls 3 [(0, .ref (ad 132)), (1, .int x1)] := hl
  refine lv_iconst (v := 0) hx hcd dX7_areMovedGood_0 (by decide) ?_
  refine lv_istore_n (lv' := [(2, .int 0), (0, .ref (ad 132)), (1, .int x1)]) hx hcd dX7_areMovedGood_1 rfl hl (by decide) rfl (fun ls hl => ?_)
  exact l_X7_areMovedGood l D y ad σ sz hC hr hlk hsz _ ho _ _ _ hW (lv_sub hl [1, 2, 0] rfl)
noncomputable def X7_fits_k0 (rc : gS → Int32 → Int32 → Option (Int32 × gS)) (σ : gS) (x1 : Int32) (x2 : Int32) (x3 : Int32) (x4 : Int32) : Option ((Int32 × Int32 × Int32 × Int32 × gS) ⊕ (Int32 × gS)) :=
  if (σ 133 (0 : Int32).toNatClampNeg) ≤ x4 then (gd (ib x1 3) <| (X7_put σ (σ 138 x1.toNatClampNeg) x3).bind fun σ11 => some (.inr (0, σ11))) else (if x4 = x3 then (some (.inl (x1, x2, x3, (x4 + 1), σ))) else (gd (ib x1 3) <| (X7_put σ (σ 138 x1.toNatClampNeg) x4).bind fun σ15 => lt_ (g_up σ15 139 x1.toNatClampNeg x4) fun σ16 => (rc σ16 (x1 + (1 : Int32)) x2).bind fun q18 => if q18.1 = 0 then (some (.inl (x1, x2, x3, (x4 + 1), q18.2))) else ((X7_put q18.2 (q18.2 138 x1.toNatClampNeg) x3).bind fun σ21 => some (.inr (1, σ21)))))
noncomputable def X7_fits_s (rc : gS → Int32 → Int32 → Option (Int32 × gS)) (a : Int32 × Int32 × Int32 × Int32 × gS) : Option ((Int32 × Int32 × Int32 × Int32 × gS) ⊕ (Int32 × gS)) :=
  X7_fits_k0 rc a.2.2.2.2 a.1 a.2.1 a.2.2.1 a.2.2.2.1
noncomputable def X7_fits_e (rc : gS → Int32 → Int32 → Option (Int32 × gS)) (σ : gS) (x1 : Int32) (x2 : Int32) : Option (Int32 × gS) :=
  if x1 = x2 then ((X7_areMovedGood σ x2).bind fun r6 => gd (bz r6) <| some (r6, σ)) else (gd (ib x1 3) <| (X7_on σ (σ 138 x1.toNatClampNeg)).bind fun r4 => gr (X7_fits_s rc) (x1, x2, r4, 0, σ))
noncomputable def X7_fits : Nat → gS → Int32 → Int32 → Option (Int32 × gS)
  | 0 => fun _ _ _ => none
  | d + 1 => X7_fits_e (X7_fits d)
set_option maxHeartbeats 4000000 in
set_option maxRecDepth 100000 in
theorem l_X7_fits {p : Program} {e : Env} {s : State} {m : MethodId} {args : Array Value} {below : List Frame} {meth : Method} {c : Code} (l : Launch) (d : Nat) (D : va_G) (y : ClassId × ClassId × ClassId) (ad : Nat → Nat) (sz : Nat) (hC : g_C p s m args c cX7_fits 5 RX7 D y) (hr : meth.sig.returnType = (some .boolean)) (hlk : meth.locks = false) (hsz : s.heap.size = sz) (hrec : ∀ (D : va_G) (y : ClassId × ClassId × ClassId) (ad : Nat → Nat) (x1 : Int32) (x2 : Int32) (σ : gS) (sz : Nat) {q : Int32 × gS}, X7_fits d σ x1 x2 = some q → Met l yX7_fits (Cond.code yX7_fits cX7_fits 5 (some .boolean) :: gl) ({ frames := 7 + d, cells := 0, slots := 0, locals := 153 + 24 * d }) (g_Pc D y ad σ sz [.ref (ad 132), .int x1, .int x2]) (g_Qi D y ad q.2 sz q.1) 0 0 (g_A ad sz)) {r0 : Int32 × gS} : ∀ a : Int32 × Int32 × Int32 × Int32 × gS, gr (X7_fits_s (X7_fits d)) a = some r0 → ∀ (H : Heap) (locs : List Loc) (ls : Array Slot), g_W (g_A ad sz) s.heap D y ad [] a.2.2.2.2 H locs → lv_has ls 5 [(0, .ref (ad 132)), (1, .int a.1), (2, .int a.2.1), (3, .int a.2.2.1), (4, .int a.2.2.2.1)] → W p l e ({ frames := 7 + (d + 1), cells := 0, slots := 0, locals := 153 + 24 * (d + 1) }) s m args below meth c H locs 0 0 (MQ below (g_Qi D y ad r0.2 sz r0.1) args s 0 0 (g_A ad sz)) (F0 m 25 ls []) := by
  have hx := hC.1
  have hcd := hC.2.1
  refine gr_all (fun a o ho hret hjmp => ?_)
  obtain ⟨x1, x2, x3, x4, σ⟩ := a
  intro H locs ls hW hl
  have ho : X7_fits_k0 (X7_fits d) σ x1 x2 x3 x4 = some o := ho
  unfold X7_fits_k0 at ho
  refine lv_iload hx hcd dX7_fits_25 (lv_at hl 4 rfl) ?_
  refine lv_aload_n hx hcd dX7_fits_27 rfl (lv_at hl 0 rfl) ?_
  refine g_getr hC hW (C := RX7) (T := TX7) (N := 19) (ci := 9) (k := 0) (index := 9) (i := 132) (r := 133) inGX7 rfl (by decide) fl_X7_9 (by decide) rfl rfl dX7_fits_28 ?_
  refine lv_iconst (v := 0) hx hcd dX7_fits_31 (by decide) ?_
  refine g_iald hC hW (i := 133) (by decide) rfl (by decide) dX7_fits_32 ?_
  refine lv_icmp_ge (tgt := 92) hx hcd dX7_fits_33 (by decide) (fun c8 => ?_) (fun c8 => ?_)
  · have ho := gif_p ho c8
    refine lv_aload_n hx hcd dX7_fits_92 rfl (lv_at hl 0 rfl) ?_
    refine lv_aload_n hx hcd dX7_fits_93 rfl (lv_at hl 0 rfl) ?_
    refine g_getr hC hW (C := RX7) (T := TX7) (N := 19) (ci := 9) (k := 9) (index := 25) (i := 132) (r := 138) inGX7 rfl (by decide) fl_X7_25 (by decide) rfl rfl dX7_fits_94 ?_
    refine lv_iload_n hx hcd dX7_fits_97 rfl (lv_at hl 1 rfl) ?_
    obtain ⟨i9, ho⟩ := gd_some ho
    refine g_iald hC hW (i := 138) (by decide) rfl i9 dX7_fits_98 ?_
    refine lv_iload_n hx hcd dX7_fits_99 rfl (lv_at hl 3 rfl) ?_
    obtain ⟨σ11, h10, ho⟩ := gb_some ho
    refine g_callv hW (g_runV (As := [.int (σ 138 x1.toNatClampNeg), .int x3]) (rest := []) (i := 132) hC hW (c_X7_put l D y ad (σ 138 x1.toNatClampNeg) x3 _ _ h10) ok_X7_141 ⟨rfl, rfl, by show 1 + 1 ≤ 7 + (d + 1); omega, by show 8 + (3 + 11) + (20) ≤ 153 + 24 * (d + 1); omega⟩ (by decide) rfl rfl rfl rfl hl.1 rfl (Nat.le_of_ble_eq_true rfl) dX7_fits_100 ⟨Nat.zero_le _, Nat.zero_le _⟩) (fun H locs hW => ?_)
    refine lv_iconst (v := 0) hx hcd dX7_fits_103 (by decide) ?_
    obtain rfl := hret _ (Option.some.inj ho).symm
    exact g_zret (r := 0) hC hr hlk hsz hW (by decide) dX7_fits_104
  · have ho := gif_n ho c8
    refine lv_iload hx hcd dX7_fits_36 (lv_at hl 4 rfl) ?_
    refine lv_iload_n hx hcd dX7_fits_38 rfl (lv_at hl 3 rfl) ?_
    refine lv_icmp_eq (tgt := 86) hx hcd dX7_fits_39 (by decide) (fun c12 => ?_) (fun c12 => ?_)
    · have ho := gif_p ho c12
      refine lv_iinc (v := x4 + 1) (lv' := [(4, .int (x4 + 1)), (0, .ref (ad 132)), (1, .int x1), (2, .int x2), (3, .int x3)]) hx hcd dX7_fits_86 hl (k := 4) rfl rfl (by decide) rfl (fun ls hl => ?_)
      refine lv_goto (tgt := 25) hx hcd dX7_fits_89 (by decide) ?_
      exact hjmp _ (Option.some.inj ho).symm _ _ _ hW (lv_sub hl [1, 2, 3, 4, 0] rfl)
    · have ho := gif_n ho c12
      refine lv_aload_n hx hcd dX7_fits_42 rfl (lv_at hl 0 rfl) ?_
      refine lv_aload_n hx hcd dX7_fits_43 rfl (lv_at hl 0 rfl) ?_
      refine g_getr hC hW (C := RX7) (T := TX7) (N := 19) (ci := 9) (k := 9) (index := 25) (i := 132) (r := 138) inGX7 rfl (by decide) fl_X7_25 (by decide) rfl rfl dX7_fits_44 ?_
      refine lv_iload_n hx hcd dX7_fits_47 rfl (lv_at hl 1 rfl) ?_
      obtain ⟨i13, ho⟩ := gd_some ho
      refine g_iald hC hW (i := 138) (by decide) rfl i13 dX7_fits_48 ?_
      refine lv_iload hx hcd dX7_fits_49 (lv_at hl 4 rfl) ?_
      obtain ⟨σ15, h14, ho⟩ := gb_some ho
      refine g_callv hW (g_runV (As := [.int (σ 138 x1.toNatClampNeg), .int x4]) (rest := []) (i := 132) hC hW (c_X7_put l D y ad (σ 138 x1.toNatClampNeg) x4 _ _ h14) ok_X7_141 ⟨rfl, rfl, by show 1 + 1 ≤ 7 + (d + 1); omega, by show 8 + (3 + 11) + (20) ≤ 153 + 24 * (d + 1); omega⟩ (by decide) rfl rfl rfl rfl hl.1 rfl (Nat.le_of_ble_eq_true rfl) dX7_fits_51 ⟨Nat.zero_le _, Nat.zero_le _⟩) (fun H locs hW => ?_)
      refine lv_aload_n hx hcd dX7_fits_54 rfl (lv_at hl 0 rfl) ?_
      refine g_getr hC hW (C := RX7) (T := TX7) (N := 19) (ci := 9) (k := 10) (index := 28) (i := 132) (r := 139) inGX7 rfl (by decide) fl_X7_28 (by decide) rfl rfl dX7_fits_55 ?_
      refine lv_iload_n hx hcd dX7_fits_58 rfl (lv_at hl 1 rfl) ?_
      refine lv_iload hx hcd dX7_fits_59 (lv_at hl 4 rfl) ?_
      obtain ⟨σ16, eσ16, ho⟩ := lt_ex ho
      refine g_iast hC hW (i := 139) (by decide) rfl i13 dX7_fits_61 (fun H locs hW => ?_)
      rw [← eσ16] at hW
      refine lv_aload_n hx hcd dX7_fits_62 rfl (lv_at hl 0 rfl) ?_
      refine lv_iload_n hx hcd dX7_fits_63 rfl (lv_at hl 1 rfl) ?_
      refine lv_iconst (v := 1) hx hcd dX7_fits_64 (by decide) ?_
      refine lv_iadd hx hcd dX7_fits_65 ?_
      refine lv_iload_n hx hcd dX7_fits_66 rfl (lv_at hl 2 rfl) ?_
      obtain ⟨q18, h17, ho⟩ := gb_some ho
      refine g_calli hW (g_runV (As := [.int (x1 + (1 : Int32)), .int x2]) (rest := []) (i := 132) hC hW (hrec D y ad (x1 + (1 : Int32)) x2 _ _ h17) ok_X7_198 ⟨rfl, rfl, by show 7 + d + 1 ≤ 7 + (d + 1); omega, by show 8 + (5 + 11) + (153 + 24 * d) ≤ 153 + 24 * (d + 1); omega⟩ (by decide) rfl rfl rfl rfl hl.1 rfl (Nat.le_of_ble_eq_true rfl) dX7_fits_67 ⟨Nat.zero_le _, Nat.zero_le _⟩) (fun H locs hW => ?_)
      refine lv_if_eq (tgt := 86) hx hcd dX7_fits_70 (by decide) (fun c19 => ?_) (fun c19 => ?_)
      · have ho := gif_p ho c19
        refine lv_iinc (v := x4 + 1) (lv' := [(4, .int (x4 + 1)), (0, .ref (ad 132)), (1, .int x1), (2, .int x2), (3, .int x3)]) hx hcd dX7_fits_86 hl (k := 4) rfl rfl (by decide) rfl (fun ls hl => ?_)
        refine lv_goto (tgt := 25) hx hcd dX7_fits_89 (by decide) ?_
        exact hjmp _ (Option.some.inj ho).symm _ _ _ hW (lv_sub hl [1, 2, 3, 4, 0] rfl)
      · have ho := gif_n ho c19
        refine lv_aload_n hx hcd dX7_fits_73 rfl (lv_at hl 0 rfl) ?_
        refine lv_aload_n hx hcd dX7_fits_74 rfl (lv_at hl 0 rfl) ?_
        refine g_getr hC hW (C := RX7) (T := TX7) (N := 19) (ci := 9) (k := 9) (index := 25) (i := 132) (r := 138) inGX7 rfl (by decide) fl_X7_25 (by decide) rfl rfl dX7_fits_75 ?_
        refine lv_iload_n hx hcd dX7_fits_78 rfl (lv_at hl 1 rfl) ?_
        refine g_iald hC hW (i := 138) (by decide) rfl i13 dX7_fits_79 ?_
        refine lv_iload_n hx hcd dX7_fits_80 rfl (lv_at hl 3 rfl) ?_
        obtain ⟨σ21, h20, ho⟩ := gb_some ho
        refine g_callv hW (g_runV (As := [.int (q18.2 138 x1.toNatClampNeg), .int x3]) (rest := []) (i := 132) hC hW (c_X7_put l D y ad (q18.2 138 x1.toNatClampNeg) x3 _ _ h20) ok_X7_141 ⟨rfl, rfl, by show 1 + 1 ≤ 7 + (d + 1); omega, by show 8 + (3 + 11) + (20) ≤ 153 + 24 * (d + 1); omega⟩ (by decide) rfl rfl rfl rfl hl.1 rfl (Nat.le_of_ble_eq_true rfl) dX7_fits_81 ⟨Nat.zero_le _, Nat.zero_le _⟩) (fun H locs hW => ?_)
        refine lv_iconst (v := 1) hx hcd dX7_fits_84 (by decide) ?_
        obtain rfl := hret _ (Option.some.inj ho).symm
        exact g_zret (r := 1) hC hr hlk hsz hW (by decide) dX7_fits_85
set_option maxHeartbeats 4000000 in
set_option maxRecDepth 100000 in
theorem c_X7_fits (l : Launch) : ∀ (d : Nat) (D : va_G) (y : ClassId × ClassId × ClassId) (ad : Nat → Nat) (x1 : Int32) (x2 : Int32) (σ : gS) (sz : Nat) {q : Int32 × gS}, X7_fits d σ x1 x2 = some q → Met l yX7_fits (Cond.code yX7_fits cX7_fits 5 (some .boolean) :: gl) ({ frames := 7 + d, cells := 0, slots := 0, locals := 153 + 24 * d }) (g_Pc D y ad σ sz [.ref (ad 132), .int x1, .int x2]) (g_Qi D y ad q.2 sz q.1) 0 0 (g_A ad sz) := by
  intro d
  induction d with
  | zero =>
    intro D y ad x1 x2 σ sz q h
    cases h
  | succ d hrec =>
    intro D y ad x1 x2 σ sz q h
    have ho : X7_fits_e (X7_fits d) σ x1 x2 = some q := h
    unfold X7_fits_e at ho
    refine g_start (by decide) (Nat.le_of_ble_eq_true rfl) (fun p e s m below meth c ls hC hr hlk hsz hW hl => ?_)
    have hx := hC.1
    have hcd := hC.2.1
    have hl : lv_has ls 5 [(0, .ref (ad 132)), (1, .int x1), (2, .int x2)] := hl
    refine lv_iload_n hx hcd dX7_fits_0 rfl (lv_at hl 1 rfl) ?_
    refine lv_iload_n hx hcd dX7_fits_1 rfl (lv_at hl 2 rfl) ?_
    refine lv_icmp_ne (tgt := 11) hx hcd dX7_fits_2 (by decide) (fun c1 => ?_) (fun c1 => ?_)
    · have ho := gif_n ho c1
      refine lv_aload_n hx hcd dX7_fits_11 rfl (lv_at hl 0 rfl) ?_
      refine lv_aload_n hx hcd dX7_fits_12 rfl (lv_at hl 0 rfl) ?_
      refine g_getr hC hW (C := RX7) (T := TX7) (N := 19) (ci := 9) (k := 9) (index := 25) (i := 132) (r := 138) inGX7 rfl (by decide) fl_X7_25 (by decide) rfl rfl dX7_fits_13 ?_
      refine lv_iload_n hx hcd dX7_fits_16 rfl (lv_at hl 1 rfl) ?_
      obtain ⟨i2, ho⟩ := gd_some ho
      refine g_iald hC hW (i := 138) (by decide) rfl i2 dX7_fits_17 ?_
      obtain ⟨r4, h3, ho⟩ := gb_some ho
      refine g_calli hW (g_runV (As := [.int (σ 138 x1.toNatClampNeg)]) (rest := []) (i := 132) hC hW (c_X7_on l D y ad (σ 138 x1.toNatClampNeg) _ _ h3) ok_X7_94 ⟨rfl, rfl, by show 1 + 1 ≤ 7 + (d + 1); omega, by show 8 + (2 + 11) + (20) ≤ 153 + 24 * (d + 1); omega⟩ (by decide) rfl rfl rfl rfl hl.1 rfl (Nat.le_of_ble_eq_true rfl) dX7_fits_18 ⟨Nat.zero_le _, Nat.zero_le _⟩) (fun H locs hW => ?_)
      refine lv_istore_n (lv' := [(3, .int r4), (0, .ref (ad 132)), (1, .int x1), (2, .int x2)]) hx hcd dX7_fits_21 rfl hl (by decide) rfl (fun ls hl => ?_)
      refine lv_iconst (v := 0) hx hcd dX7_fits_22 (by decide) ?_
      refine lv_istore (lv' := [(4, .int 0), (3, .int r4), (0, .ref (ad 132)), (1, .int x1), (2, .int x2)]) hx hcd dX7_fits_23 hl (by decide) rfl (fun ls hl => ?_)
      exact l_X7_fits l d D y ad sz hC hr hlk hsz hrec _ ho _ _ _ hW (lv_sub hl [2, 3, 4, 1, 0] rfl)
    · have ho := gif_p ho c1
      refine lv_aload_n hx hcd dX7_fits_5 rfl (lv_at hl 0 rfl) ?_
      refine lv_iload_n hx hcd dX7_fits_6 rfl (lv_at hl 2 rfl) ?_
      obtain ⟨r6, h5, ho⟩ := gb_some ho
      refine g_calli hW (g_runV (As := [.int x2]) (rest := []) (i := 132) hC hW (c_X7_areMovedGood l D y ad x2 _ _ h5) ok_X7_195 ⟨rfl, rfl, by show 6 + 1 ≤ 7 + (d + 1); omega, by show 8 + (3 + 11) + (131) ≤ 153 + 24 * (d + 1); omega⟩ (by decide) rfl rfl rfl rfl hl.1 rfl (Nat.le_of_ble_eq_true rfl) dX7_fits_7 ⟨Nat.zero_le _, Nat.zero_le _⟩) (fun H locs hW => ?_)
      obtain ⟨z7, ho⟩ := gd_some ho
      obtain rfl := Option.some.inj ho
      exact g_zret (r := r6) hC hr hlk hsz hW z7 dX7_fits_10
noncomputable def X7_finds_k0 (rc : gS → Int32 → Int32 → Int32 → Option (Int32 × gS)) (σ : gS) (x1 : Int32) (x2 : Int32) (x4 : Int32) : Option ((Int32 × Int32 × Int32 × gS) ⊕ (Int32 × gS)) :=
  if 20 ≤ x4 then (some (.inr (0, σ))) else ((X7_isOn σ x4).bind fun r10 => if r10 = 0 then (some (.inl (x1, x2, (x4 + 1), σ))) else (gd (ib x1 3) <| lt_ (g_up σ 138 x1.toNatClampNeg x4) fun σ13 => (rc σ13 (x1 + (1 : Int32)) x2 (x4 + (1 : Int32))).bind fun q15 => if q15.1 = 0 then (some (.inl (x1, x2, (x4 + 1), q15.2))) else (some (.inr (1, q15.2)))))
noncomputable def X7_finds_s (rc : gS → Int32 → Int32 → Int32 → Option (Int32 × gS)) (a : Int32 × Int32 × Int32 × gS) : Option ((Int32 × Int32 × Int32 × gS) ⊕ (Int32 × gS)) :=
  X7_finds_k0 rc a.2.2.2 a.1 a.2.1 a.2.2.1
noncomputable def X7_finds_e (rc : gS → Int32 → Int32 → Int32 → Option (Int32 × gS)) (σ : gS) (x1 : Int32) (x2 : Int32) (x3 : Int32) : Option (Int32 × gS) :=
  if x1 = x2 then ((X7_areOthersGood σ x2).bind fun r3 => if r3 = 0 then (some (0, σ)) else ((X7_fits 4 σ 0 x2).bind fun q6 => if q6.1 = 0 then (some (0, q6.2)) else (some (1, q6.2)))) else (gr (X7_finds_s rc) (x1, x2, x3, σ))
noncomputable def X7_finds : Nat → gS → Int32 → Int32 → Int32 → Option (Int32 × gS)
  | 0 => fun _ _ _ _ => none
  | d + 1 => X7_finds_e (X7_finds d)
set_option maxHeartbeats 4000000 in
set_option maxRecDepth 100000 in
theorem l_X7_finds {p : Program} {e : Env} {s : State} {m : MethodId} {args : Array Value} {below : List Frame} {meth : Method} {c : Code} (l : Launch) (d : Nat) (D : va_G) (y : ClassId × ClassId × ClassId) (ad : Nat → Nat) (sz : Nat) (hC : g_C p s m args c cX7_finds 5 RX7 D y) (hr : meth.sig.returnType = (some .boolean)) (hlk : meth.locks = false) (hsz : s.heap.size = sz) (hrec : ∀ (D : va_G) (y : ClassId × ClassId × ClassId) (ad : Nat → Nat) (x1 : Int32) (x2 : Int32) (x3 : Int32) (σ : gS) (sz : Nat) {q : Int32 × gS}, X7_finds d σ x1 x2 x3 = some q → Met l yX7_finds (Cond.code yX7_finds cX7_finds 5 (some .boolean) :: gl) ({ frames := 12 + d, cells := 0, slots := 0, locals := 273 + 24 * d }) (g_Pc D y ad σ sz [.ref (ad 132), .int x1, .int x2, .int x3]) (g_Qi D y ad q.2 sz q.1) 0 0 (g_A ad sz)) {r0 : Int32 × gS} : ∀ a : Int32 × Int32 × Int32 × gS, gr (X7_finds_s (X7_finds d)) a = some r0 → ∀ (H : Heap) (locs : List Loc) (ls : Array Slot), g_W (g_A ad sz) s.heap D y ad [] a.2.2.2 H locs → lv_has ls 5 [(0, .ref (ad 132)), (1, .int a.1), (2, .int a.2.1), (4, .int a.2.2.1)] → W p l e ({ frames := 12 + (d + 1), cells := 0, slots := 0, locals := 273 + 24 * (d + 1) }) s m args below meth c H locs 0 0 (MQ below (g_Qi D y ad r0.2 sz r0.1) args s 0 0 (g_A ad sz)) (F0 m 31 ls []) := by
  have hx := hC.1
  have hcd := hC.2.1
  refine gr_all (fun a o ho hret hjmp => ?_)
  obtain ⟨x1, x2, x4, σ⟩ := a
  intro H locs ls hW hl
  have ho : X7_finds_k0 (X7_finds d) σ x1 x2 x4 = some o := ho
  unfold X7_finds_k0 at ho
  refine lv_iload hx hcd dX7_finds_31 (lv_at hl 3 rfl) ?_
  refine lv_bipush (v := 20) hx hcd dX7_finds_33 (by decide) ?_
  refine lv_icmp_ge (tgt := 78) hx hcd dX7_finds_35 (by decide) (fun c8 => ?_) (fun c8 => ?_)
  · have ho := gif_p ho c8
    refine lv_iconst (v := 0) hx hcd dX7_finds_78 (by decide) ?_
    obtain rfl := hret _ (Option.some.inj ho).symm
    exact g_zret (r := 0) hC hr hlk hsz hW (by decide) dX7_finds_79
  · have ho := gif_n ho c8
    refine lv_aload_n hx hcd dX7_finds_38 rfl (lv_at hl 0 rfl) ?_
    refine lv_iload hx hcd dX7_finds_39 (lv_at hl 3 rfl) ?_
    obtain ⟨r10, h9, ho⟩ := gb_some ho
    refine g_calli hW (g_runV (As := [.int x4]) (rest := []) (i := 132) hC hW (c_X7_isOn l D y ad x4 _ _ h9) ok_X7_97 ⟨rfl, rfl, by show 3 + 1 ≤ 12 + (d + 1); omega, by show 8 + (2 + 11) + (64) ≤ 273 + 24 * (d + 1); omega⟩ (by decide) rfl rfl rfl rfl hl.1 rfl (Nat.le_of_ble_eq_true rfl) dX7_finds_41 ⟨Nat.zero_le _, Nat.zero_le _⟩) (fun H locs hW => ?_)
    refine lv_if_eq (tgt := 72) hx hcd dX7_finds_44 (by decide) (fun c11 => ?_) (fun c11 => ?_)
    · have ho := gif_p ho c11
      refine lv_iinc (v := x4 + 1) (lv' := [(4, .int (x4 + 1)), (0, .ref (ad 132)), (1, .int x1), (2, .int x2)]) hx hcd dX7_finds_72 hl (k := 3) rfl rfl (by decide) rfl (fun ls hl => ?_)
      refine lv_goto (tgt := 31) hx hcd dX7_finds_75 (by decide) ?_
      exact hjmp _ (Option.some.inj ho).symm _ _ _ hW (lv_sub hl [1, 2, 3, 0] rfl)
    · have ho := gif_n ho c11
      refine lv_aload_n hx hcd dX7_finds_47 rfl (lv_at hl 0 rfl) ?_
      refine g_getr hC hW (C := RX7) (T := TX7) (N := 19) (ci := 9) (k := 9) (index := 25) (i := 132) (r := 138) inGX7 rfl (by decide) fl_X7_25 (by decide) rfl rfl dX7_finds_48 ?_
      refine lv_iload_n hx hcd dX7_finds_51 rfl (lv_at hl 1 rfl) ?_
      refine lv_iload hx hcd dX7_finds_52 (lv_at hl 3 rfl) ?_
      obtain ⟨i12, ho⟩ := gd_some ho
      obtain ⟨σ13, eσ13, ho⟩ := lt_ex ho
      refine g_iast hC hW (i := 138) (by decide) rfl i12 dX7_finds_54 (fun H locs hW => ?_)
      rw [← eσ13] at hW
      refine lv_aload_n hx hcd dX7_finds_55 rfl (lv_at hl 0 rfl) ?_
      refine lv_iload_n hx hcd dX7_finds_56 rfl (lv_at hl 1 rfl) ?_
      refine lv_iconst (v := 1) hx hcd dX7_finds_57 (by decide) ?_
      refine lv_iadd hx hcd dX7_finds_58 ?_
      refine lv_iload_n hx hcd dX7_finds_59 rfl (lv_at hl 2 rfl) ?_
      refine lv_iload hx hcd dX7_finds_60 (lv_at hl 3 rfl) ?_
      refine lv_iconst (v := 1) hx hcd dX7_finds_62 (by decide) ?_
      refine lv_iadd hx hcd dX7_finds_63 ?_
      obtain ⟨q15, h14, ho⟩ := gb_some ho
      refine g_calli hW (g_runV (As := [.int (x1 + (1 : Int32)), .int x2, .int (x4 + (1 : Int32))]) (rest := []) (i := 132) hC hW (hrec D y ad (x1 + (1 : Int32)) x2 (x4 + (1 : Int32)) _ _ h14) ok_X7_204 ⟨rfl, rfl, by show 12 + d + 1 ≤ 12 + (d + 1); omega, by show 8 + (5 + 11) + (273 + 24 * d) ≤ 273 + 24 * (d + 1); omega⟩ (by decide) rfl rfl rfl rfl hl.1 rfl (Nat.le_of_ble_eq_true rfl) dX7_finds_64 ⟨Nat.zero_le _, Nat.zero_le _⟩) (fun H locs hW => ?_)
      refine lv_if_eq (tgt := 72) hx hcd dX7_finds_67 (by decide) (fun c16 => ?_) (fun c16 => ?_)
      · have ho := gif_p ho c16
        refine lv_iinc (v := x4 + 1) (lv' := [(4, .int (x4 + 1)), (0, .ref (ad 132)), (1, .int x1), (2, .int x2)]) hx hcd dX7_finds_72 hl (k := 3) rfl rfl (by decide) rfl (fun ls hl => ?_)
        refine lv_goto (tgt := 31) hx hcd dX7_finds_75 (by decide) ?_
        exact hjmp _ (Option.some.inj ho).symm _ _ _ hW (lv_sub hl [1, 2, 3, 0] rfl)
      · have ho := gif_n ho c16
        refine lv_iconst (v := 1) hx hcd dX7_finds_70 (by decide) ?_
        obtain rfl := hret _ (Option.some.inj ho).symm
        exact g_zret (r := 1) hC hr hlk hsz hW (by decide) dX7_finds_71
set_option maxHeartbeats 4000000 in
set_option maxRecDepth 100000 in
theorem c_X7_finds (l : Launch) : ∀ (d : Nat) (D : va_G) (y : ClassId × ClassId × ClassId) (ad : Nat → Nat) (x1 : Int32) (x2 : Int32) (x3 : Int32) (σ : gS) (sz : Nat) {q : Int32 × gS}, X7_finds d σ x1 x2 x3 = some q → Met l yX7_finds (Cond.code yX7_finds cX7_finds 5 (some .boolean) :: gl) ({ frames := 12 + d, cells := 0, slots := 0, locals := 273 + 24 * d }) (g_Pc D y ad σ sz [.ref (ad 132), .int x1, .int x2, .int x3]) (g_Qi D y ad q.2 sz q.1) 0 0 (g_A ad sz) := by
  intro d
  induction d with
  | zero =>
    intro D y ad x1 x2 x3 σ sz q h
    cases h
  | succ d hrec =>
    intro D y ad x1 x2 x3 σ sz q h
    have ho : X7_finds_e (X7_finds d) σ x1 x2 x3 = some q := h
    unfold X7_finds_e at ho
    refine g_start (by decide) (Nat.le_of_ble_eq_true rfl) (fun p e s m below meth c ls hC hr hlk hsz hW hl => ?_)
    have hx := hC.1
    have hcd := hC.2.1
    have hl : lv_has ls 5 [(0, .ref (ad 132)), (1, .int x1), (2, .int x2), (3, .int x3)] := hl
    refine lv_iload_n hx hcd dX7_finds_0 rfl (lv_at hl 1 rfl) ?_
    refine lv_iload_n hx hcd dX7_finds_1 rfl (lv_at hl 2 rfl) ?_
    refine lv_icmp_ne (tgt := 28) hx hcd dX7_finds_2 (by decide) (fun c1 => ?_) (fun c1 => ?_)
    · have ho := gif_n ho c1
      refine lv_iload_n hx hcd dX7_finds_28 rfl (lv_at hl 3 rfl) ?_
      refine lv_istore (lv' := [(4, .int x3), (0, .ref (ad 132)), (1, .int x1), (2, .int x2), (3, .int x3)]) hx hcd dX7_finds_29 hl (by decide) rfl (fun ls hl => ?_)
      exact l_X7_finds l d D y ad sz hC hr hlk hsz hrec _ ho _ _ _ hW (lv_sub hl [1, 2, 3, 0] rfl)
    · have ho := gif_p ho c1
      refine lv_aload_n hx hcd dX7_finds_5 rfl (lv_at hl 0 rfl) ?_
      refine lv_iload_n hx hcd dX7_finds_6 rfl (lv_at hl 2 rfl) ?_
      obtain ⟨r3, h2, ho⟩ := gb_some ho
      refine g_calli hW (g_runV (As := [.int x2]) (rest := []) (i := 132) hC hW (c_X7_areOthersGood l D y ad x2 _ _ h2) ok_X7_201 ⟨rfl, rfl, by show 5 + 1 ≤ 12 + (d + 1); omega, by show 8 + (4 + 11) + (108) ≤ 273 + 24 * (d + 1); omega⟩ (by decide) rfl rfl rfl rfl hl.1 rfl (Nat.le_of_ble_eq_true rfl) dX7_finds_7 ⟨Nat.zero_le _, Nat.zero_le _⟩) (fun H locs hW => ?_)
      refine lv_if_eq (tgt := 26) hx hcd dX7_finds_10 (by decide) (fun c4 => ?_) (fun c4 => ?_)
      · have ho := gif_p ho c4
        refine lv_iconst (v := 0) hx hcd dX7_finds_26 (by decide) ?_
        obtain rfl := Option.some.inj ho
        exact g_zret (r := 0) hC hr hlk hsz hW (by decide) dX7_finds_27
      · have ho := gif_n ho c4
        refine lv_aload_n hx hcd dX7_finds_13 rfl (lv_at hl 0 rfl) ?_
        refine lv_iconst (v := 0) hx hcd dX7_finds_14 (by decide) ?_
        refine lv_iload_n hx hcd dX7_finds_15 rfl (lv_at hl 2 rfl) ?_
        obtain ⟨q6, h5, ho⟩ := gb_some ho
        refine g_calli hW (g_runV (As := [.int 0, .int x2]) (rest := []) (i := 132) hC hW (c_X7_fits l 4 D y ad 0 x2 _ _ h5) ok_X7_198 ⟨rfl, rfl, by show 7 + 4 + 1 ≤ 12 + (d + 1); omega, by show 8 + (5 + 11) + (153 + 24 * 4) ≤ 273 + 24 * (d + 1); omega⟩ (by decide) rfl rfl rfl rfl hl.1 rfl (Nat.le_of_ble_eq_true rfl) dX7_finds_16 ⟨Nat.zero_le _, Nat.zero_le _⟩) (fun H locs hW => ?_)
        refine lv_if_eq (tgt := 26) hx hcd dX7_finds_19 (by decide) (fun c7 => ?_) (fun c7 => ?_)
        · have ho := gif_p ho c7
          refine lv_iconst (v := 0) hx hcd dX7_finds_26 (by decide) ?_
          obtain rfl := Option.some.inj ho
          exact g_zret (r := 0) hC hr hlk hsz hW (by decide) dX7_finds_27
        · have ho := gif_n ho c7
          refine lv_iconst (v := 1) hx hcd dX7_finds_22 (by decide) ?_
          refine lv_goto (tgt := 27) hx hcd dX7_finds_23 (by decide) ?_
          obtain rfl := Option.some.inj ho
          exact g_zret (r := 1) hC hr hlk hsz hW (by decide) dX7_finds_27
noncomputable def X7_findRepair_k0 (σ : gS) (x1 : Int32) : Option ((Int32 × gS) ⊕ (Int32 × gS)) :=
  if 3 < x1 then (some (.inr ((-1), σ))) else ((X7_finds 4 σ 0 x1 0).bind fun q3 => if q3.1 = 0 then (some (.inl ((x1 + 1), q3.2))) else (some (.inr (x1, q3.2))))
noncomputable def X7_findRepair_s (a : Int32 × gS) : Option ((Int32 × gS) ⊕ (Int32 × gS)) :=
  X7_findRepair_k0 a.2 a.1
noncomputable def X7_findRepair (σ : gS) : Option (Int32 × gS) :=
  gr (X7_findRepair_s) (0, σ)
set_option maxHeartbeats 4000000 in
set_option maxRecDepth 100000 in
theorem l_X7_findRepair {p : Program} {e : Env} {s : State} {m : MethodId} {args : Array Value} {below : List Frame} {meth : Method} {c : Code} (l : Launch) (D : va_G) (y : ClassId × ClassId × ClassId) (ad : Nat → Nat) (sz : Nat) (hC : g_C p s m args c cX7_findRepair 2 RX7 D y) (hr : meth.sig.returnType = (some .int)) (hlk : meth.locks = false) (hsz : s.heap.size = sz) {r0 : Int32 × gS} : ∀ a : Int32 × gS, gr (X7_findRepair_s) a = some r0 → ∀ (H : Heap) (locs : List Loc) (ls : Array Slot), g_W (g_A ad sz) s.heap D y ad [] a.2 H locs → lv_has ls 2 [(0, .ref (ad 132)), (1, .int a.1)] → W p l e ({ frames := 17, cells := 0, slots := 0, locals := 393 }) s m args below meth c H locs 0 0 (MQ below (g_Qi D y ad r0.2 sz r0.1) args s 0 0 (g_A ad sz)) (F0 m 2 ls []) := by
  have hx := hC.1
  have hcd := hC.2.1
  refine gr_all (fun a o ho hret hjmp => ?_)
  obtain ⟨x1, σ⟩ := a
  intro H locs ls hW hl
  have ho : X7_findRepair_k0 σ x1 = some o := ho
  unfold X7_findRepair_k0 at ho
  refine lv_iload_n hx hcd dX7_findRepair_2 rfl (lv_at hl 1 rfl) ?_
  refine lv_iconst (v := 3) hx hcd dX7_findRepair_3 (by decide) ?_
  refine lv_icmp_gt (tgt := 25) hx hcd dX7_findRepair_4 (by decide) (fun c1 => ?_) (fun c1 => ?_)
  · have ho := gif_p ho c1
    refine lv_iconst (v := (-1)) hx hcd dX7_findRepair_25 (by decide) ?_
    obtain rfl := hret _ (Option.some.inj ho).symm
    exact g_iret hC hr hlk hsz hW dX7_findRepair_26
  · have ho := gif_n ho c1
    refine lv_aload_n hx hcd dX7_findRepair_7 rfl (lv_at hl 0 rfl) ?_
    refine lv_iconst (v := 0) hx hcd dX7_findRepair_8 (by decide) ?_
    refine lv_iload_n hx hcd dX7_findRepair_9 rfl (lv_at hl 1 rfl) ?_
    refine lv_iconst (v := 0) hx hcd dX7_findRepair_10 (by decide) ?_
    obtain ⟨q3, h2, ho⟩ := gb_some ho
    refine g_calli hW (g_runV (As := [.int 0, .int x1, .int 0]) (rest := []) (i := 132) hC hW (c_X7_finds l 4 D y ad 0 x1 0 _ _ h2) ok_X7_204 ⟨rfl, rfl, Nat.le_of_ble_eq_true rfl, Nat.le_of_ble_eq_true rfl⟩ (by decide) rfl rfl rfl rfl hl.1 rfl (Nat.le_of_ble_eq_true rfl) dX7_findRepair_11 ⟨Nat.zero_le _, Nat.zero_le _⟩) (fun H locs hW => ?_)
    refine lv_if_eq (tgt := 19) hx hcd dX7_findRepair_14 (by decide) (fun c4 => ?_) (fun c4 => ?_)
    · have ho := gif_p ho c4
      refine lv_iinc (v := x1 + 1) (lv' := [(1, .int (x1 + 1)), (0, .ref (ad 132))]) hx hcd dX7_findRepair_19 hl (k := 1) rfl rfl (by decide) rfl (fun ls hl => ?_)
      refine lv_goto (tgt := 2) hx hcd dX7_findRepair_22 (by decide) ?_
      exact hjmp _ (Option.some.inj ho).symm _ _ _ hW (lv_sub hl [1, 0] rfl)
    · have ho := gif_n ho c4
      refine lv_iload_n hx hcd dX7_findRepair_17 rfl (lv_at hl 1 rfl) ?_
      obtain rfl := hret _ (Option.some.inj ho).symm
      exact g_iret hC hr hlk hsz hW dX7_findRepair_18
set_option maxHeartbeats 4000000 in
set_option maxRecDepth 100000 in
theorem c_X7_findRepair (l : Launch) (D : va_G) (y : ClassId × ClassId × ClassId) (ad : Nat → Nat) (σ : gS) (sz : Nat) {q : Int32 × gS} (h : X7_findRepair σ = some q) : Met l yX7_findRepair (Cond.code yX7_findRepair cX7_findRepair 2 (some .int) :: gl) ({ frames := 17, cells := 0, slots := 0, locals := 393 }) (g_Pc D y ad σ sz [.ref (ad 132)]) (g_Qi D y ad q.2 sz q.1) 0 0 (g_A ad sz) := by
  have ho := h
  unfold X7_findRepair at ho
  refine g_start (by decide) (Nat.le_of_ble_eq_true rfl) (fun p e s m below meth c ls hC hr hlk hsz hW hl => ?_)
  have hx := hC.1
  have hcd := hC.2.1
  have hl : lv_has ls 2 [(0, .ref (ad 132))] := hl
  refine lv_iconst (v := 0) hx hcd dX7_findRepair_0 (by decide) ?_
  refine lv_istore_n (lv' := [(1, .int 0), (0, .ref (ad 132))]) hx hcd dX7_findRepair_1 rfl hl (by decide) rfl (fun ls hl => ?_)
  exact l_X7_findRepair l D y ad sz hC hr hlk hsz _ ho _ _ _ hW (lv_sub hl [1, 0] rfl)
noncomputable def X7_leastMoves (σ : gS) : Option (Int32 × gS) :=
  (X7_findRepair σ).bind fun q2 => if 0 ≤ q2.1 then (lt_ (g_up q2.2 132 8 0) fun σ4 => if (σ4 132 8) ≤ 0 then (some (q2.1, σ4)) else (some (0, σ4))) else (lt_ (g_up q2.2 132 8 1) fun σ6 => if (σ6 132 8) ≤ 0 then (some (q2.1, σ6)) else (some (0, σ6)))
set_option maxHeartbeats 4000000 in
set_option maxRecDepth 100000 in
theorem c_X7_leastMoves (l : Launch) (D : va_G) (y : ClassId × ClassId × ClassId) (ad : Nat → Nat) (σ : gS) (sz : Nat) {q : Int32 × gS} (h : X7_leastMoves σ = some q) : Met l yX7_leastMoves (Cond.code yX7_leastMoves cX7_leastMoves 2 (some .int) :: gl) ({ frames := 18, cells := 0, slots := 0, locals := 414 }) (g_Pc D y ad σ sz [.ref (ad 132)]) (g_Qi D y ad q.2 sz q.1) 0 0 (g_A ad sz) := by
  have ho := h
  unfold X7_leastMoves at ho
  refine g_start (by decide) (Nat.le_of_ble_eq_true rfl) (fun p e s m below meth c ls hC hr hlk hsz hW hl => ?_)
  have hx := hC.1
  have hcd := hC.2.1
  have hl : lv_has ls 2 [(0, .ref (ad 132))] := hl
  refine lv_aload_n hx hcd dX7_leastMoves_0 rfl (lv_at hl 0 rfl) ?_
  obtain ⟨q2, h1, ho⟩ := gb_some ho
  refine g_calli hW (g_runV (As := []) (rest := []) (i := 132) hC hW (c_X7_findRepair l D y ad _ _ h1) ok_X7_207 ⟨rfl, rfl, Nat.le_of_ble_eq_true rfl, Nat.le_of_ble_eq_true rfl⟩ (by decide) rfl rfl rfl rfl hl.1 rfl (Nat.le_of_ble_eq_true rfl) dX7_leastMoves_1 ⟨Nat.zero_le _, Nat.zero_le _⟩) (fun H locs hW => ?_)
  refine lv_istore_n (lv' := [(1, .int q2.1), (0, .ref (ad 132))]) hx hcd dX7_leastMoves_4 rfl hl (by decide) rfl (fun ls hl => ?_)
  refine lv_aload_n hx hcd dX7_leastMoves_5 rfl (lv_at hl 1 rfl) ?_
  refine lv_iload_n hx hcd dX7_leastMoves_6 rfl (lv_at hl 0 rfl) ?_
  refine lv_if_ge (tgt := 14) hx hcd dX7_leastMoves_7 (by decide) (fun c3 => ?_) (fun c3 => ?_)
  · have ho := gif_p ho c3
    refine lv_iconst (v := 0) hx hcd dX7_leastMoves_14 (by decide) ?_
    obtain ⟨σ4, eσ4, ho⟩ := lt_ex ho
    refine g_puti hC hW (C := RX7) (T := TX7) (N := 19) (ci := 9) (k := 8) (index := 48) (i := 132) inGX7 tyX7 tyX7_ok nmX7 rfl (by decide) fl_X7_48 rfl (by decide) rfl rfl rfl rfl dX7_leastMoves_15 (fun H locs hW => ?_)
    rw [← eσ4] at hW
    refine lv_aload_n hx hcd dX7_leastMoves_18 rfl (lv_at hl 1 rfl) ?_
    refine g_geti hC hW (C := RX7) (T := TX7) (N := 19) (ci := 9) (k := 8) (index := 48) (i := 132) inGX7 rfl (by decide) fl_X7_48 (by decide) rfl rfl dX7_leastMoves_19 ?_
    refine lv_if_le (tgt := 29) hx hcd dX7_leastMoves_22 (by decide) (fun c5 => ?_) (fun c5 => ?_)
    · have ho := gif_p ho c5
      refine lv_iload_n hx hcd dX7_leastMoves_29 rfl (lv_at hl 0 rfl) ?_
      obtain rfl := Option.some.inj ho
      exact g_iret hC hr hlk hsz hW dX7_leastMoves_30
    · have ho := gif_n ho c5
      refine lv_iconst (v := 0) hx hcd dX7_leastMoves_25 (by decide) ?_
      refine lv_goto (tgt := 30) hx hcd dX7_leastMoves_26 (by decide) ?_
      obtain rfl := Option.some.inj ho
      exact g_iret hC hr hlk hsz hW dX7_leastMoves_30
  · have ho := gif_n ho c3
    refine lv_iconst (v := 1) hx hcd dX7_leastMoves_10 (by decide) ?_
    refine lv_goto (tgt := 15) hx hcd dX7_leastMoves_11 (by decide) ?_
    obtain ⟨σ6, eσ6, ho⟩ := lt_ex ho
    refine g_puti hC hW (C := RX7) (T := TX7) (N := 19) (ci := 9) (k := 8) (index := 48) (i := 132) inGX7 tyX7 tyX7_ok nmX7 rfl (by decide) fl_X7_48 rfl (by decide) rfl rfl rfl rfl dX7_leastMoves_15 (fun H locs hW => ?_)
    rw [← eσ6] at hW
    refine lv_aload_n hx hcd dX7_leastMoves_18 rfl (lv_at hl 1 rfl) ?_
    refine g_geti hC hW (C := RX7) (T := TX7) (N := 19) (ci := 9) (k := 8) (index := 48) (i := 132) inGX7 rfl (by decide) fl_X7_48 (by decide) rfl rfl dX7_leastMoves_19 ?_
    refine lv_if_le (tgt := 29) hx hcd dX7_leastMoves_22 (by decide) (fun c7 => ?_) (fun c7 => ?_)
    · have ho := gif_p ho c7
      refine lv_iload_n hx hcd dX7_leastMoves_29 rfl (lv_at hl 0 rfl) ?_
      obtain rfl := Option.some.inj ho
      exact g_iret hC hr hlk hsz hW dX7_leastMoves_30
    · have ho := gif_n ho c7
      refine lv_iconst (v := 0) hx hcd dX7_leastMoves_25 (by decide) ?_
      refine lv_goto (tgt := 30) hx hcd dX7_leastMoves_26 (by decide) ?_
      obtain rfl := Option.some.inj ho
      exact g_iret hC hr hlk hsz hW dX7_leastMoves_30
noncomputable def X7_leastAgain (σ : gS) : Option (Int32 × gS) :=
  (X7_leastMoves σ).bind fun q2 => some (q2.1, q2.2)
set_option maxHeartbeats 4000000 in
set_option maxRecDepth 100000 in
theorem c_X7_leastAgain (l : Launch) (D : va_G) (y : ClassId × ClassId × ClassId) (ad : Nat → Nat) (σ : gS) (sz : Nat) {q : Int32 × gS} (h : X7_leastAgain σ = some q) : Met l yX7_leastAgain (Cond.code yX7_leastAgain cX7_leastAgain 1 (some .int) :: gl) ({ frames := 19, cells := 0, slots := 0, locals := 435 }) (g_Pc D y ad σ sz [.ref (ad 132)]) (g_Qi D y ad q.2 sz q.1) 0 0 (g_A ad sz) := by
  have ho := h
  unfold X7_leastAgain at ho
  refine g_start (by decide) (Nat.le_of_ble_eq_true rfl) (fun p e s m below meth c ls hC hr hlk hsz hW hl => ?_)
  have hx := hC.1
  have hcd := hC.2.1
  have hl : lv_has ls 1 [(0, .ref (ad 132))] := hl
  refine lv_aload_n hx hcd dX7_leastAgain_0 rfl (lv_at hl 0 rfl) ?_
  obtain ⟨q2, h1, ho⟩ := gb_some ho
  refine g_calli hW (g_runV (As := []) (rest := []) (i := 132) hC hW (c_X7_leastMoves l D y ad _ _ h1) ok_X7_210 ⟨rfl, rfl, Nat.le_of_ble_eq_true rfl, Nat.le_of_ble_eq_true rfl⟩ (by decide) rfl rfl rfl rfl hl.1 rfl (Nat.le_of_ble_eq_true rfl) dX7_leastAgain_1 ⟨Nat.zero_le _, Nat.zero_le _⟩) (fun H locs hW => ?_)
  obtain rfl := Option.some.inj ho
  exact g_iret hC hr hlk hsz hW dX7_leastAgain_4
noncomputable def X7_moveOf (σ : gS) (x1 : Int32) (x2 : Int32) : Option (Int32 × gS) :=
  (X7_findRepair σ).bind fun q2 => (X7_in q2.2 x1 0 (q2.1 - (1 : Int32))).bind fun r4 => if r4 = 0 then (lt_ (g_up q2.2 132 8 1) fun σ6 => if (σ6 132 8) ≤ 0 then (if x2 = 0 then (gd (ib x1 3) <| some ((σ6 138 x1.toNatClampNeg), σ6)) else (gd (ib x1 3) <| some ((σ6 139 x1.toNatClampNeg), σ6))) else (some (0, σ6))) else (lt_ (g_up q2.2 132 8 0) fun σ11 => if (σ11 132 8) ≤ 0 then (if x2 = 0 then (gd (ib x1 3) <| some ((σ11 138 x1.toNatClampNeg), σ11)) else (gd (ib x1 3) <| some ((σ11 139 x1.toNatClampNeg), σ11))) else (some (0, σ11)))
set_option maxHeartbeats 4000000 in
set_option maxRecDepth 100000 in
theorem c_X7_moveOf (l : Launch) (D : va_G) (y : ClassId × ClassId × ClassId) (ad : Nat → Nat) (x1 : Int32) (x2 : Int32) (σ : gS) (sz : Nat) {q : Int32 × gS} (h : X7_moveOf σ x1 x2 = some q) : Met l yX7_moveOf (Cond.code yX7_moveOf cX7_moveOf 4 (some .int) :: gl) ({ frames := 18, cells := 0, slots := 0, locals := 414 }) (g_Pc D y ad σ sz [.ref (ad 132), .int x1, .int x2]) (g_Qi D y ad q.2 sz q.1) 0 0 (g_A ad sz) := by
  have ho := h
  unfold X7_moveOf at ho
  refine g_start (by decide) (Nat.le_of_ble_eq_true rfl) (fun p e s m below meth c ls hC hr hlk hsz hW hl => ?_)
  have hx := hC.1
  have hcd := hC.2.1
  have hl : lv_has ls 4 [(0, .ref (ad 132)), (1, .int x1), (2, .int x2)] := hl
  refine lv_aload_n hx hcd dX7_moveOf_0 rfl (lv_at hl 0 rfl) ?_
  obtain ⟨q2, h1, ho⟩ := gb_some ho
  refine g_calli hW (g_runV (As := []) (rest := []) (i := 132) hC hW (c_X7_findRepair l D y ad _ _ h1) ok_X7_207 ⟨rfl, rfl, Nat.le_of_ble_eq_true rfl, Nat.le_of_ble_eq_true rfl⟩ (by decide) rfl rfl rfl rfl hl.1 rfl (Nat.le_of_ble_eq_true rfl) dX7_moveOf_1 ⟨Nat.zero_le _, Nat.zero_le _⟩) (fun H locs hW => ?_)
  refine lv_istore_n (lv' := [(3, .int q2.1), (0, .ref (ad 132)), (1, .int x1), (2, .int x2)]) hx hcd dX7_moveOf_4 rfl hl (by decide) rfl (fun ls hl => ?_)
  refine lv_aload_n hx hcd dX7_moveOf_5 rfl (lv_at hl 1 rfl) ?_
  refine lv_iload_n hx hcd dX7_moveOf_6 rfl (lv_at hl 2 rfl) ?_
  refine lv_iconst (v := 0) hx hcd dX7_moveOf_7 (by decide) ?_
  refine lv_iload_n hx hcd dX7_moveOf_8 rfl (lv_at hl 0 rfl) ?_
  refine lv_iconst (v := 1) hx hcd dX7_moveOf_9 (by decide) ?_
  refine lv_isub hx hcd dX7_moveOf_10 ?_
  obtain ⟨r4, h3, ho⟩ := gb_some ho
  refine g_calli hW (g_runS (As := [.int x1, .int 0, .int (q2.1 - (1 : Int32))]) (rest := [.ref (ad 132)]) hC hW (c_X7_in l D y ad x1 0 (q2.1 - (1 : Int32)) _ _ h3) ok_X7_51 ⟨rfl, rfl, Nat.le_of_ble_eq_true rfl, Nat.le_of_ble_eq_true rfl⟩ rfl hl.1 rfl (Nat.le_of_ble_eq_true rfl) dX7_moveOf_11 ⟨Nat.zero_le _, Nat.zero_le _⟩) (fun H locs hW => ?_)
  refine lv_if_eq (tgt := 21) hx hcd dX7_moveOf_14 (by decide) (fun c5 => ?_) (fun c5 => ?_)
  · have ho := gif_p ho c5
    refine lv_iconst (v := 1) hx hcd dX7_moveOf_21 (by decide) ?_
    obtain ⟨σ6, eσ6, ho⟩ := lt_ex ho
    refine g_puti hC hW (C := RX7) (T := TX7) (N := 19) (ci := 9) (k := 8) (index := 48) (i := 132) inGX7 tyX7 tyX7_ok nmX7 rfl (by decide) fl_X7_48 rfl (by decide) rfl rfl rfl rfl dX7_moveOf_22 (fun H locs hW => ?_)
    rw [← eσ6] at hW
    refine lv_aload_n hx hcd dX7_moveOf_25 rfl (lv_at hl 1 rfl) ?_
    refine g_geti hC hW (C := RX7) (T := TX7) (N := 19) (ci := 9) (k := 8) (index := 48) (i := 132) inGX7 rfl (by decide) fl_X7_48 (by decide) rfl rfl dX7_moveOf_26 ?_
    refine lv_if_le (tgt := 36) hx hcd dX7_moveOf_29 (by decide) (fun c7 => ?_) (fun c7 => ?_)
    · have ho := gif_p ho c7
      refine lv_iload_n hx hcd dX7_moveOf_36 rfl (lv_at hl 3 rfl) ?_
      refine lv_if_eq (tgt := 49) hx hcd dX7_moveOf_37 (by decide) (fun c8 => ?_) (fun c8 => ?_)
      · have ho := gif_p ho c8
        refine lv_aload_n hx hcd dX7_moveOf_49 rfl (lv_at hl 1 rfl) ?_
        refine g_getr hC hW (C := RX7) (T := TX7) (N := 19) (ci := 9) (k := 9) (index := 25) (i := 132) (r := 138) inGX7 rfl (by decide) fl_X7_25 (by decide) rfl rfl dX7_moveOf_50 ?_
        refine lv_iload_n hx hcd dX7_moveOf_53 rfl (lv_at hl 2 rfl) ?_
        obtain ⟨i9, ho⟩ := gd_some ho
        refine g_iald hC hW (i := 138) (by decide) rfl i9 dX7_moveOf_54 ?_
        obtain rfl := Option.some.inj ho
        exact g_iret hC hr hlk hsz hW dX7_moveOf_55
      · have ho := gif_n ho c8
        refine lv_aload_n hx hcd dX7_moveOf_40 rfl (lv_at hl 1 rfl) ?_
        refine g_getr hC hW (C := RX7) (T := TX7) (N := 19) (ci := 9) (k := 10) (index := 28) (i := 132) (r := 139) inGX7 rfl (by decide) fl_X7_28 (by decide) rfl rfl dX7_moveOf_41 ?_
        refine lv_iload_n hx hcd dX7_moveOf_44 rfl (lv_at hl 2 rfl) ?_
        obtain ⟨i10, ho⟩ := gd_some ho
        refine g_iald hC hW (i := 139) (by decide) rfl i10 dX7_moveOf_45 ?_
        refine lv_goto (tgt := 55) hx hcd dX7_moveOf_46 (by decide) ?_
        obtain rfl := Option.some.inj ho
        exact g_iret hC hr hlk hsz hW dX7_moveOf_55
    · have ho := gif_n ho c7
      refine lv_iconst (v := 0) hx hcd dX7_moveOf_32 (by decide) ?_
      refine lv_goto (tgt := 55) hx hcd dX7_moveOf_33 (by decide) ?_
      obtain rfl := Option.some.inj ho
      exact g_iret hC hr hlk hsz hW dX7_moveOf_55
  · have ho := gif_n ho c5
    refine lv_iconst (v := 0) hx hcd dX7_moveOf_17 (by decide) ?_
    refine lv_goto (tgt := 22) hx hcd dX7_moveOf_18 (by decide) ?_
    obtain ⟨σ11, eσ11, ho⟩ := lt_ex ho
    refine g_puti hC hW (C := RX7) (T := TX7) (N := 19) (ci := 9) (k := 8) (index := 48) (i := 132) inGX7 tyX7 tyX7_ok nmX7 rfl (by decide) fl_X7_48 rfl (by decide) rfl rfl rfl rfl dX7_moveOf_22 (fun H locs hW => ?_)
    rw [← eσ11] at hW
    refine lv_aload_n hx hcd dX7_moveOf_25 rfl (lv_at hl 1 rfl) ?_
    refine g_geti hC hW (C := RX7) (T := TX7) (N := 19) (ci := 9) (k := 8) (index := 48) (i := 132) inGX7 rfl (by decide) fl_X7_48 (by decide) rfl rfl dX7_moveOf_26 ?_
    refine lv_if_le (tgt := 36) hx hcd dX7_moveOf_29 (by decide) (fun c12 => ?_) (fun c12 => ?_)
    · have ho := gif_p ho c12
      refine lv_iload_n hx hcd dX7_moveOf_36 rfl (lv_at hl 3 rfl) ?_
      refine lv_if_eq (tgt := 49) hx hcd dX7_moveOf_37 (by decide) (fun c13 => ?_) (fun c13 => ?_)
      · have ho := gif_p ho c13
        refine lv_aload_n hx hcd dX7_moveOf_49 rfl (lv_at hl 1 rfl) ?_
        refine g_getr hC hW (C := RX7) (T := TX7) (N := 19) (ci := 9) (k := 9) (index := 25) (i := 132) (r := 138) inGX7 rfl (by decide) fl_X7_25 (by decide) rfl rfl dX7_moveOf_50 ?_
        refine lv_iload_n hx hcd dX7_moveOf_53 rfl (lv_at hl 2 rfl) ?_
        obtain ⟨i14, ho⟩ := gd_some ho
        refine g_iald hC hW (i := 138) (by decide) rfl i14 dX7_moveOf_54 ?_
        obtain rfl := Option.some.inj ho
        exact g_iret hC hr hlk hsz hW dX7_moveOf_55
      · have ho := gif_n ho c13
        refine lv_aload_n hx hcd dX7_moveOf_40 rfl (lv_at hl 1 rfl) ?_
        refine g_getr hC hW (C := RX7) (T := TX7) (N := 19) (ci := 9) (k := 10) (index := 28) (i := 132) (r := 139) inGX7 rfl (by decide) fl_X7_28 (by decide) rfl rfl dX7_moveOf_41 ?_
        refine lv_iload_n hx hcd dX7_moveOf_44 rfl (lv_at hl 2 rfl) ?_
        obtain ⟨i15, ho⟩ := gd_some ho
        refine g_iald hC hW (i := 139) (by decide) rfl i15 dX7_moveOf_45 ?_
        refine lv_goto (tgt := 55) hx hcd dX7_moveOf_46 (by decide) ?_
        obtain rfl := Option.some.inj ho
        exact g_iret hC hr hlk hsz hW dX7_moveOf_55
    · have ho := gif_n ho c12
      refine lv_iconst (v := 0) hx hcd dX7_moveOf_32 (by decide) ?_
      refine lv_goto (tgt := 55) hx hcd dX7_moveOf_33 (by decide) ?_
      obtain rfl := Option.some.inj ho
      exact g_iret hC hr hlk hsz hW dX7_moveOf_55
noncomputable def X7_repair_k0 (σ : gS) (x1 : Int32) (x2 : Int32) : Option ((Int32 × Int32 × gS) ⊕ (Int32 × gS)) :=
  if x1 ≤ x2 then (lt_ (g_up σ 133 (3 : Int32).toNatClampNeg ((σ 133 (3 : Int32).toNatClampNeg) + x1)) fun σ13 => some (.inr (x1, σ13))) else (gd (ib x2 3) <| (X7_put σ (σ 138 x2.toNatClampNeg) (σ 139 x2.toNatClampNeg)).bind fun σ16 => some (.inl (x1, (x2 + 1), σ16)))
noncomputable def X7_repair_s (a : Int32 × Int32 × gS) : Option ((Int32 × Int32 × gS) ⊕ (Int32 × gS)) :=
  X7_repair_k0 a.2.2 a.1 a.2.1
noncomputable def X7_repair (σ : gS) : Option (Int32 × gS) :=
  (X7_findRepair σ).bind fun q2 => if 0 ≤ q2.1 then (lt_ (g_up q2.2 132 8 0) fun σ4 => if (σ4 132 8) ≤ 0 then ((X7_changes σ4).bind fun σ7 => gr (X7_repair_s) (q2.1, 0, σ7)) else (some (0, σ4))) else (lt_ (g_up q2.2 132 8 1) fun σ8 => if (σ8 132 8) ≤ 0 then ((X7_changes σ8).bind fun σ11 => gr (X7_repair_s) (q2.1, 0, σ11)) else (some (0, σ8)))
set_option maxHeartbeats 4000000 in
set_option maxRecDepth 100000 in
theorem l_X7_repair {p : Program} {e : Env} {s : State} {m : MethodId} {args : Array Value} {below : List Frame} {meth : Method} {c : Code} (l : Launch) (D : va_G) (y : ClassId × ClassId × ClassId) (ad : Nat → Nat) (sz : Nat) (hC : g_C p s m args c cX7_repair 3 RX7 D y) (hr : meth.sig.returnType = (some .int)) (hlk : meth.locks = false) (hsz : s.heap.size = sz) {r0 : Int32 × gS} : ∀ a : Int32 × Int32 × gS, gr (X7_repair_s) a = some r0 → ∀ (H : Heap) (locs : List Loc) (ls : Array Slot), g_W (g_A ad sz) s.heap D y ad [] a.2.2 H locs → lv_has ls 3 [(0, .ref (ad 132)), (1, .int a.1), (2, .int a.2.1)] → W p l e ({ frames := 18, cells := 0, slots := 0, locals := 414 }) s m args below meth c H locs 0 0 (MQ below (g_Qi D y ad r0.2 sz r0.1) args s 0 0 (g_A ad sz)) (F0 m 33 ls []) := by
  have hx := hC.1
  have hcd := hC.2.1
  refine gr_all (fun a o ho hret hjmp => ?_)
  obtain ⟨x1, x2, σ⟩ := a
  intro H locs ls hW hl
  have ho : X7_repair_k0 σ x1 x2 = some o := ho
  unfold X7_repair_k0 at ho
  refine lv_iload_n hx hcd dX7_repair_33 rfl (lv_at hl 2 rfl) ?_
  refine lv_iload_n hx hcd dX7_repair_34 rfl (lv_at hl 1 rfl) ?_
  refine lv_icmp_ge (tgt := 60) hx hcd dX7_repair_35 (by decide) (fun c12 => ?_) (fun c12 => ?_)
  · have ho := gif_p ho c12
    refine lv_aload_n hx hcd dX7_repair_60 rfl (lv_at hl 0 rfl) ?_
    refine g_getr hC hW (C := RX7) (T := TX7) (N := 19) (ci := 9) (k := 0) (index := 9) (i := 132) (r := 133) inGX7 rfl (by decide) fl_X7_9 (by decide) rfl rfl dX7_repair_61 ?_
    refine lv_iconst (v := 3) hx hcd dX7_repair_64 (by decide) ?_
    refine lv_dup2_11 hx hcd dX7_repair_65 rfl rfl ?_
    refine g_iald hC hW (i := 133) (by decide) rfl (by decide) dX7_repair_66 ?_
    refine lv_iload_n hx hcd dX7_repair_67 rfl (lv_at hl 1 rfl) ?_
    refine lv_iadd hx hcd dX7_repair_68 ?_
    obtain ⟨σ13, eσ13, ho⟩ := lt_ex ho
    refine g_iast hC hW (i := 133) (by decide) rfl (by decide) dX7_repair_69 (fun H locs hW => ?_)
    rw [← eσ13] at hW
    refine lv_iload_n hx hcd dX7_repair_70 rfl (lv_at hl 1 rfl) ?_
    obtain rfl := hret _ (Option.some.inj ho).symm
    exact g_iret hC hr hlk hsz hW dX7_repair_71
  · have ho := gif_n ho c12
    refine lv_aload_n hx hcd dX7_repair_38 rfl (lv_at hl 0 rfl) ?_
    refine lv_aload_n hx hcd dX7_repair_39 rfl (lv_at hl 0 rfl) ?_
    refine g_getr hC hW (C := RX7) (T := TX7) (N := 19) (ci := 9) (k := 9) (index := 25) (i := 132) (r := 138) inGX7 rfl (by decide) fl_X7_25 (by decide) rfl rfl dX7_repair_40 ?_
    refine lv_iload_n hx hcd dX7_repair_43 rfl (lv_at hl 2 rfl) ?_
    obtain ⟨i14, ho⟩ := gd_some ho
    refine g_iald hC hW (i := 138) (by decide) rfl i14 dX7_repair_44 ?_
    refine lv_aload_n hx hcd dX7_repair_45 rfl (lv_at hl 0 rfl) ?_
    refine g_getr hC hW (C := RX7) (T := TX7) (N := 19) (ci := 9) (k := 10) (index := 28) (i := 132) (r := 139) inGX7 rfl (by decide) fl_X7_28 (by decide) rfl rfl dX7_repair_46 ?_
    refine lv_iload_n hx hcd dX7_repair_49 rfl (lv_at hl 2 rfl) ?_
    refine g_iald hC hW (i := 139) (by decide) rfl i14 dX7_repair_50 ?_
    obtain ⟨σ16, h15, ho⟩ := gb_some ho
    refine g_callv hW (g_runV (As := [.int (σ 138 x2.toNatClampNeg), .int (σ 139 x2.toNatClampNeg)]) (rest := []) (i := 132) hC hW (c_X7_put l D y ad (σ 138 x2.toNatClampNeg) (σ 139 x2.toNatClampNeg) _ _ h15) ok_X7_141 ⟨rfl, rfl, Nat.le_of_ble_eq_true rfl, Nat.le_of_ble_eq_true rfl⟩ (by decide) rfl rfl rfl rfl hl.1 rfl (Nat.le_of_ble_eq_true rfl) dX7_repair_51 ⟨Nat.zero_le _, Nat.zero_le _⟩) (fun H locs hW => ?_)
    refine lv_iinc (v := x2 + 1) (lv' := [(2, .int (x2 + 1)), (0, .ref (ad 132)), (1, .int x1)]) hx hcd dX7_repair_54 hl (k := 2) rfl rfl (by decide) rfl (fun ls hl => ?_)
    refine lv_goto (tgt := 33) hx hcd dX7_repair_57 (by decide) ?_
    exact hjmp _ (Option.some.inj ho).symm _ _ _ hW (lv_sub hl [1, 2, 0] rfl)
set_option maxHeartbeats 4000000 in
set_option maxRecDepth 100000 in
theorem c_X7_repair (l : Launch) (D : va_G) (y : ClassId × ClassId × ClassId) (ad : Nat → Nat) (σ : gS) (sz : Nat) {q : Int32 × gS} (h : X7_repair σ = some q) : Met l yX7_repair (Cond.code yX7_repair cX7_repair 3 (some .int) :: gl) ({ frames := 18, cells := 0, slots := 0, locals := 414 }) (g_Pc D y ad σ sz [.ref (ad 132)]) (g_Qi D y ad q.2 sz q.1) 0 0 (g_A ad sz) := by
  have ho := h
  unfold X7_repair at ho
  refine g_start (by decide) (Nat.le_of_ble_eq_true rfl) (fun p e s m below meth c ls hC hr hlk hsz hW hl => ?_)
  have hx := hC.1
  have hcd := hC.2.1
  have hl : lv_has ls 3 [(0, .ref (ad 132))] := hl
  refine lv_aload_n hx hcd dX7_repair_0 rfl (lv_at hl 0 rfl) ?_
  obtain ⟨q2, h1, ho⟩ := gb_some ho
  refine g_calli hW (g_runV (As := []) (rest := []) (i := 132) hC hW (c_X7_findRepair l D y ad _ _ h1) ok_X7_207 ⟨rfl, rfl, Nat.le_of_ble_eq_true rfl, Nat.le_of_ble_eq_true rfl⟩ (by decide) rfl rfl rfl rfl hl.1 rfl (Nat.le_of_ble_eq_true rfl) dX7_repair_1 ⟨Nat.zero_le _, Nat.zero_le _⟩) (fun H locs hW => ?_)
  refine lv_istore_n (lv' := [(1, .int q2.1), (0, .ref (ad 132))]) hx hcd dX7_repair_4 rfl hl (by decide) rfl (fun ls hl => ?_)
  refine lv_aload_n hx hcd dX7_repair_5 rfl (lv_at hl 1 rfl) ?_
  refine lv_iload_n hx hcd dX7_repair_6 rfl (lv_at hl 0 rfl) ?_
  refine lv_if_ge (tgt := 14) hx hcd dX7_repair_7 (by decide) (fun c3 => ?_) (fun c3 => ?_)
  · have ho := gif_p ho c3
    refine lv_iconst (v := 0) hx hcd dX7_repair_14 (by decide) ?_
    obtain ⟨σ4, eσ4, ho⟩ := lt_ex ho
    refine g_puti hC hW (C := RX7) (T := TX7) (N := 19) (ci := 9) (k := 8) (index := 48) (i := 132) inGX7 tyX7 tyX7_ok nmX7 rfl (by decide) fl_X7_48 rfl (by decide) rfl rfl rfl rfl dX7_repair_15 (fun H locs hW => ?_)
    rw [← eσ4] at hW
    refine lv_aload_n hx hcd dX7_repair_18 rfl (lv_at hl 1 rfl) ?_
    refine g_geti hC hW (C := RX7) (T := TX7) (N := 19) (ci := 9) (k := 8) (index := 48) (i := 132) inGX7 rfl (by decide) fl_X7_48 (by decide) rfl rfl dX7_repair_19 ?_
    refine lv_if_le (tgt := 27) hx hcd dX7_repair_22 (by decide) (fun c5 => ?_) (fun c5 => ?_)
    · have ho := gif_p ho c5
      refine lv_aload_n hx hcd dX7_repair_27 rfl (lv_at hl 1 rfl) ?_
      obtain ⟨σ7, h6, ho⟩ := gb_some ho
      refine g_callv hW (g_runV (As := []) (rest := []) (i := 132) hC hW (c_X7_changes l D y ad _ _ h6) ok_X7_70 ⟨rfl, rfl, Nat.le_of_ble_eq_true rfl, Nat.le_of_ble_eq_true rfl⟩ (by decide) rfl rfl rfl rfl hl.1 rfl (Nat.le_of_ble_eq_true rfl) dX7_repair_28 ⟨Nat.zero_le _, Nat.zero_le _⟩) (fun H locs hW => ?_)
      refine lv_iconst (v := 0) hx hcd dX7_repair_31 (by decide) ?_
      refine lv_istore_n (lv' := [(2, .int 0), (1, .int q2.1), (0, .ref (ad 132))]) hx hcd dX7_repair_32 rfl hl (by decide) rfl (fun ls hl => ?_)
      exact l_X7_repair l D y ad sz hC hr hlk hsz _ ho _ _ _ hW (lv_sub hl [2, 1, 0] rfl)
    · have ho := gif_n ho c5
      refine lv_iconst (v := 0) hx hcd dX7_repair_25 (by decide) ?_
      obtain rfl := Option.some.inj ho
      exact g_iret hC hr hlk hsz hW dX7_repair_26
  · have ho := gif_n ho c3
    refine lv_iconst (v := 1) hx hcd dX7_repair_10 (by decide) ?_
    refine lv_goto (tgt := 15) hx hcd dX7_repair_11 (by decide) ?_
    obtain ⟨σ8, eσ8, ho⟩ := lt_ex ho
    refine g_puti hC hW (C := RX7) (T := TX7) (N := 19) (ci := 9) (k := 8) (index := 48) (i := 132) inGX7 tyX7 tyX7_ok nmX7 rfl (by decide) fl_X7_48 rfl (by decide) rfl rfl rfl rfl dX7_repair_15 (fun H locs hW => ?_)
    rw [← eσ8] at hW
    refine lv_aload_n hx hcd dX7_repair_18 rfl (lv_at hl 1 rfl) ?_
    refine g_geti hC hW (C := RX7) (T := TX7) (N := 19) (ci := 9) (k := 8) (index := 48) (i := 132) inGX7 rfl (by decide) fl_X7_48 (by decide) rfl rfl dX7_repair_19 ?_
    refine lv_if_le (tgt := 27) hx hcd dX7_repair_22 (by decide) (fun c9 => ?_) (fun c9 => ?_)
    · have ho := gif_p ho c9
      refine lv_aload_n hx hcd dX7_repair_27 rfl (lv_at hl 1 rfl) ?_
      obtain ⟨σ11, h10, ho⟩ := gb_some ho
      refine g_callv hW (g_runV (As := []) (rest := []) (i := 132) hC hW (c_X7_changes l D y ad _ _ h10) ok_X7_70 ⟨rfl, rfl, Nat.le_of_ble_eq_true rfl, Nat.le_of_ble_eq_true rfl⟩ (by decide) rfl rfl rfl rfl hl.1 rfl (Nat.le_of_ble_eq_true rfl) dX7_repair_28 ⟨Nat.zero_le _, Nat.zero_le _⟩) (fun H locs hW => ?_)
      refine lv_iconst (v := 0) hx hcd dX7_repair_31 (by decide) ?_
      refine lv_istore_n (lv' := [(2, .int 0), (1, .int q2.1), (0, .ref (ad 132))]) hx hcd dX7_repair_32 rfl hl (by decide) rfl (fun ls hl => ?_)
      exact l_X7_repair l D y ad sz hC hr hlk hsz _ ho _ _ _ hW (lv_sub hl [2, 1, 0] rfl)
    · have ho := gif_n ho c9
      refine lv_iconst (v := 0) hx hcd dX7_repair_25 (by decide) ?_
      obtain rfl := Option.some.inj ho
      exact g_iret hC hr hlk hsz hW dX7_repair_26
noncomputable def X7_conflicts_k0 (σ : gS) (x1 : Int32) (x2 : Int32) : Option ((Nat × Int32 × Int32 × Int32 × gS) ⊕ (Int32 × gS)) :=
  if 20 ≤ x2 then (some (.inr (x1, σ))) else (some (.inl (1, x1, x2, 0, σ)))
noncomputable def X7_conflicts_k1 (σ : gS) (x1 : Int32) (x2 : Int32) (x3 : Int32) : Option ((Nat × Int32 × Int32 × Int32 × gS) ⊕ (Int32 × gS)) :=
  if x2 ≤ x3 then (some (.inl (0, x1, (x2 + 1), 0, σ))) else ((X7_areInConflict σ x2 x3).bind fun r5 => if r5 = 0 then (some (.inl (1, (x1 + (0 : Int32)), x2, (x3 + 1), σ))) else (some (.inl (1, (x1 + (1 : Int32)), x2, (x3 + 1), σ))))
noncomputable def X7_conflicts_s (a : Nat × Int32 × Int32 × Int32 × gS) : Option ((Nat × Int32 × Int32 × Int32 × gS) ⊕ (Int32 × gS)) :=
  if a.1 = 0 then X7_conflicts_k0 a.2.2.2.2 a.2.1 a.2.2.1 else if a.1 = 1 then X7_conflicts_k1 a.2.2.2.2 a.2.1 a.2.2.1 a.2.2.2.1 else none
noncomputable def X7_conflicts (σ : gS) : Option (Int32 × gS) :=
  lt_ (g_up σ 132 8 0) fun σ1 => gr (X7_conflicts_s) (0, 0, 0, 0, σ1)
set_option maxHeartbeats 4000000 in
set_option maxRecDepth 100000 in
theorem l_X7_conflicts {p : Program} {e : Env} {s : State} {m : MethodId} {args : Array Value} {below : List Frame} {meth : Method} {c : Code} (l : Launch) (D : va_G) (y : ClassId × ClassId × ClassId) (ad : Nat → Nat) (sz : Nat) (hC : g_C p s m args c cX7_conflicts 4 RX7 D y) (hr : meth.sig.returnType = (some .int)) (hlk : meth.locks = false) (hsz : s.heap.size = sz) {r0 : Int32 × gS} : ∀ a : Nat × Int32 × Int32 × Int32 × gS, gr (X7_conflicts_s) a = some r0 → ∀ (H : Heap) (locs : List Loc) (ls : Array Slot), g_W (g_A ad sz) s.heap D y ad [] a.2.2.2.2 H locs → (a.1 = 0 → lv_has ls 4 [(0, .ref (ad 132)), (1, .int a.2.1), (2, .int a.2.2.1)] → W p l e ({ frames := 5, cells := 0, slots := 0, locals := 108 }) s m args below meth c H locs 0 0 (MQ below (g_Qi D y ad r0.2 sz r0.1) args s 0 0 (g_A ad sz)) (F0 m 9 ls [])) ∧ (a.1 = 1 → lv_has ls 4 [(0, .ref (ad 132)), (1, .int a.2.1), (2, .int a.2.2.1), (3, .int a.2.2.2.1)] → W p l e ({ frames := 5, cells := 0, slots := 0, locals := 108 }) s m args below meth c H locs 0 0 (MQ below (g_Qi D y ad r0.2 sz r0.1) args s 0 0 (g_A ad sz)) (F0 m 17 ls [])) := by
  have hx := hC.1
  have hcd := hC.2.1
  refine gr_all (fun a o ho hret hjmp => ?_)
  obtain ⟨lb, y0, y1, y2, σ⟩ := a
  intro H locs ls hW
  refine ⟨?_, ?_⟩
  · intro hlb hl
    have hlb : lb = 0 := hlb
    subst hlb
    have ho : X7_conflicts_k0 σ y0 y1 = some o := ho
    unfold X7_conflicts_k0 at ho
    have hl : lv_has ls 4 [(0, .ref (ad 132)), (1, .int y0), (2, .int y1)] := hl
    have hW : g_W (g_A ad sz) s.heap D y ad [] σ H locs := hW
    refine lv_iload_n hx hcd dX7_conflicts_9 rfl (lv_at hl 2 rfl) ?_
    refine lv_bipush (v := 20) hx hcd dX7_conflicts_10 (by decide) ?_
    refine lv_icmp_ge (tgt := 51) hx hcd dX7_conflicts_12 (by decide) (fun c2 => ?_) (fun c2 => ?_)
    · have ho := gif_p ho c2
      refine lv_iload_n hx hcd dX7_conflicts_51 rfl (lv_at hl 1 rfl) ?_
      obtain rfl := hret _ (Option.some.inj ho).symm
      exact g_iret hC hr hlk hsz hW dX7_conflicts_52
    · have ho := gif_n ho c2
      refine lv_iconst (v := 0) hx hcd dX7_conflicts_15 (by decide) ?_
      refine lv_istore_n (lv' := [(3, .int 0), (0, .ref (ad 132)), (1, .int y0), (2, .int y1)]) hx hcd dX7_conflicts_16 rfl hl (by decide) rfl (fun ls hl => ?_)
      exact (hjmp _ (Option.some.inj ho).symm _ _ _ hW).2 rfl (lv_sub hl [1, 2, 3, 0] rfl)
  · intro hlb hl
    have hlb : lb = 1 := hlb
    subst hlb
    have ho : X7_conflicts_k1 σ y0 y1 y2 = some o := ho
    unfold X7_conflicts_k1 at ho
    have hl : lv_has ls 4 [(0, .ref (ad 132)), (1, .int y0), (2, .int y1), (3, .int y2)] := hl
    have hW : g_W (g_A ad sz) s.heap D y ad [] σ H locs := hW
    refine lv_iload_n hx hcd dX7_conflicts_17 rfl (lv_at hl 3 rfl) ?_
    refine lv_iload_n hx hcd dX7_conflicts_18 rfl (lv_at hl 2 rfl) ?_
    refine lv_icmp_ge (tgt := 45) hx hcd dX7_conflicts_19 (by decide) (fun c3 => ?_) (fun c3 => ?_)
    · have ho := gif_p ho c3
      refine lv_iinc (v := y1 + 1) (lv' := [(2, .int (y1 + 1)), (0, .ref (ad 132)), (1, .int y0), (3, .int y2)]) hx hcd dX7_conflicts_45 hl (k := 2) rfl rfl (by decide) rfl (fun ls hl => ?_)
      refine lv_goto (tgt := 9) hx hcd dX7_conflicts_48 (by decide) ?_
      exact (hjmp _ (Option.some.inj ho).symm _ _ _ hW).1 rfl (lv_sub hl [1, 2, 0] rfl)
    · have ho := gif_n ho c3
      refine lv_iload_n hx hcd dX7_conflicts_22 rfl (lv_at hl 1 rfl) ?_
      refine lv_aload_n hx hcd dX7_conflicts_23 rfl (lv_at hl 0 rfl) ?_
      refine lv_iload_n hx hcd dX7_conflicts_24 rfl (lv_at hl 2 rfl) ?_
      refine lv_iload_n hx hcd dX7_conflicts_25 rfl (lv_at hl 3 rfl) ?_
      obtain ⟨r5, h4, ho⟩ := gb_some ho
      refine g_calli hW (g_runV (As := [.int y1, .int y2]) (rest := [.int y0]) (i := 132) hC hW (c_X7_areInConflict l D y ad y1 y2 _ _ h4) ok_X7_109 ⟨rfl, rfl, Nat.le_of_ble_eq_true rfl, Nat.le_of_ble_eq_true rfl⟩ (by decide) rfl rfl rfl rfl hl.1 rfl (Nat.le_of_ble_eq_true rfl) dX7_conflicts_26 ⟨Nat.zero_le _, Nat.zero_le _⟩) (fun H locs hW => ?_)
      refine lv_if_eq (tgt := 36) hx hcd dX7_conflicts_29 (by decide) (fun c6 => ?_) (fun c6 => ?_)
      · have ho := gif_p ho c6
        refine lv_iconst (v := 0) hx hcd dX7_conflicts_36 (by decide) ?_
        refine lv_iadd hx hcd dX7_conflicts_37 ?_
        refine lv_istore_n (lv' := [(1, .int (y0 + (0 : Int32))), (0, .ref (ad 132)), (2, .int y1), (3, .int y2)]) hx hcd dX7_conflicts_38 rfl hl (by decide) rfl (fun ls hl => ?_)
        refine lv_iinc (v := y2 + 1) (lv' := [(3, .int (y2 + 1)), (1, .int (y0 + (0 : Int32))), (0, .ref (ad 132)), (2, .int y1)]) hx hcd dX7_conflicts_39 hl (k := 3) rfl rfl (by decide) rfl (fun ls hl => ?_)
        refine lv_goto (tgt := 17) hx hcd dX7_conflicts_42 (by decide) ?_
        exact (hjmp _ (Option.some.inj ho).symm _ _ _ hW).2 rfl (lv_sub hl [2, 1, 3, 0] rfl)
      · have ho := gif_n ho c6
        refine lv_iconst (v := 1) hx hcd dX7_conflicts_32 (by decide) ?_
        refine lv_goto (tgt := 37) hx hcd dX7_conflicts_33 (by decide) ?_
        refine lv_iadd hx hcd dX7_conflicts_37 ?_
        refine lv_istore_n (lv' := [(1, .int (y0 + (1 : Int32))), (0, .ref (ad 132)), (2, .int y1), (3, .int y2)]) hx hcd dX7_conflicts_38 rfl hl (by decide) rfl (fun ls hl => ?_)
        refine lv_iinc (v := y2 + 1) (lv' := [(3, .int (y2 + 1)), (1, .int (y0 + (1 : Int32))), (0, .ref (ad 132)), (2, .int y1)]) hx hcd dX7_conflicts_39 hl (k := 3) rfl rfl (by decide) rfl (fun ls hl => ?_)
        refine lv_goto (tgt := 17) hx hcd dX7_conflicts_42 (by decide) ?_
        exact (hjmp _ (Option.some.inj ho).symm _ _ _ hW).2 rfl (lv_sub hl [2, 1, 3, 0] rfl)
set_option maxHeartbeats 4000000 in
set_option maxRecDepth 100000 in
theorem c_X7_conflicts (l : Launch) (D : va_G) (y : ClassId × ClassId × ClassId) (ad : Nat → Nat) (σ : gS) (sz : Nat) {q : Int32 × gS} (h : X7_conflicts σ = some q) : Met l yX7_conflicts (Cond.code yX7_conflicts cX7_conflicts 4 (some .int) :: gl) ({ frames := 5, cells := 0, slots := 0, locals := 108 }) (g_Pc D y ad σ sz [.ref (ad 132)]) (g_Qi D y ad q.2 sz q.1) 0 0 (g_A ad sz) := by
  have ho := h
  unfold X7_conflicts at ho
  refine g_start (by decide) (Nat.le_of_ble_eq_true rfl) (fun p e s m below meth c ls hC hr hlk hsz hW hl => ?_)
  have hx := hC.1
  have hcd := hC.2.1
  have hl : lv_has ls 4 [(0, .ref (ad 132))] := hl
  refine lv_aload_n hx hcd dX7_conflicts_0 rfl (lv_at hl 0 rfl) ?_
  refine lv_iconst (v := 0) hx hcd dX7_conflicts_1 (by decide) ?_
  obtain ⟨σ1, eσ1, ho⟩ := lt_ex ho
  refine g_puti hC hW (C := RX7) (T := TX7) (N := 19) (ci := 9) (k := 8) (index := 48) (i := 132) inGX7 tyX7 tyX7_ok nmX7 rfl (by decide) fl_X7_48 rfl (by decide) rfl rfl rfl rfl dX7_conflicts_2 (fun H locs hW => ?_)
  rw [← eσ1] at hW
  refine lv_iconst (v := 0) hx hcd dX7_conflicts_5 (by decide) ?_
  refine lv_istore_n (lv' := [(1, .int 0), (0, .ref (ad 132))]) hx hcd dX7_conflicts_6 rfl hl (by decide) rfl (fun ls hl => ?_)
  refine lv_iconst (v := 0) hx hcd dX7_conflicts_7 (by decide) ?_
  refine lv_istore_n (lv' := [(2, .int 0), (1, .int 0), (0, .ref (ad 132))]) hx hcd dX7_conflicts_8 rfl hl (by decide) rfl (fun ls hl => ?_)
  exact (l_X7_conflicts l D y ad sz hC hr hlk hsz _ ho _ _ _ hW).1 rfl (lv_sub hl [2, 1, 0] rfl)
noncomputable def X7_tows_k0 (σ : gS) (x1 : Int32) (x2 : Int32) : Option ((Int32 × Int32) ⊕ (Int32)) :=
  if (σ 133 (1 : Int32).toNatClampNeg) ≤ x2 then (some (.inr x1)) else ((X7_tow σ x2).bind fun r3 => if r3 < 0 then (some (.inl ((x1 + (0 : Int32)), (x2 + 1)))) else (some (.inl ((x1 + (1 : Int32)), (x2 + 1)))))
noncomputable def X7_tows_s (σ : gS) (a : Int32 × Int32) : Option ((Int32 × Int32) ⊕ (Int32)) :=
  X7_tows_k0 σ a.1 a.2
noncomputable def X7_tows (σ : gS) : Option (Int32) :=
  gr (X7_tows_s σ) (0, 0)
set_option maxHeartbeats 4000000 in
set_option maxRecDepth 100000 in
theorem l_X7_tows {p : Program} {e : Env} {s : State} {m : MethodId} {args : Array Value} {below : List Frame} {meth : Method} {c : Code} (l : Launch) (D : va_G) (y : ClassId × ClassId × ClassId) (ad : Nat → Nat) (σ : gS) (sz : Nat) (hC : g_C p s m args c cX7_tows 3 RX7 D y) (hr : meth.sig.returnType = (some .int)) (hlk : meth.locks = false) (hsz : s.heap.size = sz) {r0 : Int32} : ∀ a : Int32 × Int32, gr (X7_tows_s σ) a = some r0 → ∀ (H : Heap) (locs : List Loc) (ls : Array Slot), g_W (g_A ad sz) s.heap D y ad [] σ H locs → lv_has ls 3 [(0, .ref (ad 132)), (1, .int a.1), (2, .int a.2)] → W p l e ({ frames := 2, cells := 0, slots := 0, locals := 41 }) s m args below meth c H locs 0 0 (MQ below (g_Qi D y ad σ sz r0) args s 0 0 (g_A ad sz)) (F0 m 4 ls []) := by
  have hx := hC.1
  have hcd := hC.2.1
  refine gr_all (fun a o ho hret hjmp => ?_)
  obtain ⟨x1, x2⟩ := a
  intro H locs ls hW hl
  have ho : X7_tows_k0 σ x1 x2 = some o := ho
  unfold X7_tows_k0 at ho
  refine lv_iload_n hx hcd dX7_tows_4 rfl (lv_at hl 2 rfl) ?_
  refine lv_aload_n hx hcd dX7_tows_5 rfl (lv_at hl 0 rfl) ?_
  refine g_getr hC hW (C := RX7) (T := TX7) (N := 19) (ci := 9) (k := 0) (index := 9) (i := 132) (r := 133) inGX7 rfl (by decide) fl_X7_9 (by decide) rfl rfl dX7_tows_6 ?_
  refine lv_iconst (v := 1) hx hcd dX7_tows_9 (by decide) ?_
  refine g_iald hC hW (i := 133) (by decide) rfl (by decide) dX7_tows_10 ?_
  refine lv_icmp_ge (tgt := 36) hx hcd dX7_tows_11 (by decide) (fun c1 => ?_) (fun c1 => ?_)
  · have ho := gif_p ho c1
    refine lv_iload_n hx hcd dX7_tows_36 rfl (lv_at hl 1 rfl) ?_
    obtain rfl := hret _ (Option.some.inj ho).symm
    exact g_iret hC hr hlk hsz hW dX7_tows_37
  · have ho := gif_n ho c1
    refine lv_iload_n hx hcd dX7_tows_14 rfl (lv_at hl 1 rfl) ?_
    refine lv_aload_n hx hcd dX7_tows_15 rfl (lv_at hl 0 rfl) ?_
    refine lv_iload_n hx hcd dX7_tows_16 rfl (lv_at hl 2 rfl) ?_
    obtain ⟨r3, h2, ho⟩ := gb_some ho
    refine g_calli hW (g_runV (As := [.int x2]) (rest := [.int x1]) (i := 132) hC hW (c_X7_tow l D y ad x2 _ _ h2) ok_X7_88 ⟨rfl, rfl, Nat.le_of_ble_eq_true rfl, Nat.le_of_ble_eq_true rfl⟩ (by decide) rfl rfl rfl rfl hl.1 rfl (Nat.le_of_ble_eq_true rfl) dX7_tows_17 ⟨Nat.zero_le _, Nat.zero_le _⟩) (fun H locs hW => ?_)
    refine lv_if_lt (tgt := 27) hx hcd dX7_tows_20 (by decide) (fun c4 => ?_) (fun c4 => ?_)
    · have ho := gif_p ho c4
      refine lv_iconst (v := 0) hx hcd dX7_tows_27 (by decide) ?_
      refine lv_iadd hx hcd dX7_tows_28 ?_
      refine lv_istore_n (lv' := [(1, .int (x1 + (0 : Int32))), (0, .ref (ad 132)), (2, .int x2)]) hx hcd dX7_tows_29 rfl hl (by decide) rfl (fun ls hl => ?_)
      refine lv_iinc (v := x2 + 1) (lv' := [(2, .int (x2 + 1)), (1, .int (x1 + (0 : Int32))), (0, .ref (ad 132))]) hx hcd dX7_tows_30 hl (k := 2) rfl rfl (by decide) rfl (fun ls hl => ?_)
      refine lv_goto (tgt := 4) hx hcd dX7_tows_33 (by decide) ?_
      exact hjmp _ (Option.some.inj ho).symm _ _ _ hW (lv_sub hl [2, 1, 0] rfl)
    · have ho := gif_n ho c4
      refine lv_iconst (v := 1) hx hcd dX7_tows_23 (by decide) ?_
      refine lv_goto (tgt := 28) hx hcd dX7_tows_24 (by decide) ?_
      refine lv_iadd hx hcd dX7_tows_28 ?_
      refine lv_istore_n (lv' := [(1, .int (x1 + (1 : Int32))), (0, .ref (ad 132)), (2, .int x2)]) hx hcd dX7_tows_29 rfl hl (by decide) rfl (fun ls hl => ?_)
      refine lv_iinc (v := x2 + 1) (lv' := [(2, .int (x2 + 1)), (1, .int (x1 + (1 : Int32))), (0, .ref (ad 132))]) hx hcd dX7_tows_30 hl (k := 2) rfl rfl (by decide) rfl (fun ls hl => ?_)
      refine lv_goto (tgt := 4) hx hcd dX7_tows_33 (by decide) ?_
      exact hjmp _ (Option.some.inj ho).symm _ _ _ hW (lv_sub hl [2, 1, 0] rfl)
set_option maxHeartbeats 4000000 in
set_option maxRecDepth 100000 in
theorem c_X7_tows (l : Launch) (D : va_G) (y : ClassId × ClassId × ClassId) (ad : Nat → Nat) (σ : gS) (sz : Nat) {q : Int32} (h : X7_tows σ = some q) : Met l yX7_tows (Cond.code yX7_tows cX7_tows 3 (some .int) :: gl) ({ frames := 2, cells := 0, slots := 0, locals := 41 }) (g_Pc D y ad σ sz [.ref (ad 132)]) (g_Qi D y ad σ sz q) 0 0 (g_A ad sz) := by
  have ho := h
  unfold X7_tows at ho
  refine g_start (by decide) (Nat.le_of_ble_eq_true rfl) (fun p e s m below meth c ls hC hr hlk hsz hW hl => ?_)
  have hx := hC.1
  have hcd := hC.2.1
  have hl : lv_has ls 3 [(0, .ref (ad 132))] := hl
  refine lv_iconst (v := 0) hx hcd dX7_tows_0 (by decide) ?_
  refine lv_istore_n (lv' := [(1, .int 0), (0, .ref (ad 132))]) hx hcd dX7_tows_1 rfl hl (by decide) rfl (fun ls hl => ?_)
  refine lv_iconst (v := 0) hx hcd dX7_tows_2 (by decide) ?_
  refine lv_istore_n (lv' := [(2, .int 0), (1, .int 0), (0, .ref (ad 132))]) hx hcd dX7_tows_3 rfl hl (by decide) rfl (fun ls hl => ?_)
  exact l_X7_tows l D y ad σ sz hC hr hlk hsz _ ho _ _ _ hW (lv_sub hl [2, 1, 0] rfl)
noncomputable def X7_isRemote (σ : gS) (x1 : Int32) : Option (Int32) :=
  (X7_isOn σ x1).bind fun r2 => if r2 = 0 then (some 0) else ((X7_on σ x1).bind fun r5 => gd (ib ((4 : Int32) + r5) 162) <| if (σ 133 ((4 : Int32) + r5).toNatClampNeg) = 2 then (some 1) else (some 0))
set_option maxHeartbeats 4000000 in
set_option maxRecDepth 100000 in
theorem c_X7_isRemote (l : Launch) (D : va_G) (y : ClassId × ClassId × ClassId) (ad : Nat → Nat) (x1 : Int32) (σ : gS) (sz : Nat) {q : Int32} (h : X7_isRemote σ x1 = some q) : Met l yX7_isRemote (Cond.code yX7_isRemote cX7_isRemote 2 (some .boolean) :: gl) ({ frames := 4, cells := 0, slots := 0, locals := 85 }) (g_Pc D y ad σ sz [.ref (ad 132), .int x1]) (g_Qi D y ad σ sz q) 0 0 (g_A ad sz) := by
  have ho := h
  unfold X7_isRemote at ho
  refine g_start (by decide) (Nat.le_of_ble_eq_true rfl) (fun p e s m below meth c ls hC hr hlk hsz hW hl => ?_)
  have hx := hC.1
  have hcd := hC.2.1
  have hl : lv_has ls 2 [(0, .ref (ad 132)), (1, .int x1)] := hl
  refine lv_aload_n hx hcd dX7_isRemote_0 rfl (lv_at hl 0 rfl) ?_
  refine lv_iload_n hx hcd dX7_isRemote_1 rfl (lv_at hl 1 rfl) ?_
  obtain ⟨r2, h1, ho⟩ := gb_some ho
  refine g_calli hW (g_runV (As := [.int x1]) (rest := []) (i := 132) hC hW (c_X7_isOn l D y ad x1 _ _ h1) ok_X7_97 ⟨rfl, rfl, Nat.le_of_ble_eq_true rfl, Nat.le_of_ble_eq_true rfl⟩ (by decide) rfl rfl rfl rfl hl.1 rfl (Nat.le_of_ble_eq_true rfl) dX7_isRemote_2 ⟨Nat.zero_le _, Nat.zero_le _⟩) (fun H locs hW => ?_)
  refine lv_if_eq (tgt := 28) hx hcd dX7_isRemote_5 (by decide) (fun c3 => ?_) (fun c3 => ?_)
  · have ho := gif_p ho c3
    refine lv_iconst (v := 0) hx hcd dX7_isRemote_28 (by decide) ?_
    obtain rfl := Option.some.inj ho
    exact g_zret (r := 0) hC hr hlk hsz hW (by decide) dX7_isRemote_29
  · have ho := gif_n ho c3
    refine lv_aload_n hx hcd dX7_isRemote_8 rfl (lv_at hl 0 rfl) ?_
    refine g_getr hC hW (C := RX7) (T := TX7) (N := 19) (ci := 9) (k := 0) (index := 9) (i := 132) (r := 133) inGX7 rfl (by decide) fl_X7_9 (by decide) rfl rfl dX7_isRemote_9 ?_
    refine lv_iconst (v := 4) hx hcd dX7_isRemote_12 (by decide) ?_
    refine lv_aload_n hx hcd dX7_isRemote_13 rfl (lv_at hl 0 rfl) ?_
    refine lv_iload_n hx hcd dX7_isRemote_14 rfl (lv_at hl 1 rfl) ?_
    obtain ⟨r5, h4, ho⟩ := gb_some ho
    refine g_calli hW (g_runV (As := [.int x1]) (rest := [.int 4, .ref (ad 133)]) (i := 132) hC hW (c_X7_on l D y ad x1 _ _ h4) ok_X7_94 ⟨rfl, rfl, Nat.le_of_ble_eq_true rfl, Nat.le_of_ble_eq_true rfl⟩ (by decide) rfl rfl rfl rfl hl.1 rfl (Nat.le_of_ble_eq_true rfl) dX7_isRemote_15 ⟨Nat.zero_le _, Nat.zero_le _⟩) (fun H locs hW => ?_)
    refine lv_iadd hx hcd dX7_isRemote_18 ?_
    obtain ⟨i6, ho⟩ := gd_some ho
    refine g_iald hC hW (i := 133) (by decide) rfl i6 dX7_isRemote_19 ?_
    refine lv_iconst (v := 2) hx hcd dX7_isRemote_20 (by decide) ?_
    refine lv_icmp_ne (tgt := 28) hx hcd dX7_isRemote_21 (by decide) (fun c7 => ?_) (fun c7 => ?_)
    · have ho := gif_n ho c7
      refine lv_iconst (v := 0) hx hcd dX7_isRemote_28 (by decide) ?_
      obtain rfl := Option.some.inj ho
      exact g_zret (r := 0) hC hr hlk hsz hW (by decide) dX7_isRemote_29
    · have ho := gif_p ho c7
      refine lv_iconst (v := 1) hx hcd dX7_isRemote_24 (by decide) ?_
      refine lv_goto (tgt := 29) hx hcd dX7_isRemote_25 (by decide) ?_
      obtain rfl := Option.some.inj ho
      exact g_zret (r := 1) hC hr hlk hsz hW (by decide) dX7_isRemote_29
noncomputable def X7_overStays_k0 (σ : gS) (x1 : Int32) (x2 : Int32) (x3 : Int32) : Option ((Int32 × Int32 × Int32) ⊕ (Int32)) :=
  if 20 ≤ x3 then (some (.inr x2)) else ((X7_isStay σ x3).bind fun r3 => if r3 = 0 then (some (.inl (x1, x2, (x3 + 1)))) else ((X7_to σ x3).bind fun r6 => (X7_from σ x3).bind fun r8 => if x1 = 6 then (some (.inl (x1, (x2 + (r6 - r8)), (x3 + 1)))) else ((X7_isOn σ x3).bind fun r11 => if r11 = 0 then (some (.inl (x1, (x2 + (0 : Int32)), (x3 + 1)))) else (if x1 = 3 then (some (.inl (x1, (x2 + (1 : Int32)), (x3 + 1)))) else (if x1 = 7 then (some (.inl (x1, (x2 + (r6 - r8)), (x3 + 1)))) else ((X7_isHindered σ x3).bind fun r16 => if r16 = 0 then (some (.inl (x1, (x2 + (0 : Int32)), (x3 + 1)))) else (some (.inl (x1, (x2 + (1 : Int32)), (x3 + 1))))))))))
noncomputable def X7_overStays_s (σ : gS) (a : Int32 × Int32 × Int32) : Option ((Int32 × Int32 × Int32) ⊕ (Int32)) :=
  X7_overStays_k0 σ a.1 a.2.1 a.2.2
noncomputable def X7_overStays (σ : gS) (x1 : Int32) : Option (Int32) :=
  gr (X7_overStays_s σ) (x1, 0, 0)
set_option maxHeartbeats 4000000 in
set_option maxRecDepth 100000 in
theorem l_X7_overStays {p : Program} {e : Env} {s : State} {m : MethodId} {args : Array Value} {below : List Frame} {meth : Method} {c : Code} (l : Launch) (D : va_G) (y : ClassId × ClassId × ClassId) (ad : Nat → Nat) (σ : gS) (sz : Nat) (hC : g_C p s m args c cX7_overStays 5 RX7 D y) (hr : meth.sig.returnType = (some .int)) (hlk : meth.locks = false) (hsz : s.heap.size = sz) {r0 : Int32} : ∀ a : Int32 × Int32 × Int32, gr (X7_overStays_s σ) a = some r0 → ∀ (H : Heap) (locs : List Loc) (ls : Array Slot), g_W (g_A ad sz) s.heap D y ad [] σ H locs → lv_has ls 5 [(0, .ref (ad 132)), (1, .int a.1), (2, .int a.2.1), (3, .int a.2.2)] → W p l e ({ frames := 5, cells := 0, slots := 0, locals := 106 }) s m args below meth c H locs 0 0 (MQ below (g_Qi D y ad σ sz r0) args s 0 0 (g_A ad sz)) (F0 m 4 ls []) := by
  have hx := hC.1
  have hcd := hC.2.1
  refine gr_all (fun a o ho hret hjmp => ?_)
  obtain ⟨x1, x2, x3⟩ := a
  intro H locs ls hW hl
  have ho : X7_overStays_k0 σ x1 x2 x3 = some o := ho
  unfold X7_overStays_k0 at ho
  refine lv_iload_n hx hcd dX7_overStays_4 rfl (lv_at hl 3 rfl) ?_
  refine lv_bipush (v := 20) hx hcd dX7_overStays_5 (by decide) ?_
  refine lv_icmp_ge (tgt := 96) hx hcd dX7_overStays_7 (by decide) (fun c1 => ?_) (fun c1 => ?_)
  · have ho := gif_p ho c1
    refine lv_iload_n hx hcd dX7_overStays_96 rfl (lv_at hl 2 rfl) ?_
    obtain rfl := hret _ (Option.some.inj ho).symm
    exact g_iret hC hr hlk hsz hW dX7_overStays_97
  · have ho := gif_n ho c1
    refine lv_aload_n hx hcd dX7_overStays_10 rfl (lv_at hl 0 rfl) ?_
    refine lv_iload_n hx hcd dX7_overStays_11 rfl (lv_at hl 3 rfl) ?_
    obtain ⟨r3, h2, ho⟩ := gb_some ho
    refine g_calli hW (g_runV (As := [.int x3]) (rest := []) (i := 132) hC hW (c_X7_isStay l D y ad x3 _ _ h2) ok_X7_91 ⟨rfl, rfl, Nat.le_of_ble_eq_true rfl, Nat.le_of_ble_eq_true rfl⟩ (by decide) rfl rfl rfl rfl hl.1 rfl (Nat.le_of_ble_eq_true rfl) dX7_overStays_12 ⟨Nat.zero_le _, Nat.zero_le _⟩) (fun H locs hW => ?_)
    refine lv_if_eq (tgt := 90) hx hcd dX7_overStays_15 (by decide) (fun c4 => ?_) (fun c4 => ?_)
    · have ho := gif_p ho c4
      refine lv_iinc (v := x3 + 1) (lv' := [(3, .int (x3 + 1)), (0, .ref (ad 132)), (1, .int x1), (2, .int x2)]) hx hcd dX7_overStays_90 hl (k := 3) rfl rfl (by decide) rfl (fun ls hl => ?_)
      refine lv_goto (tgt := 4) hx hcd dX7_overStays_93 (by decide) ?_
      exact hjmp _ (Option.some.inj ho).symm _ _ _ hW (lv_sub hl [1, 2, 3, 0] rfl)
    · have ho := gif_n ho c4
      refine lv_aload_n hx hcd dX7_overStays_18 rfl (lv_at hl 0 rfl) ?_
      refine lv_iload_n hx hcd dX7_overStays_19 rfl (lv_at hl 3 rfl) ?_
      obtain ⟨r6, h5, ho⟩ := gb_some ho
      refine g_calli hW (g_runV (As := [.int x3]) (rest := []) (i := 132) hC hW (c_X7_to l D y ad x3 _ _ h5) ok_X7_106 ⟨rfl, rfl, Nat.le_of_ble_eq_true rfl, Nat.le_of_ble_eq_true rfl⟩ (by decide) rfl rfl rfl rfl hl.1 rfl (Nat.le_of_ble_eq_true rfl) dX7_overStays_20 ⟨Nat.zero_le _, Nat.zero_le _⟩) (fun H locs hW => ?_)
      refine lv_aload_n hx hcd dX7_overStays_23 rfl (lv_at hl 0 rfl) ?_
      refine lv_iload_n hx hcd dX7_overStays_24 rfl (lv_at hl 3 rfl) ?_
      obtain ⟨r8, h7, ho⟩ := gb_some ho
      refine g_calli hW (g_runV (As := [.int x3]) (rest := [.int r6]) (i := 132) hC hW (c_X7_from l D y ad x3 _ _ h7) ok_X7_103 ⟨rfl, rfl, Nat.le_of_ble_eq_true rfl, Nat.le_of_ble_eq_true rfl⟩ (by decide) rfl rfl rfl rfl hl.1 rfl (Nat.le_of_ble_eq_true rfl) dX7_overStays_25 ⟨Nat.zero_le _, Nat.zero_le _⟩) (fun H locs hW => ?_)
      refine lv_isub hx hcd dX7_overStays_28 ?_
      refine lv_istore (lv' := [(4, .int (r6 - r8)), (0, .ref (ad 132)), (1, .int x1), (2, .int x2), (3, .int x3)]) hx hcd dX7_overStays_29 hl (by decide) rfl (fun ls hl => ?_)
      refine lv_iload_n hx hcd dX7_overStays_31 rfl (lv_at hl 3 rfl) ?_
      refine lv_iload_n hx hcd dX7_overStays_32 rfl (lv_at hl 2 rfl) ?_
      refine lv_bipush (v := 6) hx hcd dX7_overStays_33 (by decide) ?_
      refine lv_icmp_ne (tgt := 43) hx hcd dX7_overStays_35 (by decide) (fun c9 => ?_) (fun c9 => ?_)
      · have ho := gif_n ho c9
        refine lv_aload_n hx hcd dX7_overStays_43 rfl (lv_at hl 1 rfl) ?_
        refine lv_iload_n hx hcd dX7_overStays_44 rfl (lv_at hl 4 rfl) ?_
        obtain ⟨r11, h10, ho⟩ := gb_some ho
        refine g_calli hW (g_runV (As := [.int x3]) (rest := [.int x2]) (i := 132) hC hW (c_X7_isOn l D y ad x3 _ _ h10) ok_X7_97 ⟨rfl, rfl, Nat.le_of_ble_eq_true rfl, Nat.le_of_ble_eq_true rfl⟩ (by decide) rfl rfl rfl rfl hl.1 rfl (Nat.le_of_ble_eq_true rfl) dX7_overStays_45 ⟨Nat.zero_le _, Nat.zero_le _⟩) (fun H locs hW => ?_)
        refine lv_if_ne (tgt := 55) hx hcd dX7_overStays_48 (by decide) (fun c12 => ?_) (fun c12 => ?_)
        · have ho := gif_n ho c12
          refine lv_iload_n hx hcd dX7_overStays_55 rfl (lv_at hl 2 rfl) ?_
          refine lv_iconst (v := 3) hx hcd dX7_overStays_56 (by decide) ?_
          refine lv_icmp_ne (tgt := 64) hx hcd dX7_overStays_57 (by decide) (fun c13 => ?_) (fun c13 => ?_)
          · have ho := gif_n ho c13
            refine lv_iload_n hx hcd dX7_overStays_64 rfl (lv_at hl 2 rfl) ?_
            refine lv_bipush (v := 7) hx hcd dX7_overStays_65 (by decide) ?_
            refine lv_icmp_ne (tgt := 75) hx hcd dX7_overStays_67 (by decide) (fun c14 => ?_) (fun c14 => ?_)
            · have ho := gif_n ho c14
              refine lv_aload_n hx hcd dX7_overStays_75 rfl (lv_at hl 1 rfl) ?_
              refine lv_iload_n hx hcd dX7_overStays_76 rfl (lv_at hl 4 rfl) ?_
              obtain ⟨r16, h15, ho⟩ := gb_some ho
              refine g_calli hW (g_runV (As := [.int x3]) (rest := [.int x2]) (i := 132) hC hW (c_X7_isHindered l D y ad x3 _ _ h15) ok_X7_125 ⟨rfl, rfl, Nat.le_of_ble_eq_true rfl, Nat.le_of_ble_eq_true rfl⟩ (by decide) rfl rfl rfl rfl hl.1 rfl (Nat.le_of_ble_eq_true rfl) dX7_overStays_77 ⟨Nat.zero_le _, Nat.zero_le _⟩) (fun H locs hW => ?_)
              refine lv_if_eq (tgt := 87) hx hcd dX7_overStays_80 (by decide) (fun c17 => ?_) (fun c17 => ?_)
              · have ho := gif_p ho c17
                refine lv_iconst (v := 0) hx hcd dX7_overStays_87 (by decide) ?_
                refine lv_iadd hx hcd dX7_overStays_88 ?_
                refine lv_istore_n (lv' := [(2, .int (x2 + (0 : Int32))), (4, .int (r6 - r8)), (0, .ref (ad 132)), (1, .int x1), (3, .int x3)]) hx hcd dX7_overStays_89 rfl hl (by decide) rfl (fun ls hl => ?_)
                refine lv_iinc (v := x3 + 1) (lv' := [(3, .int (x3 + 1)), (2, .int (x2 + (0 : Int32))), (4, .int (r6 - r8)), (0, .ref (ad 132)), (1, .int x1)]) hx hcd dX7_overStays_90 hl (k := 4) rfl rfl (by decide) rfl (fun ls hl => ?_)
                refine lv_goto (tgt := 4) hx hcd dX7_overStays_93 (by decide) ?_
                exact hjmp _ (Option.some.inj ho).symm _ _ _ hW (lv_sub hl [3, 4, 1, 0] rfl)
              · have ho := gif_n ho c17
                refine lv_iconst (v := 1) hx hcd dX7_overStays_83 (by decide) ?_
                refine lv_goto (tgt := 88) hx hcd dX7_overStays_84 (by decide) ?_
                refine lv_iadd hx hcd dX7_overStays_88 ?_
                refine lv_istore_n (lv' := [(2, .int (x2 + (1 : Int32))), (4, .int (r6 - r8)), (0, .ref (ad 132)), (1, .int x1), (3, .int x3)]) hx hcd dX7_overStays_89 rfl hl (by decide) rfl (fun ls hl => ?_)
                refine lv_iinc (v := x3 + 1) (lv' := [(3, .int (x3 + 1)), (2, .int (x2 + (1 : Int32))), (4, .int (r6 - r8)), (0, .ref (ad 132)), (1, .int x1)]) hx hcd dX7_overStays_90 hl (k := 4) rfl rfl (by decide) rfl (fun ls hl => ?_)
                refine lv_goto (tgt := 4) hx hcd dX7_overStays_93 (by decide) ?_
                exact hjmp _ (Option.some.inj ho).symm _ _ _ hW (lv_sub hl [3, 4, 1, 0] rfl)
            · have ho := gif_p ho c14
              refine lv_iload hx hcd dX7_overStays_70 (lv_at hl 0 rfl) ?_
              refine lv_goto (tgt := 88) hx hcd dX7_overStays_72 (by decide) ?_
              refine lv_iadd hx hcd dX7_overStays_88 ?_
              refine lv_istore_n (lv' := [(2, .int (x2 + (r6 - r8))), (4, .int (r6 - r8)), (0, .ref (ad 132)), (1, .int x1), (3, .int x3)]) hx hcd dX7_overStays_89 rfl hl (by decide) rfl (fun ls hl => ?_)
              refine lv_iinc (v := x3 + 1) (lv' := [(3, .int (x3 + 1)), (2, .int (x2 + (r6 - r8))), (4, .int (r6 - r8)), (0, .ref (ad 132)), (1, .int x1)]) hx hcd dX7_overStays_90 hl (k := 4) rfl rfl (by decide) rfl (fun ls hl => ?_)
              refine lv_goto (tgt := 4) hx hcd dX7_overStays_93 (by decide) ?_
              exact hjmp _ (Option.some.inj ho).symm _ _ _ hW (lv_sub hl [3, 4, 1, 0] rfl)
          · have ho := gif_p ho c13
            refine lv_iconst (v := 1) hx hcd dX7_overStays_60 (by decide) ?_
            refine lv_goto (tgt := 88) hx hcd dX7_overStays_61 (by decide) ?_
            refine lv_iadd hx hcd dX7_overStays_88 ?_
            refine lv_istore_n (lv' := [(2, .int (x2 + (1 : Int32))), (4, .int (r6 - r8)), (0, .ref (ad 132)), (1, .int x1), (3, .int x3)]) hx hcd dX7_overStays_89 rfl hl (by decide) rfl (fun ls hl => ?_)
            refine lv_iinc (v := x3 + 1) (lv' := [(3, .int (x3 + 1)), (2, .int (x2 + (1 : Int32))), (4, .int (r6 - r8)), (0, .ref (ad 132)), (1, .int x1)]) hx hcd dX7_overStays_90 hl (k := 4) rfl rfl (by decide) rfl (fun ls hl => ?_)
            refine lv_goto (tgt := 4) hx hcd dX7_overStays_93 (by decide) ?_
            exact hjmp _ (Option.some.inj ho).symm _ _ _ hW (lv_sub hl [3, 4, 1, 0] rfl)
        · have ho := gif_p ho c12
          refine lv_iconst (v := 0) hx hcd dX7_overStays_51 (by decide) ?_
          refine lv_goto (tgt := 88) hx hcd dX7_overStays_52 (by decide) ?_
          refine lv_iadd hx hcd dX7_overStays_88 ?_
          refine lv_istore_n (lv' := [(2, .int (x2 + (0 : Int32))), (4, .int (r6 - r8)), (0, .ref (ad 132)), (1, .int x1), (3, .int x3)]) hx hcd dX7_overStays_89 rfl hl (by decide) rfl (fun ls hl => ?_)
          refine lv_iinc (v := x3 + 1) (lv' := [(3, .int (x3 + 1)), (2, .int (x2 + (0 : Int32))), (4, .int (r6 - r8)), (0, .ref (ad 132)), (1, .int x1)]) hx hcd dX7_overStays_90 hl (k := 4) rfl rfl (by decide) rfl (fun ls hl => ?_)
          refine lv_goto (tgt := 4) hx hcd dX7_overStays_93 (by decide) ?_
          exact hjmp _ (Option.some.inj ho).symm _ _ _ hW (lv_sub hl [3, 4, 1, 0] rfl)
      · have ho := gif_p ho c9
        refine lv_iload hx hcd dX7_overStays_38 (lv_at hl 0 rfl) ?_
        refine lv_goto (tgt := 88) hx hcd dX7_overStays_40 (by decide) ?_
        refine lv_iadd hx hcd dX7_overStays_88 ?_
        refine lv_istore_n (lv' := [(2, .int (x2 + (r6 - r8))), (4, .int (r6 - r8)), (0, .ref (ad 132)), (1, .int x1), (3, .int x3)]) hx hcd dX7_overStays_89 rfl hl (by decide) rfl (fun ls hl => ?_)
        refine lv_iinc (v := x3 + 1) (lv' := [(3, .int (x3 + 1)), (2, .int (x2 + (r6 - r8))), (4, .int (r6 - r8)), (0, .ref (ad 132)), (1, .int x1)]) hx hcd dX7_overStays_90 hl (k := 4) rfl rfl (by decide) rfl (fun ls hl => ?_)
        refine lv_goto (tgt := 4) hx hcd dX7_overStays_93 (by decide) ?_
        exact hjmp _ (Option.some.inj ho).symm _ _ _ hW (lv_sub hl [3, 4, 1, 0] rfl)
set_option maxHeartbeats 4000000 in
set_option maxRecDepth 100000 in
theorem c_X7_overStays (l : Launch) (D : va_G) (y : ClassId × ClassId × ClassId) (ad : Nat → Nat) (x1 : Int32) (σ : gS) (sz : Nat) {q : Int32} (h : X7_overStays σ x1 = some q) : Met l yX7_overStays (Cond.code yX7_overStays cX7_overStays 5 (some .int) :: gl) ({ frames := 5, cells := 0, slots := 0, locals := 106 }) (g_Pc D y ad σ sz [.ref (ad 132), .int x1]) (g_Qi D y ad σ sz q) 0 0 (g_A ad sz) := by
  have ho := h
  unfold X7_overStays at ho
  refine g_start (by decide) (Nat.le_of_ble_eq_true rfl) (fun p e s m below meth c ls hC hr hlk hsz hW hl => ?_)
  have hx := hC.1
  have hcd := hC.2.1
  have hl : lv_has ls 5 [(0, .ref (ad 132)), (1, .int x1)] := hl
  refine lv_iconst (v := 0) hx hcd dX7_overStays_0 (by decide) ?_
  refine lv_istore_n (lv' := [(2, .int 0), (0, .ref (ad 132)), (1, .int x1)]) hx hcd dX7_overStays_1 rfl hl (by decide) rfl (fun ls hl => ?_)
  refine lv_iconst (v := 0) hx hcd dX7_overStays_2 (by decide) ?_
  refine lv_istore_n (lv' := [(3, .int 0), (2, .int 0), (0, .ref (ad 132)), (1, .int x1)]) hx hcd dX7_overStays_3 rfl hl (by decide) rfl (fun ls hl => ?_)
  exact l_X7_overStays l D y ad σ sz hC hr hlk hsz _ ho _ _ _ hW (lv_sub hl [2, 3, 1, 0] rfl)
