noncomputable def X6_addStand (σ : gS) (x1 : Int32) (x2 : Int32) : Option ((String ⊕ Int32) × gS) :=
  if x1 < 0 then (some (.inl "java/lang/IllegalArgumentException", σ)) else (if 2 < x1 then (some (.inl "java/lang/IllegalArgumentException", σ)) else (if x2 < 0 then (some (.inl "java/lang/IllegalArgumentException", σ)) else (if x2 ≤ 3 then (if (σ 24 0) < 8 then ((X4_remember σ 24).bind fun σ7 => (X0_newStand σ7 24 x1 x2).bind fun q9 => some (.inr q9.1, q9.2)) else (some (.inl "java/lang/IllegalStateException", σ))) else (some (.inl "java/lang/IllegalArgumentException", σ)))))
set_option maxHeartbeats 4000000 in
set_option maxRecDepth 100000 in
theorem c_X6_addStand (l : Launch) (hfl : l.stackTraces = false) (D : va_G) (y : ClassId × ClassId × ClassId) (ad : Nat → Nat) (x1 : Int32) (x2 : Int32) (σ : gS) (sz : Nat) {q : (String ⊕ Int32) × gS} (h : X6_addStand σ x1 x2 = some q) : vx_Met l yX6_addStand (Cond.code yX6_addStand cX6_addStand 3 (some .int) :: gl) ({ frames := 7, cells := 1, slots := 6, locals := 100 }) (g_PcX D y ad σ sz [.ref (ad 0), .int x1, .int x2]) (g_QX D y ad sz q) (g_XX D y ad sz q) 1 6 (g_A ad sz) := by
  have ho := h
  unfold X6_addStand at ho
  refine g_startX (by decide) (Nat.le_of_ble_eq_true rfl) (fun p e s m below meth c ls hC hr hlk hsz hW hl ht hZ => ?_)
  have hx := hC.1
  have hcd := hC.2.1
  have hl : lv_has ls 3 [(0, .ref (ad 0)), (1, .int x1), (2, .int x2)] := hl
  refine lv_iload_n hx hcd dX6_addStand_0 rfl (lv_at hl 1 rfl) ?_
  refine lv_if_lt (tgt := 18) hx hcd dX6_addStand_1 (by decide) (fun c1 => ?_) (fun c1 => ?_)
  · have ho := gif_p ho c1
    exact g_throw hfl ox_IllegalArgumentException (text := "kind or size out of range") (Option.some.inj ho) hC hlk ht hZ hl.1 hW (List.mem_of_getElem? (i := 0) rfl) dX6_addStand_18 dX6_addStand_21 dX6_addStand_22 dX6_addStand_24 dX6_addStand_27 ⟨Nat.le_of_ble_eq_true rfl, Nat.le_of_ble_eq_true rfl, Nat.le_of_ble_eq_true rfl, Nat.le_of_ble_eq_true rfl⟩
  · have ho := gif_n ho c1
    refine lv_iload_n hx hcd dX6_addStand_4 rfl (lv_at hl 1 rfl) ?_
    refine lv_iconst (v := 2) hx hcd dX6_addStand_5 (by decide) ?_
    refine lv_icmp_gt (tgt := 18) hx hcd dX6_addStand_6 (by decide) (fun c2 => ?_) (fun c2 => ?_)
    · have ho := gif_p ho c2
      exact g_throw hfl ox_IllegalArgumentException (text := "kind or size out of range") (Option.some.inj ho) hC hlk ht hZ hl.1 hW (List.mem_of_getElem? (i := 0) rfl) dX6_addStand_18 dX6_addStand_21 dX6_addStand_22 dX6_addStand_24 dX6_addStand_27 ⟨Nat.le_of_ble_eq_true rfl, Nat.le_of_ble_eq_true rfl, Nat.le_of_ble_eq_true rfl, Nat.le_of_ble_eq_true rfl⟩
    · have ho := gif_n ho c2
      refine lv_iload_n hx hcd dX6_addStand_9 rfl (lv_at hl 2 rfl) ?_
      refine lv_if_lt (tgt := 18) hx hcd dX6_addStand_10 (by decide) (fun c3 => ?_) (fun c3 => ?_)
      · have ho := gif_p ho c3
        exact g_throw hfl ox_IllegalArgumentException (text := "kind or size out of range") (Option.some.inj ho) hC hlk ht hZ hl.1 hW (List.mem_of_getElem? (i := 0) rfl) dX6_addStand_18 dX6_addStand_21 dX6_addStand_22 dX6_addStand_24 dX6_addStand_27 ⟨Nat.le_of_ble_eq_true rfl, Nat.le_of_ble_eq_true rfl, Nat.le_of_ble_eq_true rfl, Nat.le_of_ble_eq_true rfl⟩
      · have ho := gif_n ho c3
        refine lv_iload_n hx hcd dX6_addStand_13 rfl (lv_at hl 2 rfl) ?_
        refine lv_iconst (v := 3) hx hcd dX6_addStand_14 (by decide) ?_
        refine lv_icmp_le (tgt := 28) hx hcd dX6_addStand_15 (by decide) (fun c4 => ?_) (fun c4 => ?_)
        · have ho := gif_p ho c4
          refine lv_aload_n hx hcd dX6_addStand_28 rfl (lv_at hl 0 rfl) ?_
          refine g_getr hC hW (C := RX6) (T := TX6) (N := 11) (ci := 8) (k := 0) (index := 12) (i := 0) (r := 24) inGX6 rfl (by decide) fl_X6_12 (by decide) rfl rfl dX6_addStand_29 ?_
          refine g_geti hC hW (C := RX0) (T := TX0) (N := 16) (ci := 2) (k := 0) (index := 81) (i := 24) inGX0 rfl (by decide) fl_X6_81 (g_lt_air g_air24) (g_sh_air g_air24) rfl dX6_addStand_32 ?_
          refine lv_bipush (v := 8) hx hcd dX6_addStand_35 (by decide) ?_
          refine lv_icmp_lt (tgt := 50) hx hcd dX6_addStand_37 (by decide) (fun c5 => ?_) (fun c5 => ?_)
          · have ho := gif_p ho c5
            refine lv_aload_n hx hcd dX6_addStand_50 rfl (lv_at hl 0 rfl) ?_
            refine g_getr hC hW (C := RX6) (T := TX6) (N := 11) (ci := 8) (k := 3) (index := 25) (i := 0) (r := 2) inGX6 rfl (by decide) fl_X6_25 (by decide) rfl rfl dX6_addStand_51 ?_
            refine lv_aload_n hx hcd dX6_addStand_54 rfl (lv_at hl 0 rfl) ?_
            refine g_getr hC hW (C := RX6) (T := TX6) (N := 11) (ci := 8) (k := 0) (index := 12) (i := 0) (r := 24) inGX6 rfl (by decide) fl_X6_12 (by decide) rfl rfl dX6_addStand_55 ?_
            obtain ⟨σ7, h6, ho⟩ := gb_some ho
            refine g_callv hW (g_runV (As := [.ref (ad 24)]) (rest := []) (i := 2) hC hW (c_X4_remember l D y ad g_air24 _ _ h6) ok_X6_89 ⟨rfl, rfl, Nat.le_of_ble_eq_true rfl, Nat.le_of_ble_eq_true rfl⟩ (by decide) rfl rfl rfl rfl hl.1 rfl (Nat.le_of_ble_eq_true rfl) dX6_addStand_58 ⟨Nat.zero_le _, Nat.zero_le _⟩) (fun H locs hW => ?_)
            refine lv_aload_n hx hcd dX6_addStand_61 rfl (lv_at hl 0 rfl) ?_
            refine g_getr hC hW (C := RX6) (T := TX6) (N := 11) (ci := 8) (k := 0) (index := 12) (i := 0) (r := 24) inGX6 rfl (by decide) fl_X6_12 (by decide) rfl rfl dX6_addStand_62 ?_
            refine lv_iload_n hx hcd dX6_addStand_65 rfl (lv_at hl 1 rfl) ?_
            refine lv_iload_n hx hcd dX6_addStand_66 rfl (lv_at hl 2 rfl) ?_
            obtain ⟨q9, h8, ho⟩ := gb_some ho
            refine g_calli hW (g_runV (As := [.int x1, .int x2]) (rest := []) (i := 24) hC hW (c_X0_newStand l D y ad g_air24 x1 x2 _ _ h8) ok_X6_93 ⟨rfl, rfl, Nat.le_of_ble_eq_true rfl, Nat.le_of_ble_eq_true rfl⟩ (g_lt_air g_air24) (g_sh_air g_air24) rfl rfl rfl hl.1 rfl (Nat.le_of_ble_eq_true rfl) dX6_addStand_67 ⟨Nat.zero_le _, Nat.zero_le _⟩) (fun H locs hW => ?_)
            exact g_iretX (Option.some.inj ho) hC hr hlk hsz hW dX6_addStand_70
          · have ho := gif_n ho c5
            exact g_throw hfl ox_IllegalStateException (text := "no more stands") (Option.some.inj ho) hC hlk ht hZ hl.1 hW (List.mem_of_getElem? (i := 1) rfl) dX6_addStand_40 dX6_addStand_43 dX6_addStand_44 dX6_addStand_46 dX6_addStand_49 ⟨Nat.le_of_ble_eq_true rfl, Nat.le_of_ble_eq_true rfl, Nat.le_of_ble_eq_true rfl, Nat.le_of_ble_eq_true rfl⟩
        · have ho := gif_n ho c4
          exact g_throw hfl ox_IllegalArgumentException (text := "kind or size out of range") (Option.some.inj ho) hC hlk ht hZ hl.1 hW (List.mem_of_getElem? (i := 0) rfl) dX6_addStand_18 dX6_addStand_21 dX6_addStand_22 dX6_addStand_24 dX6_addStand_27 ⟨Nat.le_of_ble_eq_true rfl, Nat.le_of_ble_eq_true rfl, Nat.le_of_ble_eq_true rfl, Nat.le_of_ble_eq_true rfl⟩
noncomputable def X6_pair (σ : gS) (x1 : Int32) (x2 : Int32) (x3 : Int32) : Option ((String ⊕ Int32) × gS) :=
  (X0_hasStand σ 24 x1).bind fun r2 => if r2 = 0 then (some (.inl "java/lang/IndexOutOfBoundsException", σ)) else ((X0_hasStand σ 24 x2).bind fun r5 => if r5 = 0 then (some (.inl "java/lang/IndexOutOfBoundsException", σ)) else (if x1 = x2 then (some (.inl "java/lang/IllegalArgumentException", σ)) else (if x3 < (-1) then (some (.inl "java/lang/IllegalArgumentException", σ)) else (if x3 ≤ 6 then ((X4_remember σ 24).bind fun σ11 => (X0_changeLimit σ11 24 x1 x2 x3).bind fun q13 => some (.inr q13.1, q13.2)) else (some (.inl "java/lang/IllegalArgumentException", σ))))))
set_option maxHeartbeats 4000000 in
set_option maxRecDepth 100000 in
theorem c_X6_pair (l : Launch) (hfl : l.stackTraces = false) (D : va_G) (y : ClassId × ClassId × ClassId) (ad : Nat → Nat) (x1 : Int32) (x2 : Int32) (x3 : Int32) (σ : gS) (sz : Nat) {q : (String ⊕ Int32) × gS} (h : X6_pair σ x1 x2 x3 = some q) : vx_Met l yX6_pair (Cond.code yX6_pair cX6_pair 4 (some .int) :: gl) ({ frames := 7, cells := 1, slots := 6, locals := 100 }) (g_PcX D y ad σ sz [.ref (ad 0), .int x1, .int x2, .int x3]) (g_QX D y ad sz q) (g_XX D y ad sz q) 1 6 (g_A ad sz) := by
  have ho := h
  unfold X6_pair at ho
  refine g_startX (by decide) (Nat.le_of_ble_eq_true rfl) (fun p e s m below meth c ls hC hr hlk hsz hW hl ht hZ => ?_)
  have hx := hC.1
  have hcd := hC.2.1
  have hl : lv_has ls 4 [(0, .ref (ad 0)), (1, .int x1), (2, .int x2), (3, .int x3)] := hl
  refine lv_aload_n hx hcd dX6_pair_0 rfl (lv_at hl 0 rfl) ?_
  refine g_getr hC hW (C := RX6) (T := TX6) (N := 11) (ci := 8) (k := 0) (index := 12) (i := 0) (r := 24) inGX6 rfl (by decide) fl_X6_12 (by decide) rfl rfl dX6_pair_1 ?_
  refine lv_iload_n hx hcd dX6_pair_4 rfl (lv_at hl 1 rfl) ?_
  obtain ⟨r2, h1, ho⟩ := gb_some ho
  refine g_calli hW (g_runV (As := [.int x1]) (rest := []) (i := 24) hC hW (c_X0_hasStand l D y ad g_air24 x1 _ _ h1) ok_X6_97 ⟨rfl, rfl, Nat.le_of_ble_eq_true rfl, Nat.le_of_ble_eq_true rfl⟩ (g_lt_air g_air24) (g_sh_air g_air24) rfl rfl rfl hl.1 rfl (Nat.le_of_ble_eq_true rfl) dX6_pair_5 ⟨Nat.zero_le _, Nat.zero_le _⟩) (fun H locs hW => ?_)
  refine lv_if_eq (tgt := 22) hx hcd dX6_pair_8 (by decide) (fun c3 => ?_) (fun c3 => ?_)
  · have ho := gif_p ho c3
    exact g_throw hfl ox_IndexOutOfBoundsException (text := "no such stand") (Option.some.inj ho) hC hlk ht hZ hl.1 hW (List.mem_of_getElem? (i := 2) rfl) dX6_pair_22 dX6_pair_25 dX6_pair_26 dX6_pair_28 dX6_pair_31 ⟨Nat.le_of_ble_eq_true rfl, Nat.le_of_ble_eq_true rfl, Nat.le_of_ble_eq_true rfl, Nat.le_of_ble_eq_true rfl⟩
  · have ho := gif_n ho c3
    refine lv_aload_n hx hcd dX6_pair_11 rfl (lv_at hl 0 rfl) ?_
    refine g_getr hC hW (C := RX6) (T := TX6) (N := 11) (ci := 8) (k := 0) (index := 12) (i := 0) (r := 24) inGX6 rfl (by decide) fl_X6_12 (by decide) rfl rfl dX6_pair_12 ?_
    refine lv_iload_n hx hcd dX6_pair_15 rfl (lv_at hl 2 rfl) ?_
    obtain ⟨r5, h4, ho⟩ := gb_some ho
    refine g_calli hW (g_runV (As := [.int x2]) (rest := []) (i := 24) hC hW (c_X0_hasStand l D y ad g_air24 x2 _ _ h4) ok_X6_97 ⟨rfl, rfl, Nat.le_of_ble_eq_true rfl, Nat.le_of_ble_eq_true rfl⟩ (g_lt_air g_air24) (g_sh_air g_air24) rfl rfl rfl hl.1 rfl (Nat.le_of_ble_eq_true rfl) dX6_pair_16 ⟨Nat.zero_le _, Nat.zero_le _⟩) (fun H locs hW => ?_)
    refine lv_if_ne (tgt := 32) hx hcd dX6_pair_19 (by decide) (fun c6 => ?_) (fun c6 => ?_)
    · have ho := gif_n ho c6
      refine lv_iload_n hx hcd dX6_pair_32 rfl (lv_at hl 1 rfl) ?_
      refine lv_iload_n hx hcd dX6_pair_33 rfl (lv_at hl 2 rfl) ?_
      refine lv_icmp_eq (tgt := 48) hx hcd dX6_pair_34 (by decide) (fun c7 => ?_) (fun c7 => ?_)
      · have ho := gif_p ho c7
        exact g_throw hfl ox_IllegalArgumentException (text := "the same stand, or limit out of range") (Option.some.inj ho) hC hlk ht hZ hl.1 hW (List.mem_of_getElem? (i := 3) rfl) dX6_pair_48 dX6_pair_51 dX6_pair_52 dX6_pair_54 dX6_pair_57 ⟨Nat.le_of_ble_eq_true rfl, Nat.le_of_ble_eq_true rfl, Nat.le_of_ble_eq_true rfl, Nat.le_of_ble_eq_true rfl⟩
      · have ho := gif_n ho c7
        refine lv_iload_n hx hcd dX6_pair_37 rfl (lv_at hl 3 rfl) ?_
        refine lv_iconst (v := (-1)) hx hcd dX6_pair_38 (by decide) ?_
        refine lv_icmp_lt (tgt := 48) hx hcd dX6_pair_39 (by decide) (fun c8 => ?_) (fun c8 => ?_)
        · have ho := gif_p ho c8
          exact g_throw hfl ox_IllegalArgumentException (text := "the same stand, or limit out of range") (Option.some.inj ho) hC hlk ht hZ hl.1 hW (List.mem_of_getElem? (i := 3) rfl) dX6_pair_48 dX6_pair_51 dX6_pair_52 dX6_pair_54 dX6_pair_57 ⟨Nat.le_of_ble_eq_true rfl, Nat.le_of_ble_eq_true rfl, Nat.le_of_ble_eq_true rfl, Nat.le_of_ble_eq_true rfl⟩
        · have ho := gif_n ho c8
          refine lv_iload_n hx hcd dX6_pair_42 rfl (lv_at hl 3 rfl) ?_
          refine lv_bipush (v := 6) hx hcd dX6_pair_43 (by decide) ?_
          refine lv_icmp_le (tgt := 58) hx hcd dX6_pair_45 (by decide) (fun c9 => ?_) (fun c9 => ?_)
          · have ho := gif_p ho c9
            refine lv_aload_n hx hcd dX6_pair_58 rfl (lv_at hl 0 rfl) ?_
            refine g_getr hC hW (C := RX6) (T := TX6) (N := 11) (ci := 8) (k := 3) (index := 25) (i := 0) (r := 2) inGX6 rfl (by decide) fl_X6_25 (by decide) rfl rfl dX6_pair_59 ?_
            refine lv_aload_n hx hcd dX6_pair_62 rfl (lv_at hl 0 rfl) ?_
            refine g_getr hC hW (C := RX6) (T := TX6) (N := 11) (ci := 8) (k := 0) (index := 12) (i := 0) (r := 24) inGX6 rfl (by decide) fl_X6_12 (by decide) rfl rfl dX6_pair_63 ?_
            obtain ⟨σ11, h10, ho⟩ := gb_some ho
            refine g_callv hW (g_runV (As := [.ref (ad 24)]) (rest := []) (i := 2) hC hW (c_X4_remember l D y ad g_air24 _ _ h10) ok_X6_89 ⟨rfl, rfl, Nat.le_of_ble_eq_true rfl, Nat.le_of_ble_eq_true rfl⟩ (by decide) rfl rfl rfl rfl hl.1 rfl (Nat.le_of_ble_eq_true rfl) dX6_pair_66 ⟨Nat.zero_le _, Nat.zero_le _⟩) (fun H locs hW => ?_)
            refine lv_aload_n hx hcd dX6_pair_69 rfl (lv_at hl 0 rfl) ?_
            refine g_getr hC hW (C := RX6) (T := TX6) (N := 11) (ci := 8) (k := 0) (index := 12) (i := 0) (r := 24) inGX6 rfl (by decide) fl_X6_12 (by decide) rfl rfl dX6_pair_70 ?_
            refine lv_iload_n hx hcd dX6_pair_73 rfl (lv_at hl 1 rfl) ?_
            refine lv_iload_n hx hcd dX6_pair_74 rfl (lv_at hl 2 rfl) ?_
            refine lv_iload_n hx hcd dX6_pair_75 rfl (lv_at hl 3 rfl) ?_
            obtain ⟨q13, h12, ho⟩ := gb_some ho
            refine g_calli hW (g_runV (As := [.int x1, .int x2, .int x3]) (rest := []) (i := 24) hC hW (c_X0_changeLimit l D y ad g_air24 x1 x2 x3 _ _ h12) ok_X6_108 ⟨rfl, rfl, Nat.le_of_ble_eq_true rfl, Nat.le_of_ble_eq_true rfl⟩ (g_lt_air g_air24) (g_sh_air g_air24) rfl rfl rfl hl.1 rfl (Nat.le_of_ble_eq_true rfl) dX6_pair_76 ⟨Nat.zero_le _, Nat.zero_le _⟩) (fun H locs hW => ?_)
            exact g_iretX (Option.some.inj ho) hC hr hlk hsz hW dX6_pair_79
          · have ho := gif_n ho c9
            exact g_throw hfl ox_IllegalArgumentException (text := "the same stand, or limit out of range") (Option.some.inj ho) hC hlk ht hZ hl.1 hW (List.mem_of_getElem? (i := 3) rfl) dX6_pair_48 dX6_pair_51 dX6_pair_52 dX6_pair_54 dX6_pair_57 ⟨Nat.le_of_ble_eq_true rfl, Nat.le_of_ble_eq_true rfl, Nat.le_of_ble_eq_true rfl, Nat.le_of_ble_eq_true rfl⟩
    · have ho := gif_p ho c6
      exact g_throw hfl ox_IndexOutOfBoundsException (text := "no such stand") (Option.some.inj ho) hC hlk ht hZ hl.1 hW (List.mem_of_getElem? (i := 2) rfl) dX6_pair_22 dX6_pair_25 dX6_pair_26 dX6_pair_28 dX6_pair_31 ⟨Nat.le_of_ble_eq_true rfl, Nat.le_of_ble_eq_true rfl, Nat.le_of_ble_eq_true rfl, Nat.le_of_ble_eq_true rfl⟩
noncomputable def X6_setOpen (σ : gS) (x1 : Int32) (x2 : Int32) : Option ((String ⊕ Int32) × gS) :=
  (X0_hasStand σ 24 x1).bind fun r2 => if r2 = 0 then (some (.inl "java/lang/IndexOutOfBoundsException", σ)) else ((X4_remember σ 24).bind fun σ5 => (X0_changeOpen σ5 24 x1 x2).bind fun q7 => gd (bz q7.1) <| some (.inr q7.1, q7.2))
set_option maxHeartbeats 4000000 in
set_option maxRecDepth 100000 in
theorem c_X6_setOpen (l : Launch) (hfl : l.stackTraces = false) (D : va_G) (y : ClassId × ClassId × ClassId) (ad : Nat → Nat) (x1 : Int32) (x2 : Int32) (σ : gS) (sz : Nat) {q : (String ⊕ Int32) × gS} (h : X6_setOpen σ x1 x2 = some q) : vx_Met l yX6_setOpen (Cond.code yX6_setOpen cX6_setOpen 3 (some .boolean) :: gl) ({ frames := 7, cells := 1, slots := 6, locals := 100 }) (g_PcX D y ad σ sz [.ref (ad 0), .int x1, .int x2]) (g_QX D y ad sz q) (g_XX D y ad sz q) 1 6 (g_A ad sz) := by
  have ho := h
  unfold X6_setOpen at ho
  refine g_startX (by decide) (Nat.le_of_ble_eq_true rfl) (fun p e s m below meth c ls hC hr hlk hsz hW hl ht hZ => ?_)
  have hx := hC.1
  have hcd := hC.2.1
  have hl : lv_has ls 3 [(0, .ref (ad 0)), (1, .int x1), (2, .int x2)] := hl
  refine lv_aload_n hx hcd dX6_setOpen_0 rfl (lv_at hl 0 rfl) ?_
  refine g_getr hC hW (C := RX6) (T := TX6) (N := 11) (ci := 8) (k := 0) (index := 12) (i := 0) (r := 24) inGX6 rfl (by decide) fl_X6_12 (by decide) rfl rfl dX6_setOpen_1 ?_
  refine lv_iload_n hx hcd dX6_setOpen_4 rfl (lv_at hl 1 rfl) ?_
  obtain ⟨r2, h1, ho⟩ := gb_some ho
  refine g_calli hW (g_runV (As := [.int x1]) (rest := []) (i := 24) hC hW (c_X0_hasStand l D y ad g_air24 x1 _ _ h1) ok_X6_97 ⟨rfl, rfl, Nat.le_of_ble_eq_true rfl, Nat.le_of_ble_eq_true rfl⟩ (g_lt_air g_air24) (g_sh_air g_air24) rfl rfl rfl hl.1 rfl (Nat.le_of_ble_eq_true rfl) dX6_setOpen_5 ⟨Nat.zero_le _, Nat.zero_le _⟩) (fun H locs hW => ?_)
  refine lv_if_ne (tgt := 21) hx hcd dX6_setOpen_8 (by decide) (fun c3 => ?_) (fun c3 => ?_)
  · have ho := gif_n ho c3
    refine lv_aload_n hx hcd dX6_setOpen_21 rfl (lv_at hl 0 rfl) ?_
    refine g_getr hC hW (C := RX6) (T := TX6) (N := 11) (ci := 8) (k := 3) (index := 25) (i := 0) (r := 2) inGX6 rfl (by decide) fl_X6_25 (by decide) rfl rfl dX6_setOpen_22 ?_
    refine lv_aload_n hx hcd dX6_setOpen_25 rfl (lv_at hl 0 rfl) ?_
    refine g_getr hC hW (C := RX6) (T := TX6) (N := 11) (ci := 8) (k := 0) (index := 12) (i := 0) (r := 24) inGX6 rfl (by decide) fl_X6_12 (by decide) rfl rfl dX6_setOpen_26 ?_
    obtain ⟨σ5, h4, ho⟩ := gb_some ho
    refine g_callv hW (g_runV (As := [.ref (ad 24)]) (rest := []) (i := 2) hC hW (c_X4_remember l D y ad g_air24 _ _ h4) ok_X6_89 ⟨rfl, rfl, Nat.le_of_ble_eq_true rfl, Nat.le_of_ble_eq_true rfl⟩ (by decide) rfl rfl rfl rfl hl.1 rfl (Nat.le_of_ble_eq_true rfl) dX6_setOpen_29 ⟨Nat.zero_le _, Nat.zero_le _⟩) (fun H locs hW => ?_)
    refine lv_aload_n hx hcd dX6_setOpen_32 rfl (lv_at hl 0 rfl) ?_
    refine g_getr hC hW (C := RX6) (T := TX6) (N := 11) (ci := 8) (k := 0) (index := 12) (i := 0) (r := 24) inGX6 rfl (by decide) fl_X6_12 (by decide) rfl rfl dX6_setOpen_33 ?_
    refine lv_iload_n hx hcd dX6_setOpen_36 rfl (lv_at hl 1 rfl) ?_
    refine lv_iload_n hx hcd dX6_setOpen_37 rfl (lv_at hl 2 rfl) ?_
    obtain ⟨q7, h6, ho⟩ := gb_some ho
    refine g_calli hW (g_runV (As := [.int x1, .int x2]) (rest := []) (i := 24) hC hW (c_X0_changeOpen l D y ad g_air24 x1 x2 _ _ h6) ok_X6_112 ⟨rfl, rfl, Nat.le_of_ble_eq_true rfl, Nat.le_of_ble_eq_true rfl⟩ (g_lt_air g_air24) (g_sh_air g_air24) rfl rfl rfl hl.1 rfl (Nat.le_of_ble_eq_true rfl) dX6_setOpen_38 ⟨Nat.zero_le _, Nat.zero_le _⟩) (fun H locs hW => ?_)
    obtain ⟨z8, ho⟩ := gd_some ho
    exact g_zretX (r := q7.1) (Option.some.inj ho) hC hr hlk hsz hW z8 dX6_setOpen_41
  · have ho := gif_p ho c3
    exact g_throw hfl ox_IndexOutOfBoundsException (text := "no such stand") (Option.some.inj ho) hC hlk ht hZ hl.1 hW (List.mem_of_getElem? (i := 2) rfl) dX6_setOpen_11 dX6_setOpen_14 dX6_setOpen_15 dX6_setOpen_17 dX6_setOpen_20 ⟨Nat.le_of_ble_eq_true rfl, Nat.le_of_ble_eq_true rfl, Nat.le_of_ble_eq_true rfl, Nat.le_of_ble_eq_true rfl⟩
noncomputable def X6_setBuffer (σ : gS) (x1 : Int32) : Option ((String ⊕ Int32) × gS) :=
  if x1 < 0 then (some (.inl "java/lang/IllegalArgumentException", σ)) else (if x1 ≤ 60 then ((X4_remember σ 24).bind fun σ4 => lt_ (g_up σ4 24 2 x1) fun σ5 => some (.inr (σ4 24 2), σ5)) else (some (.inl "java/lang/IllegalArgumentException", σ)))
set_option maxHeartbeats 4000000 in
set_option maxRecDepth 100000 in
theorem c_X6_setBuffer (l : Launch) (hfl : l.stackTraces = false) (D : va_G) (y : ClassId × ClassId × ClassId) (ad : Nat → Nat) (x1 : Int32) (σ : gS) (sz : Nat) {q : (String ⊕ Int32) × gS} (h : X6_setBuffer σ x1 = some q) : vx_Met l yX6_setBuffer (Cond.code yX6_setBuffer cX6_setBuffer 3 (some .int) :: gl) ({ frames := 7, cells := 1, slots := 6, locals := 100 }) (g_PcX D y ad σ sz [.ref (ad 0), .int x1]) (g_QX D y ad sz q) (g_XX D y ad sz q) 1 6 (g_A ad sz) := by
  have ho := h
  unfold X6_setBuffer at ho
  refine g_startX (by decide) (Nat.le_of_ble_eq_true rfl) (fun p e s m below meth c ls hC hr hlk hsz hW hl ht hZ => ?_)
  have hx := hC.1
  have hcd := hC.2.1
  have hl : lv_has ls 3 [(0, .ref (ad 0)), (1, .int x1)] := hl
  refine lv_iload_n hx hcd dX6_setBuffer_0 rfl (lv_at hl 1 rfl) ?_
  refine lv_if_lt (tgt := 10) hx hcd dX6_setBuffer_1 (by decide) (fun c1 => ?_) (fun c1 => ?_)
  · have ho := gif_p ho c1
    exact g_throw hfl ox_IllegalArgumentException (text := "buffer out of range") (Option.some.inj ho) hC hlk ht hZ hl.1 hW (List.mem_of_getElem? (i := 4) rfl) dX6_setBuffer_10 dX6_setBuffer_13 dX6_setBuffer_14 dX6_setBuffer_16 dX6_setBuffer_19 ⟨Nat.le_of_ble_eq_true rfl, Nat.le_of_ble_eq_true rfl, Nat.le_of_ble_eq_true rfl, Nat.le_of_ble_eq_true rfl⟩
  · have ho := gif_n ho c1
    refine lv_iload_n hx hcd dX6_setBuffer_4 rfl (lv_at hl 1 rfl) ?_
    refine lv_bipush (v := 60) hx hcd dX6_setBuffer_5 (by decide) ?_
    refine lv_icmp_le (tgt := 20) hx hcd dX6_setBuffer_7 (by decide) (fun c2 => ?_) (fun c2 => ?_)
    · have ho := gif_p ho c2
      refine lv_aload_n hx hcd dX6_setBuffer_20 rfl (lv_at hl 0 rfl) ?_
      refine g_getr hC hW (C := RX6) (T := TX6) (N := 11) (ci := 8) (k := 3) (index := 25) (i := 0) (r := 2) inGX6 rfl (by decide) fl_X6_25 (by decide) rfl rfl dX6_setBuffer_21 ?_
      refine lv_aload_n hx hcd dX6_setBuffer_24 rfl (lv_at hl 0 rfl) ?_
      refine g_getr hC hW (C := RX6) (T := TX6) (N := 11) (ci := 8) (k := 0) (index := 12) (i := 0) (r := 24) inGX6 rfl (by decide) fl_X6_12 (by decide) rfl rfl dX6_setBuffer_25 ?_
      obtain ⟨σ4, h3, ho⟩ := gb_some ho
      refine g_callv hW (g_runV (As := [.ref (ad 24)]) (rest := []) (i := 2) hC hW (c_X4_remember l D y ad g_air24 _ _ h3) ok_X6_89 ⟨rfl, rfl, Nat.le_of_ble_eq_true rfl, Nat.le_of_ble_eq_true rfl⟩ (by decide) rfl rfl rfl rfl hl.1 rfl (Nat.le_of_ble_eq_true rfl) dX6_setBuffer_28 ⟨Nat.zero_le _, Nat.zero_le _⟩) (fun H locs hW => ?_)
      refine lv_aload_n hx hcd dX6_setBuffer_31 rfl (lv_at hl 0 rfl) ?_
      refine g_getr hC hW (C := RX6) (T := TX6) (N := 11) (ci := 8) (k := 0) (index := 12) (i := 0) (r := 24) inGX6 rfl (by decide) fl_X6_12 (by decide) rfl rfl dX6_setBuffer_32 ?_
      refine g_geti hC hW (C := RX0) (T := TX0) (N := 16) (ci := 2) (k := 2) (index := 118) (i := 24) inGX0 rfl (by decide) fl_X6_118 (g_lt_air g_air24) (g_sh_air g_air24) rfl dX6_setBuffer_35 ?_
      refine lv_istore_n (lv' := [(2, .int (σ4 24 2)), (0, .ref (ad 0)), (1, .int x1)]) hx hcd dX6_setBuffer_38 rfl hl (by decide) rfl (fun ls hl => ?_)
      refine lv_aload_n hx hcd dX6_setBuffer_39 rfl (lv_at hl 1 rfl) ?_
      refine g_getr hC hW (C := RX6) (T := TX6) (N := 11) (ci := 8) (k := 0) (index := 12) (i := 0) (r := 24) inGX6 rfl (by decide) fl_X6_12 (by decide) rfl rfl dX6_setBuffer_40 ?_
      refine lv_iload_n hx hcd dX6_setBuffer_43 rfl (lv_at hl 2 rfl) ?_
      obtain ⟨σ5, eσ5, ho⟩ := lt_ex ho
      refine g_puti hC hW (C := RX0) (T := TX0) (N := 16) (ci := 2) (k := 2) (index := 118) (i := 24) inGX0 tyX0 tyX0_ok nmX0 rfl (by decide) fl_X6_118 rfl (g_lt_air g_air24) (g_sh_air g_air24) rfl rfl rfl dX6_setBuffer_44 (fun H locs hW => ?_)
      rw [← eσ5] at hW
      refine lv_iload_n hx hcd dX6_setBuffer_47 rfl (lv_at hl 0 rfl) ?_
      exact g_iretX (Option.some.inj ho) hC hr hlk hsz hW dX6_setBuffer_48
    · have ho := gif_n ho c2
      exact g_throw hfl ox_IllegalArgumentException (text := "buffer out of range") (Option.some.inj ho) hC hlk ht hZ hl.1 hW (List.mem_of_getElem? (i := 4) rfl) dX6_setBuffer_10 dX6_setBuffer_13 dX6_setBuffer_14 dX6_setBuffer_16 dX6_setBuffer_19 ⟨Nat.le_of_ble_eq_true rfl, Nat.le_of_ble_eq_true rfl, Nat.le_of_ble_eq_true rfl, Nat.le_of_ble_eq_true rfl⟩
noncomputable def X6_stand (σ : gS) (x1 : Int32) (x2 : Int32) : Option ((String ⊕ Int32) × gS) :=
  (X0_hasStand σ 24 x1).bind fun r2 => if r2 = 0 then (some (.inl "java/lang/IndexOutOfBoundsException", σ)) else (if x2 = 0 then (gd (ib x1 8) <| some (.inr (σ (24 + 1) x1.toNatClampNeg), σ)) else (if x2 = 1 then (gd (ib x1 8) <| some (.inr (σ (24 + 2) x1.toNatClampNeg), σ)) else (if x2 = 2 then ((X0_isOpened σ 24 x1).bind fun r10 => if r10 = 0 then (some (.inr 0, σ)) else (some (.inr 1, σ))) else (if x2 = 3 then ((X0_partnersOf σ 24 x1).bind fun r14 => some (.inr r14, σ)) else (if x2 = 4 then ((X0_staysOn σ 24 x1).bind fun r17 => (J6_bitCount_0f7a4 σ r17).bind fun r19 => some (.inr r19, σ)) else (if x2 = 5 then ((X0_staysOn σ 24 x1).bind fun r22 => (X0_lengthOf σ 24 r22).bind fun r24 => some (.inr r24, σ)) else (if x2 = 6 then ((X0_troubledOn σ 24 x1).bind fun r27 => some (.inr r27, σ)) else (some (.inl "java/lang/IllegalArgumentException", σ)))))))))
set_option maxHeartbeats 4000000 in
set_option maxRecDepth 100000 in
theorem c_X6_stand (l : Launch) (hfl : l.stackTraces = false) (D : va_G) (y : ClassId × ClassId × ClassId) (ad : Nat → Nat) (x1 : Int32) (x2 : Int32) (σ : gS) (sz : Nat) {q : (String ⊕ Int32) × gS} (h : X6_stand σ x1 x2 = some q) : vx_Met l yX6_stand (Cond.code yX6_stand cX6_stand 3 (some .int) :: gl) ({ frames := 7, cells := 1, slots := 6, locals := 115 }) (g_PcX D y ad σ sz [.ref (ad 0), .int x1, .int x2]) (g_QX D y ad sz q) (g_XX D y ad sz q) 1 6 (g_A ad sz) := by
  have ho := h
  unfold X6_stand at ho
  refine g_startX (by decide) (Nat.le_of_ble_eq_true rfl) (fun p e s m below meth c ls hC hr hlk hsz hW hl ht hZ => ?_)
  have hx := hC.1
  have hcd := hC.2.1
  have hl : lv_has ls 3 [(0, .ref (ad 0)), (1, .int x1), (2, .int x2)] := hl
  refine lv_aload_n hx hcd dX6_stand_0 rfl (lv_at hl 0 rfl) ?_
  refine g_getr hC hW (C := RX6) (T := TX6) (N := 11) (ci := 8) (k := 0) (index := 12) (i := 0) (r := 24) inGX6 rfl (by decide) fl_X6_12 (by decide) rfl rfl dX6_stand_1 ?_
  refine lv_iload_n hx hcd dX6_stand_4 rfl (lv_at hl 1 rfl) ?_
  obtain ⟨r2, h1, ho⟩ := gb_some ho
  refine g_calli hW (g_runV (As := [.int x1]) (rest := []) (i := 24) hC hW (c_X0_hasStand l D y ad g_air24 x1 _ _ h1) ok_X6_97 ⟨rfl, rfl, Nat.le_of_ble_eq_true rfl, Nat.le_of_ble_eq_true rfl⟩ (g_lt_air g_air24) (g_sh_air g_air24) rfl rfl rfl hl.1 rfl (Nat.le_of_ble_eq_true rfl) dX6_stand_5 ⟨Nat.zero_le _, Nat.zero_le _⟩) (fun H locs hW => ?_)
  refine lv_if_ne (tgt := 21) hx hcd dX6_stand_8 (by decide) (fun c3 => ?_) (fun c3 => ?_)
  · have ho := gif_n ho c3
    refine lv_iload_n hx hcd dX6_stand_21 rfl (lv_at hl 2 rfl) ?_
    by_cases c4 : x2 = 0
    · have ho := gif_p ho c4
      refine lv_tableIn (tgt := 64) hx hcd dX6_stand_22 (by rw [c4]; decide) (by rw [c4]; decide) (by rw [c4]; rfl) (by decide) ?_
      refine lv_aload_n hx hcd dX6_stand_64 rfl (lv_at hl 0 rfl) ?_
      refine g_getr hC hW (C := RX6) (T := TX6) (N := 11) (ci := 8) (k := 0) (index := 12) (i := 0) (r := 24) inGX6 rfl (by decide) fl_X6_12 (by decide) rfl rfl dX6_stand_65 ?_
      refine g_getr hC hW (C := RX0) (T := TX0) (N := 16) (ci := 2) (k := 5) (index := 121) (i := 24) (r := (24 + 1)) inGX0 rfl (by decide) fl_X6_121 (g_lt_air g_air24) (g_sh_air g_air24) rfl dX6_stand_68 ?_
      refine lv_iload_n hx hcd dX6_stand_71 rfl (lv_at hl 1 rfl) ?_
      obtain ⟨i5, ho⟩ := gd_some ho
      refine g_iald hC hW (i := (24 + 1)) (g_lt_arr (j := 1) g_air24 (by decide)) (g_sa1 g_air24) i5 dX6_stand_72 ?_
      exact g_iretX (Option.some.inj ho) hC hr hlk hsz hW dX6_stand_73
    have ho := gif_n ho c4
    by_cases c6 : x2 = 1
    · have ho := gif_p ho c6
      refine lv_tableIn (tgt := 74) hx hcd dX6_stand_22 (by rw [c6]; decide) (by rw [c6]; decide) (by rw [c6]; rfl) (by decide) ?_
      refine lv_aload_n hx hcd dX6_stand_74 rfl (lv_at hl 0 rfl) ?_
      refine g_getr hC hW (C := RX6) (T := TX6) (N := 11) (ci := 8) (k := 0) (index := 12) (i := 0) (r := 24) inGX6 rfl (by decide) fl_X6_12 (by decide) rfl rfl dX6_stand_75 ?_
      refine g_getr hC hW (C := RX0) (T := TX0) (N := 16) (ci := 2) (k := 6) (index := 124) (i := 24) (r := (24 + 2)) inGX0 rfl (by decide) fl_X6_124 (g_lt_air g_air24) (g_sh_air g_air24) rfl dX6_stand_78 ?_
      refine lv_iload_n hx hcd dX6_stand_81 rfl (lv_at hl 1 rfl) ?_
      obtain ⟨i7, ho⟩ := gd_some ho
      refine g_iald hC hW (i := (24 + 2)) (g_lt_arr (j := 2) g_air24 (by decide)) (g_sa2 g_air24) i7 dX6_stand_82 ?_
      exact g_iretX (Option.some.inj ho) hC hr hlk hsz hW dX6_stand_83
    have ho := gif_n ho c6
    by_cases c8 : x2 = 2
    · have ho := gif_p ho c8
      refine lv_tableIn (tgt := 84) hx hcd dX6_stand_22 (by rw [c8]; decide) (by rw [c8]; decide) (by rw [c8]; rfl) (by decide) ?_
      refine lv_aload_n hx hcd dX6_stand_84 rfl (lv_at hl 0 rfl) ?_
      refine g_getr hC hW (C := RX6) (T := TX6) (N := 11) (ci := 8) (k := 0) (index := 12) (i := 0) (r := 24) inGX6 rfl (by decide) fl_X6_12 (by decide) rfl rfl dX6_stand_85 ?_
      refine lv_iload_n hx hcd dX6_stand_88 rfl (lv_at hl 1 rfl) ?_
      obtain ⟨r10, h9, ho⟩ := gb_some ho
      refine g_calli hW (g_runV (As := [.int x1]) (rest := []) (i := 24) hC hW (c_X0_isOpened l D y ad g_air24 x1 _ _ h9) ok_X6_127 ⟨rfl, rfl, Nat.le_of_ble_eq_true rfl, Nat.le_of_ble_eq_true rfl⟩ (g_lt_air g_air24) (g_sh_air g_air24) rfl rfl rfl hl.1 rfl (Nat.le_of_ble_eq_true rfl) dX6_stand_89 ⟨Nat.zero_le _, Nat.zero_le _⟩) (fun H locs hW => ?_)
      refine lv_if_eq (tgt := 99) hx hcd dX6_stand_92 (by decide) (fun c11 => ?_) (fun c11 => ?_)
      · have ho := gif_p ho c11
        refine lv_iconst (v := 0) hx hcd dX6_stand_99 (by decide) ?_
        exact g_iretX (Option.some.inj ho) hC hr hlk hsz hW dX6_stand_100
      · have ho := gif_n ho c11
        refine lv_iconst (v := 1) hx hcd dX6_stand_95 (by decide) ?_
        refine lv_goto (tgt := 100) hx hcd dX6_stand_96 (by decide) ?_
        exact g_iretX (Option.some.inj ho) hC hr hlk hsz hW dX6_stand_100
    have ho := gif_n ho c8
    by_cases c12 : x2 = 3
    · have ho := gif_p ho c12
      refine lv_tableIn (tgt := 101) hx hcd dX6_stand_22 (by rw [c12]; decide) (by rw [c12]; decide) (by rw [c12]; rfl) (by decide) ?_
      refine lv_aload_n hx hcd dX6_stand_101 rfl (lv_at hl 0 rfl) ?_
      refine g_getr hC hW (C := RX6) (T := TX6) (N := 11) (ci := 8) (k := 0) (index := 12) (i := 0) (r := 24) inGX6 rfl (by decide) fl_X6_12 (by decide) rfl rfl dX6_stand_102 ?_
      refine lv_iload_n hx hcd dX6_stand_105 rfl (lv_at hl 1 rfl) ?_
      obtain ⟨r14, h13, ho⟩ := gb_some ho
      refine g_calli hW (g_runV (As := [.int x1]) (rest := []) (i := 24) hC hW (c_X0_partnersOf l D y ad g_air24 x1 _ _ h13) ok_X6_130 ⟨rfl, rfl, Nat.le_of_ble_eq_true rfl, Nat.le_of_ble_eq_true rfl⟩ (g_lt_air g_air24) (g_sh_air g_air24) rfl rfl rfl hl.1 rfl (Nat.le_of_ble_eq_true rfl) dX6_stand_106 ⟨Nat.zero_le _, Nat.zero_le _⟩) (fun H locs hW => ?_)
      exact g_iretX (Option.some.inj ho) hC hr hlk hsz hW dX6_stand_109
    have ho := gif_n ho c12
    by_cases c15 : x2 = 4
    · have ho := gif_p ho c15
      refine lv_tableIn (tgt := 110) hx hcd dX6_stand_22 (by rw [c15]; decide) (by rw [c15]; decide) (by rw [c15]; rfl) (by decide) ?_
      refine lv_aload_n hx hcd dX6_stand_110 rfl (lv_at hl 0 rfl) ?_
      refine g_getr hC hW (C := RX6) (T := TX6) (N := 11) (ci := 8) (k := 0) (index := 12) (i := 0) (r := 24) inGX6 rfl (by decide) fl_X6_12 (by decide) rfl rfl dX6_stand_111 ?_
      refine lv_iload_n hx hcd dX6_stand_114 rfl (lv_at hl 1 rfl) ?_
      obtain ⟨r17, h16, ho⟩ := gb_some ho
      refine g_calli hW (g_runV (As := [.int x1]) (rest := []) (i := 24) hC hW (c_X0_staysOn l D y ad g_air24 x1 _ _ h16) ok_X6_134 ⟨rfl, rfl, Nat.le_of_ble_eq_true rfl, Nat.le_of_ble_eq_true rfl⟩ (g_lt_air g_air24) (g_sh_air g_air24) rfl rfl rfl hl.1 rfl (Nat.le_of_ble_eq_true rfl) dX6_stand_115 ⟨Nat.zero_le _, Nat.zero_le _⟩) (fun H locs hW => ?_)
      obtain ⟨r19, h18, ho⟩ := gb_some ho
      refine g_calli hW (g_runS (As := [.int r17]) (rest := []) hC hW (c_J6_bitCount_0f7a4 l D y ad r17 _ _ h18) ok_X6_137 ⟨rfl, rfl, Nat.le_of_ble_eq_true rfl, Nat.le_of_ble_eq_true rfl⟩ rfl hl.1 rfl (Nat.le_of_ble_eq_true rfl) dX6_stand_118 ⟨Nat.zero_le _, Nat.zero_le _⟩) (fun H locs hW => ?_)
      exact g_iretX (Option.some.inj ho) hC hr hlk hsz hW dX6_stand_121
    have ho := gif_n ho c15
    by_cases c20 : x2 = 5
    · have ho := gif_p ho c20
      refine lv_tableIn (tgt := 122) hx hcd dX6_stand_22 (by rw [c20]; decide) (by rw [c20]; decide) (by rw [c20]; rfl) (by decide) ?_
      refine lv_aload_n hx hcd dX6_stand_122 rfl (lv_at hl 0 rfl) ?_
      refine g_getr hC hW (C := RX6) (T := TX6) (N := 11) (ci := 8) (k := 0) (index := 12) (i := 0) (r := 24) inGX6 rfl (by decide) fl_X6_12 (by decide) rfl rfl dX6_stand_123 ?_
      refine lv_aload_n hx hcd dX6_stand_126 rfl (lv_at hl 0 rfl) ?_
      refine g_getr hC hW (C := RX6) (T := TX6) (N := 11) (ci := 8) (k := 0) (index := 12) (i := 0) (r := 24) inGX6 rfl (by decide) fl_X6_12 (by decide) rfl rfl dX6_stand_127 ?_
      refine lv_iload_n hx hcd dX6_stand_130 rfl (lv_at hl 1 rfl) ?_
      obtain ⟨r22, h21, ho⟩ := gb_some ho
      refine g_calli hW (g_runV (As := [.int x1]) (rest := [.ref (ad 24)]) (i := 24) hC hW (c_X0_staysOn l D y ad g_air24 x1 _ _ h21) ok_X6_134 ⟨rfl, rfl, Nat.le_of_ble_eq_true rfl, Nat.le_of_ble_eq_true rfl⟩ (g_lt_air g_air24) (g_sh_air g_air24) rfl rfl rfl hl.1 rfl (Nat.le_of_ble_eq_true rfl) dX6_stand_131 ⟨Nat.zero_le _, Nat.zero_le _⟩) (fun H locs hW => ?_)
      obtain ⟨r24, h23, ho⟩ := gb_some ho
      refine g_calli hW (g_runV (As := [.int r22]) (rest := []) (i := 24) hC hW (c_X0_lengthOf l D y ad g_air24 r22 _ _ h23) ok_X6_142 ⟨rfl, rfl, Nat.le_of_ble_eq_true rfl, Nat.le_of_ble_eq_true rfl⟩ (g_lt_air g_air24) (g_sh_air g_air24) rfl rfl rfl hl.1 rfl (Nat.le_of_ble_eq_true rfl) dX6_stand_134 ⟨Nat.zero_le _, Nat.zero_le _⟩) (fun H locs hW => ?_)
      exact g_iretX (Option.some.inj ho) hC hr hlk hsz hW dX6_stand_137
    have ho := gif_n ho c20
    by_cases c25 : x2 = 6
    · have ho := gif_p ho c25
      refine lv_tableIn (tgt := 138) hx hcd dX6_stand_22 (by rw [c25]; decide) (by rw [c25]; decide) (by rw [c25]; rfl) (by decide) ?_
      refine lv_aload_n hx hcd dX6_stand_138 rfl (lv_at hl 0 rfl) ?_
      refine g_getr hC hW (C := RX6) (T := TX6) (N := 11) (ci := 8) (k := 0) (index := 12) (i := 0) (r := 24) inGX6 rfl (by decide) fl_X6_12 (by decide) rfl rfl dX6_stand_139 ?_
      refine lv_iload_n hx hcd dX6_stand_142 rfl (lv_at hl 1 rfl) ?_
      obtain ⟨r27, h26, ho⟩ := gb_some ho
      refine g_calli hW (g_runV (As := [.int x1]) (rest := []) (i := 24) hC hW (c_X0_troubledOn l D y ad g_air24 x1 _ _ h26) ok_X6_145 ⟨rfl, rfl, Nat.le_of_ble_eq_true rfl, Nat.le_of_ble_eq_true rfl⟩ (g_lt_air g_air24) (g_sh_air g_air24) rfl rfl rfl hl.1 rfl (Nat.le_of_ble_eq_true rfl) dX6_stand_143 ⟨Nat.zero_le _, Nat.zero_le _⟩) (fun H locs hW => ?_)
      exact g_iretX (Option.some.inj ho) hC hr hlk hsz hW dX6_stand_146
    have ho := gif_n ho c25
    refine lv_tableOut (tgt := 147) hx hcd dX6_stand_22 (by have zc4 := lv_neT c4 (a := 0) rfl; have zc6 := lv_neT c6 (a := 1) rfl; have zc8 := lv_neT c8 (a := 2) rfl; have zc12 := lv_neT c12 (a := 3) rfl; have zc15 := lv_neT c15 (a := 4) rfl; have zc20 := lv_neT c20 (a := 5) rfl; have zc25 := lv_neT c25 (a := 6) rfl; omega) (by decide) ?_
    exact g_throw hfl ox_IllegalArgumentException (text := "what is not 0 to 6") (Option.some.inj ho) hC hlk ht hZ hl.1 hW (List.mem_of_getElem? (i := 5) rfl) dX6_stand_147 dX6_stand_150 dX6_stand_151 dX6_stand_153 dX6_stand_156 ⟨Nat.le_of_ble_eq_true rfl, Nat.le_of_ble_eq_true rfl, Nat.le_of_ble_eq_true rfl, Nat.le_of_ble_eq_true rfl⟩
  · have ho := gif_p ho c3
    exact g_throw hfl ox_IndexOutOfBoundsException (text := "no such stand") (Option.some.inj ho) hC hlk ht hZ hl.1 hW (List.mem_of_getElem? (i := 2) rfl) dX6_stand_11 dX6_stand_14 dX6_stand_15 dX6_stand_17 dX6_stand_20 ⟨Nat.le_of_ble_eq_true rfl, Nat.le_of_ble_eq_true rfl, Nat.le_of_ble_eq_true rfl, Nat.le_of_ble_eq_true rfl⟩
noncomputable def X6_at (σ : gS) (x1 : Int32) (x2 : Int32) : Option ((String ⊕ Int32) × gS) :=
  (X0_hasStand σ 24 x1).bind fun r2 => if r2 = 0 then (some (.inl "java/lang/IndexOutOfBoundsException", σ)) else (if x2 < 0 then (some (.inl "java/lang/IllegalArgumentException", σ)) else (if x2 ≤ 1440 then ((X0_stayAt σ 24 x1 x2).bind fun r7 => if 0 ≤ r7 then (some (.inr r7, σ)) else (some (.inl "java/util/NoSuchElementException", σ))) else (some (.inl "java/lang/IllegalArgumentException", σ))))
set_option maxHeartbeats 4000000 in
set_option maxRecDepth 100000 in
theorem c_X6_at (l : Launch) (hfl : l.stackTraces = false) (D : va_G) (y : ClassId × ClassId × ClassId) (ad : Nat → Nat) (x1 : Int32) (x2 : Int32) (σ : gS) (sz : Nat) {q : (String ⊕ Int32) × gS} (h : X6_at σ x1 x2 = some q) : vx_Met l yX6_at (Cond.code yX6_at cX6_at 4 (some .int) :: gl) ({ frames := 7, cells := 1, slots := 6, locals := 100 }) (g_PcX D y ad σ sz [.ref (ad 0), .int x1, .int x2]) (g_QX D y ad sz q) (g_XX D y ad sz q) 1 6 (g_A ad sz) := by
  have ho := h
  unfold X6_at at ho
  refine g_startX (by decide) (Nat.le_of_ble_eq_true rfl) (fun p e s m below meth c ls hC hr hlk hsz hW hl ht hZ => ?_)
  have hx := hC.1
  have hcd := hC.2.1
  have hl : lv_has ls 4 [(0, .ref (ad 0)), (1, .int x1), (2, .int x2)] := hl
  refine lv_aload_n hx hcd dX6_at_0 rfl (lv_at hl 0 rfl) ?_
  refine g_getr hC hW (C := RX6) (T := TX6) (N := 11) (ci := 8) (k := 0) (index := 12) (i := 0) (r := 24) inGX6 rfl (by decide) fl_X6_12 (by decide) rfl rfl dX6_at_1 ?_
  refine lv_iload_n hx hcd dX6_at_4 rfl (lv_at hl 1 rfl) ?_
  obtain ⟨r2, h1, ho⟩ := gb_some ho
  refine g_calli hW (g_runV (As := [.int x1]) (rest := []) (i := 24) hC hW (c_X0_hasStand l D y ad g_air24 x1 _ _ h1) ok_X6_97 ⟨rfl, rfl, Nat.le_of_ble_eq_true rfl, Nat.le_of_ble_eq_true rfl⟩ (g_lt_air g_air24) (g_sh_air g_air24) rfl rfl rfl hl.1 rfl (Nat.le_of_ble_eq_true rfl) dX6_at_5 ⟨Nat.zero_le _, Nat.zero_le _⟩) (fun H locs hW => ?_)
  refine lv_if_ne (tgt := 21) hx hcd dX6_at_8 (by decide) (fun c3 => ?_) (fun c3 => ?_)
  · have ho := gif_n ho c3
    refine lv_iload_n hx hcd dX6_at_21 rfl (lv_at hl 2 rfl) ?_
    refine lv_if_lt (tgt := 32) hx hcd dX6_at_22 (by decide) (fun c4 => ?_) (fun c4 => ?_)
    · have ho := gif_p ho c4
      exact g_throw hfl ox_IllegalArgumentException (text := "minute out of range") (Option.some.inj ho) hC hlk ht hZ hl.1 hW (List.mem_of_getElem? (i := 6) rfl) dX6_at_32 dX6_at_35 dX6_at_36 dX6_at_38 dX6_at_41 ⟨Nat.le_of_ble_eq_true rfl, Nat.le_of_ble_eq_true rfl, Nat.le_of_ble_eq_true rfl, Nat.le_of_ble_eq_true rfl⟩
    · have ho := gif_n ho c4
      refine lv_iload_n hx hcd dX6_at_25 rfl (lv_at hl 2 rfl) ?_
      refine lv_sipush (v := 1440) hx hcd dX6_at_26 (by decide) ?_
      refine lv_icmp_le (tgt := 42) hx hcd dX6_at_29 (by decide) (fun c5 => ?_) (fun c5 => ?_)
      · have ho := gif_p ho c5
        refine lv_aload_n hx hcd dX6_at_42 rfl (lv_at hl 0 rfl) ?_
        refine g_getr hC hW (C := RX6) (T := TX6) (N := 11) (ci := 8) (k := 0) (index := 12) (i := 0) (r := 24) inGX6 rfl (by decide) fl_X6_12 (by decide) rfl rfl dX6_at_43 ?_
        refine lv_iload_n hx hcd dX6_at_46 rfl (lv_at hl 1 rfl) ?_
        refine lv_iload_n hx hcd dX6_at_47 rfl (lv_at hl 2 rfl) ?_
        obtain ⟨r7, h6, ho⟩ := gb_some ho
        refine g_calli hW (g_runV (As := [.int x1, .int x2]) (rest := []) (i := 24) hC hW (c_X0_stayAt l D y ad g_air24 x1 x2 _ _ h6) ok_X6_152 ⟨rfl, rfl, Nat.le_of_ble_eq_true rfl, Nat.le_of_ble_eq_true rfl⟩ (g_lt_air g_air24) (g_sh_air g_air24) rfl rfl rfl hl.1 rfl (Nat.le_of_ble_eq_true rfl) dX6_at_48 ⟨Nat.zero_le _, Nat.zero_le _⟩) (fun H locs hW => ?_)
        refine lv_istore_n (lv' := [(3, .int r7), (0, .ref (ad 0)), (1, .int x1), (2, .int x2)]) hx hcd dX6_at_51 rfl hl (by decide) rfl (fun ls hl => ?_)
        refine lv_iload_n hx hcd dX6_at_52 rfl (lv_at hl 0 rfl) ?_
        refine lv_if_ge (tgt := 66) hx hcd dX6_at_53 (by decide) (fun c8 => ?_) (fun c8 => ?_)
        · have ho := gif_p ho c8
          refine lv_iload_n hx hcd dX6_at_66 rfl (lv_at hl 0 rfl) ?_
          exact g_iretX (Option.some.inj ho) hC hr hlk hsz hW dX6_at_67
        · have ho := gif_n ho c8
          exact g_throwN hfl (text := "no stay at this minute") (Option.some.inj ho) hC hlk ht hZ hl.1 hW (List.mem_of_getElem? (i := 7) rfl) dX6_at_56 dX6_at_59 dX6_at_60 dX6_at_62 dX6_at_65 ⟨Nat.le_of_ble_eq_true rfl, Nat.le_of_ble_eq_true rfl, Nat.le_of_ble_eq_true rfl, Nat.le_of_ble_eq_true rfl⟩
      · have ho := gif_n ho c5
        exact g_throw hfl ox_IllegalArgumentException (text := "minute out of range") (Option.some.inj ho) hC hlk ht hZ hl.1 hW (List.mem_of_getElem? (i := 6) rfl) dX6_at_32 dX6_at_35 dX6_at_36 dX6_at_38 dX6_at_41 ⟨Nat.le_of_ble_eq_true rfl, Nat.le_of_ble_eq_true rfl, Nat.le_of_ble_eq_true rfl, Nat.le_of_ble_eq_true rfl⟩
  · have ho := gif_p ho c3
    exact g_throw hfl ox_IndexOutOfBoundsException (text := "no such stand") (Option.some.inj ho) hC hlk ht hZ hl.1 hW (List.mem_of_getElem? (i := 2) rfl) dX6_at_11 dX6_at_14 dX6_at_15 dX6_at_17 dX6_at_20 ⟨Nat.le_of_ble_eq_true rfl, Nat.le_of_ble_eq_true rfl, Nat.le_of_ble_eq_true rfl, Nat.le_of_ble_eq_true rfl⟩
noncomputable def X6_gap (σ : gS) (x1 : Int32) (x2 : Int32) : Option ((String ⊕ Int32) × gS) :=
  (X0_hasStand σ 24 x1).bind fun r2 => if r2 = 0 then (some (.inl "java/lang/IndexOutOfBoundsException", σ)) else (if x2 < 0 then (some (.inl "java/lang/IllegalArgumentException", σ)) else (if x2 ≤ 1440 then ((X0_freeFrom σ 24 x1 x2).bind fun r7 => some (.inr r7, σ)) else (some (.inl "java/lang/IllegalArgumentException", σ))))
set_option maxHeartbeats 4000000 in
set_option maxRecDepth 100000 in
theorem c_X6_gap (l : Launch) (hfl : l.stackTraces = false) (D : va_G) (y : ClassId × ClassId × ClassId) (ad : Nat → Nat) (x1 : Int32) (x2 : Int32) (σ : gS) (sz : Nat) {q : (String ⊕ Int32) × gS} (h : X6_gap σ x1 x2 = some q) : vx_Met l yX6_gap (Cond.code yX6_gap cX6_gap 3 (some .int) :: gl) ({ frames := 7, cells := 1, slots := 6, locals := 100 }) (g_PcX D y ad σ sz [.ref (ad 0), .int x1, .int x2]) (g_QX D y ad sz q) (g_XX D y ad sz q) 1 6 (g_A ad sz) := by
  have ho := h
  unfold X6_gap at ho
  refine g_startX (by decide) (Nat.le_of_ble_eq_true rfl) (fun p e s m below meth c ls hC hr hlk hsz hW hl ht hZ => ?_)
  have hx := hC.1
  have hcd := hC.2.1
  have hl : lv_has ls 3 [(0, .ref (ad 0)), (1, .int x1), (2, .int x2)] := hl
  refine lv_aload_n hx hcd dX6_gap_0 rfl (lv_at hl 0 rfl) ?_
  refine g_getr hC hW (C := RX6) (T := TX6) (N := 11) (ci := 8) (k := 0) (index := 12) (i := 0) (r := 24) inGX6 rfl (by decide) fl_X6_12 (by decide) rfl rfl dX6_gap_1 ?_
  refine lv_iload_n hx hcd dX6_gap_4 rfl (lv_at hl 1 rfl) ?_
  obtain ⟨r2, h1, ho⟩ := gb_some ho
  refine g_calli hW (g_runV (As := [.int x1]) (rest := []) (i := 24) hC hW (c_X0_hasStand l D y ad g_air24 x1 _ _ h1) ok_X6_97 ⟨rfl, rfl, Nat.le_of_ble_eq_true rfl, Nat.le_of_ble_eq_true rfl⟩ (g_lt_air g_air24) (g_sh_air g_air24) rfl rfl rfl hl.1 rfl (Nat.le_of_ble_eq_true rfl) dX6_gap_5 ⟨Nat.zero_le _, Nat.zero_le _⟩) (fun H locs hW => ?_)
  refine lv_if_ne (tgt := 21) hx hcd dX6_gap_8 (by decide) (fun c3 => ?_) (fun c3 => ?_)
  · have ho := gif_n ho c3
    refine lv_iload_n hx hcd dX6_gap_21 rfl (lv_at hl 2 rfl) ?_
    refine lv_if_lt (tgt := 32) hx hcd dX6_gap_22 (by decide) (fun c4 => ?_) (fun c4 => ?_)
    · have ho := gif_p ho c4
      exact g_throw hfl ox_IllegalArgumentException (text := "minute out of range") (Option.some.inj ho) hC hlk ht hZ hl.1 hW (List.mem_of_getElem? (i := 6) rfl) dX6_gap_32 dX6_gap_35 dX6_gap_36 dX6_gap_38 dX6_gap_41 ⟨Nat.le_of_ble_eq_true rfl, Nat.le_of_ble_eq_true rfl, Nat.le_of_ble_eq_true rfl, Nat.le_of_ble_eq_true rfl⟩
    · have ho := gif_n ho c4
      refine lv_iload_n hx hcd dX6_gap_25 rfl (lv_at hl 2 rfl) ?_
      refine lv_sipush (v := 1440) hx hcd dX6_gap_26 (by decide) ?_
      refine lv_icmp_le (tgt := 42) hx hcd dX6_gap_29 (by decide) (fun c5 => ?_) (fun c5 => ?_)
      · have ho := gif_p ho c5
        refine lv_aload_n hx hcd dX6_gap_42 rfl (lv_at hl 0 rfl) ?_
        refine g_getr hC hW (C := RX6) (T := TX6) (N := 11) (ci := 8) (k := 0) (index := 12) (i := 0) (r := 24) inGX6 rfl (by decide) fl_X6_12 (by decide) rfl rfl dX6_gap_43 ?_
        refine lv_iload_n hx hcd dX6_gap_46 rfl (lv_at hl 1 rfl) ?_
        refine lv_iload_n hx hcd dX6_gap_47 rfl (lv_at hl 2 rfl) ?_
        obtain ⟨r7, h6, ho⟩ := gb_some ho
        refine g_calli hW (g_runV (As := [.int x1, .int x2]) (rest := []) (i := 24) hC hW (c_X0_freeFrom l D y ad g_air24 x1 x2 _ _ h6) ok_X6_160 ⟨rfl, rfl, Nat.le_of_ble_eq_true rfl, Nat.le_of_ble_eq_true rfl⟩ (g_lt_air g_air24) (g_sh_air g_air24) rfl rfl rfl hl.1 rfl (Nat.le_of_ble_eq_true rfl) dX6_gap_48 ⟨Nat.zero_le _, Nat.zero_le _⟩) (fun H locs hW => ?_)
        exact g_iretX (Option.some.inj ho) hC hr hlk hsz hW dX6_gap_51
      · have ho := gif_n ho c5
        exact g_throw hfl ox_IllegalArgumentException (text := "minute out of range") (Option.some.inj ho) hC hlk ht hZ hl.1 hW (List.mem_of_getElem? (i := 6) rfl) dX6_gap_32 dX6_gap_35 dX6_gap_36 dX6_gap_38 dX6_gap_41 ⟨Nat.le_of_ble_eq_true rfl, Nat.le_of_ble_eq_true rfl, Nat.le_of_ble_eq_true rfl, Nat.le_of_ble_eq_true rfl⟩
  · have ho := gif_p ho c3
    exact g_throw hfl ox_IndexOutOfBoundsException (text := "no such stand") (Option.some.inj ho) hC hlk ht hZ hl.1 hW (List.mem_of_getElem? (i := 2) rfl) dX6_gap_11 dX6_gap_14 dX6_gap_15 dX6_gap_17 dX6_gap_20 ⟨Nat.le_of_ble_eq_true rfl, Nat.le_of_ble_eq_true rfl, Nat.le_of_ble_eq_true rfl, Nat.le_of_ble_eq_true rfl⟩
noncomputable def X6_addTurn (σ : gS) (x1 : Int32) (x2 : Int32) (x3 : Int32) (x4 : Int32) : Option ((String ⊕ Int32) × gS) :=
  if x1 < 0 then (some (.inl "java/lang/IllegalArgumentException", σ)) else (if 3 < x1 then (some (.inl "java/lang/IllegalArgumentException", σ)) else (if x4 < 1 then (some (.inl "java/lang/IllegalArgumentException", σ)) else (if x4 ≤ 9 then (if x2 < 0 then (some (.inl "java/lang/IllegalArgumentException", σ)) else (if 1440 < x2 then (some (.inl "java/lang/IllegalArgumentException", σ)) else (if x3 < 0 then (some (.inl "java/lang/IllegalArgumentException", σ)) else (if x3 ≤ 1440 then (if 30 ≤ (x3 - x2) then (if (σ 24 1) < 10 then ((X4_remember σ 24).bind fun σ12 => (X0_newTurn σ12 24 x1 x2 x3 x4).bind fun q14 => some (.inr q14.1, q14.2)) else (some (.inl "java/lang/IllegalStateException", σ))) else (some (.inl "java/lang/IllegalArgumentException", σ))) else (some (.inl "java/lang/IllegalArgumentException", σ)))))) else (some (.inl "java/lang/IllegalArgumentException", σ)))))
set_option maxHeartbeats 4000000 in
set_option maxRecDepth 100000 in
theorem c_X6_addTurn (l : Launch) (hfl : l.stackTraces = false) (D : va_G) (y : ClassId × ClassId × ClassId) (ad : Nat → Nat) (x1 : Int32) (x2 : Int32) (x3 : Int32) (x4 : Int32) (σ : gS) (sz : Nat) {q : (String ⊕ Int32) × gS} (h : X6_addTurn σ x1 x2 x3 x4 = some q) : vx_Met l yX6_addTurn (Cond.code yX6_addTurn cX6_addTurn 5 (some .int) :: gl) ({ frames := 7, cells := 1, slots := 6, locals := 100 }) (g_PcX D y ad σ sz [.ref (ad 0), .int x1, .int x2, .int x3, .int x4]) (g_QX D y ad sz q) (g_XX D y ad sz q) 1 6 (g_A ad sz) := by
  have ho := h
  unfold X6_addTurn at ho
  refine g_startX (by decide) (Nat.le_of_ble_eq_true rfl) (fun p e s m below meth c ls hC hr hlk hsz hW hl ht hZ => ?_)
  have hx := hC.1
  have hcd := hC.2.1
  have hl : lv_has ls 5 [(0, .ref (ad 0)), (1, .int x1), (2, .int x2), (3, .int x3), (4, .int x4)] := hl
  refine lv_iload_n hx hcd dX6_addTurn_0 rfl (lv_at hl 1 rfl) ?_
  refine lv_if_lt (tgt := 22) hx hcd dX6_addTurn_1 (by decide) (fun c1 => ?_) (fun c1 => ?_)
  · have ho := gif_p ho c1
    exact g_throw hfl ox_IllegalArgumentException (text := "size or weight out of range") (Option.some.inj ho) hC hlk ht hZ hl.1 hW (List.mem_of_getElem? (i := 8) rfl) dX6_addTurn_22 dX6_addTurn_25 dX6_addTurn_26 dX6_addTurn_28 dX6_addTurn_31 ⟨Nat.le_of_ble_eq_true rfl, Nat.le_of_ble_eq_true rfl, Nat.le_of_ble_eq_true rfl, Nat.le_of_ble_eq_true rfl⟩
  · have ho := gif_n ho c1
    refine lv_iload_n hx hcd dX6_addTurn_4 rfl (lv_at hl 1 rfl) ?_
    refine lv_iconst (v := 3) hx hcd dX6_addTurn_5 (by decide) ?_
    refine lv_icmp_gt (tgt := 22) hx hcd dX6_addTurn_6 (by decide) (fun c2 => ?_) (fun c2 => ?_)
    · have ho := gif_p ho c2
      exact g_throw hfl ox_IllegalArgumentException (text := "size or weight out of range") (Option.some.inj ho) hC hlk ht hZ hl.1 hW (List.mem_of_getElem? (i := 8) rfl) dX6_addTurn_22 dX6_addTurn_25 dX6_addTurn_26 dX6_addTurn_28 dX6_addTurn_31 ⟨Nat.le_of_ble_eq_true rfl, Nat.le_of_ble_eq_true rfl, Nat.le_of_ble_eq_true rfl, Nat.le_of_ble_eq_true rfl⟩
    · have ho := gif_n ho c2
      refine lv_iload hx hcd dX6_addTurn_9 (lv_at hl 4 rfl) ?_
      refine lv_iconst (v := 1) hx hcd dX6_addTurn_11 (by decide) ?_
      refine lv_icmp_lt (tgt := 22) hx hcd dX6_addTurn_12 (by decide) (fun c3 => ?_) (fun c3 => ?_)
      · have ho := gif_p ho c3
        exact g_throw hfl ox_IllegalArgumentException (text := "size or weight out of range") (Option.some.inj ho) hC hlk ht hZ hl.1 hW (List.mem_of_getElem? (i := 8) rfl) dX6_addTurn_22 dX6_addTurn_25 dX6_addTurn_26 dX6_addTurn_28 dX6_addTurn_31 ⟨Nat.le_of_ble_eq_true rfl, Nat.le_of_ble_eq_true rfl, Nat.le_of_ble_eq_true rfl, Nat.le_of_ble_eq_true rfl⟩
      · have ho := gif_n ho c3
        refine lv_iload hx hcd dX6_addTurn_15 (lv_at hl 4 rfl) ?_
        refine lv_bipush (v := 9) hx hcd dX6_addTurn_17 (by decide) ?_
        refine lv_icmp_le (tgt := 32) hx hcd dX6_addTurn_19 (by decide) (fun c4 => ?_) (fun c4 => ?_)
        · have ho := gif_p ho c4
          refine lv_iload_n hx hcd dX6_addTurn_32 rfl (lv_at hl 2 rfl) ?_
          refine lv_if_lt (tgt := 54) hx hcd dX6_addTurn_33 (by decide) (fun c5 => ?_) (fun c5 => ?_)
          · have ho := gif_p ho c5
            exact g_throw hfl ox_IllegalArgumentException (text := "minute out of range") (Option.some.inj ho) hC hlk ht hZ hl.1 hW (List.mem_of_getElem? (i := 6) rfl) dX6_addTurn_54 dX6_addTurn_57 dX6_addTurn_58 dX6_addTurn_60 dX6_addTurn_63 ⟨Nat.le_of_ble_eq_true rfl, Nat.le_of_ble_eq_true rfl, Nat.le_of_ble_eq_true rfl, Nat.le_of_ble_eq_true rfl⟩
          · have ho := gif_n ho c5
            refine lv_iload_n hx hcd dX6_addTurn_36 rfl (lv_at hl 2 rfl) ?_
            refine lv_sipush (v := 1440) hx hcd dX6_addTurn_37 (by decide) ?_
            refine lv_icmp_gt (tgt := 54) hx hcd dX6_addTurn_40 (by decide) (fun c6 => ?_) (fun c6 => ?_)
            · have ho := gif_p ho c6
              exact g_throw hfl ox_IllegalArgumentException (text := "minute out of range") (Option.some.inj ho) hC hlk ht hZ hl.1 hW (List.mem_of_getElem? (i := 6) rfl) dX6_addTurn_54 dX6_addTurn_57 dX6_addTurn_58 dX6_addTurn_60 dX6_addTurn_63 ⟨Nat.le_of_ble_eq_true rfl, Nat.le_of_ble_eq_true rfl, Nat.le_of_ble_eq_true rfl, Nat.le_of_ble_eq_true rfl⟩
            · have ho := gif_n ho c6
              refine lv_iload_n hx hcd dX6_addTurn_43 rfl (lv_at hl 3 rfl) ?_
              refine lv_if_lt (tgt := 54) hx hcd dX6_addTurn_44 (by decide) (fun c7 => ?_) (fun c7 => ?_)
              · have ho := gif_p ho c7
                exact g_throw hfl ox_IllegalArgumentException (text := "minute out of range") (Option.some.inj ho) hC hlk ht hZ hl.1 hW (List.mem_of_getElem? (i := 6) rfl) dX6_addTurn_54 dX6_addTurn_57 dX6_addTurn_58 dX6_addTurn_60 dX6_addTurn_63 ⟨Nat.le_of_ble_eq_true rfl, Nat.le_of_ble_eq_true rfl, Nat.le_of_ble_eq_true rfl, Nat.le_of_ble_eq_true rfl⟩
              · have ho := gif_n ho c7
                refine lv_iload_n hx hcd dX6_addTurn_47 rfl (lv_at hl 3 rfl) ?_
                refine lv_sipush (v := 1440) hx hcd dX6_addTurn_48 (by decide) ?_
                refine lv_icmp_le (tgt := 64) hx hcd dX6_addTurn_51 (by decide) (fun c8 => ?_) (fun c8 => ?_)
                · have ho := gif_p ho c8
                  refine lv_iload_n hx hcd dX6_addTurn_64 rfl (lv_at hl 3 rfl) ?_
                  refine lv_iload_n hx hcd dX6_addTurn_65 rfl (lv_at hl 2 rfl) ?_
                  refine lv_isub hx hcd dX6_addTurn_66 ?_
                  refine lv_bipush (v := 30) hx hcd dX6_addTurn_67 (by decide) ?_
                  refine lv_icmp_ge (tgt := 82) hx hcd dX6_addTurn_69 (by decide) (fun c9 => ?_) (fun c9 => ?_)
                  · have ho := gif_p ho c9
                    refine lv_aload_n hx hcd dX6_addTurn_82 rfl (lv_at hl 0 rfl) ?_
                    refine g_getr hC hW (C := RX6) (T := TX6) (N := 11) (ci := 8) (k := 0) (index := 12) (i := 0) (r := 24) inGX6 rfl (by decide) fl_X6_12 (by decide) rfl rfl dX6_addTurn_83 ?_
                    refine g_geti hC hW (C := RX0) (T := TX0) (N := 16) (ci := 2) (k := 1) (index := 65) (i := 24) inGX0 rfl (by decide) fl_X6_65 (g_lt_air g_air24) (g_sh_air g_air24) rfl dX6_addTurn_86 ?_
                    refine lv_bipush (v := 10) hx hcd dX6_addTurn_89 (by decide) ?_
                    refine lv_icmp_lt (tgt := 104) hx hcd dX6_addTurn_91 (by decide) (fun c10 => ?_) (fun c10 => ?_)
                    · have ho := gif_p ho c10
                      refine lv_aload_n hx hcd dX6_addTurn_104 rfl (lv_at hl 0 rfl) ?_
                      refine g_getr hC hW (C := RX6) (T := TX6) (N := 11) (ci := 8) (k := 3) (index := 25) (i := 0) (r := 2) inGX6 rfl (by decide) fl_X6_25 (by decide) rfl rfl dX6_addTurn_105 ?_
                      refine lv_aload_n hx hcd dX6_addTurn_108 rfl (lv_at hl 0 rfl) ?_
                      refine g_getr hC hW (C := RX6) (T := TX6) (N := 11) (ci := 8) (k := 0) (index := 12) (i := 0) (r := 24) inGX6 rfl (by decide) fl_X6_12 (by decide) rfl rfl dX6_addTurn_109 ?_
                      obtain ⟨σ12, h11, ho⟩ := gb_some ho
                      refine g_callv hW (g_runV (As := [.ref (ad 24)]) (rest := []) (i := 2) hC hW (c_X4_remember l D y ad g_air24 _ _ h11) ok_X6_89 ⟨rfl, rfl, Nat.le_of_ble_eq_true rfl, Nat.le_of_ble_eq_true rfl⟩ (by decide) rfl rfl rfl rfl hl.1 rfl (Nat.le_of_ble_eq_true rfl) dX6_addTurn_112 ⟨Nat.zero_le _, Nat.zero_le _⟩) (fun H locs hW => ?_)
                      refine lv_aload_n hx hcd dX6_addTurn_115 rfl (lv_at hl 0 rfl) ?_
                      refine g_getr hC hW (C := RX6) (T := TX6) (N := 11) (ci := 8) (k := 0) (index := 12) (i := 0) (r := 24) inGX6 rfl (by decide) fl_X6_12 (by decide) rfl rfl dX6_addTurn_116 ?_
                      refine lv_iload_n hx hcd dX6_addTurn_119 rfl (lv_at hl 1 rfl) ?_
                      refine lv_iload_n hx hcd dX6_addTurn_120 rfl (lv_at hl 2 rfl) ?_
                      refine lv_iload_n hx hcd dX6_addTurn_121 rfl (lv_at hl 3 rfl) ?_
                      refine lv_iload hx hcd dX6_addTurn_122 (lv_at hl 4 rfl) ?_
                      obtain ⟨q14, h13, ho⟩ := gb_some ho
                      refine g_calli hW (g_runV (As := [.int x1, .int x2, .int x3, .int x4]) (rest := []) (i := 24) hC hW (c_X0_newTurn l D y ad g_air24 x1 x2 x3 x4 _ _ h13) ok_X6_169 ⟨rfl, rfl, Nat.le_of_ble_eq_true rfl, Nat.le_of_ble_eq_true rfl⟩ (g_lt_air g_air24) (g_sh_air g_air24) rfl rfl rfl hl.1 rfl (Nat.le_of_ble_eq_true rfl) dX6_addTurn_124 ⟨Nat.zero_le _, Nat.zero_le _⟩) (fun H locs hW => ?_)
                      exact g_iretX (Option.some.inj ho) hC hr hlk hsz hW dX6_addTurn_127
                    · have ho := gif_n ho c10
                      exact g_throw hfl ox_IllegalStateException (text := "no more turns") (Option.some.inj ho) hC hlk ht hZ hl.1 hW (List.mem_of_getElem? (i := 10) rfl) dX6_addTurn_94 dX6_addTurn_97 dX6_addTurn_98 dX6_addTurn_100 dX6_addTurn_103 ⟨Nat.le_of_ble_eq_true rfl, Nat.le_of_ble_eq_true rfl, Nat.le_of_ble_eq_true rfl, Nat.le_of_ble_eq_true rfl⟩
                  · have ho := gif_n ho c9
                    exact g_throw hfl ox_IllegalArgumentException (text := "departure too early") (Option.some.inj ho) hC hlk ht hZ hl.1 hW (List.mem_of_getElem? (i := 9) rfl) dX6_addTurn_72 dX6_addTurn_75 dX6_addTurn_76 dX6_addTurn_78 dX6_addTurn_81 ⟨Nat.le_of_ble_eq_true rfl, Nat.le_of_ble_eq_true rfl, Nat.le_of_ble_eq_true rfl, Nat.le_of_ble_eq_true rfl⟩
                · have ho := gif_n ho c8
                  exact g_throw hfl ox_IllegalArgumentException (text := "minute out of range") (Option.some.inj ho) hC hlk ht hZ hl.1 hW (List.mem_of_getElem? (i := 6) rfl) dX6_addTurn_54 dX6_addTurn_57 dX6_addTurn_58 dX6_addTurn_60 dX6_addTurn_63 ⟨Nat.le_of_ble_eq_true rfl, Nat.le_of_ble_eq_true rfl, Nat.le_of_ble_eq_true rfl, Nat.le_of_ble_eq_true rfl⟩
        · have ho := gif_n ho c4
          exact g_throw hfl ox_IllegalArgumentException (text := "size or weight out of range") (Option.some.inj ho) hC hlk ht hZ hl.1 hW (List.mem_of_getElem? (i := 8) rfl) dX6_addTurn_22 dX6_addTurn_25 dX6_addTurn_26 dX6_addTurn_28 dX6_addTurn_31 ⟨Nat.le_of_ble_eq_true rfl, Nat.le_of_ble_eq_true rfl, Nat.le_of_ble_eq_true rfl, Nat.le_of_ble_eq_true rfl⟩
noncomputable def X6_turn (σ : gS) (x1 : Int32) (x2 : Int32) : Option ((String ⊕ Int32) × gS) :=
  (X0_hasTurn σ 24 x1).bind fun r2 => if r2 = 0 then (some (.inl "java/lang/IndexOutOfBoundsException", σ)) else (if x2 = 0 then (gd (ib x1 10) <| some (.inr (σ (24 + 4) x1.toNatClampNeg), σ)) else (if x2 = 1 then (gd (ib x1 10) <| some (.inr (σ (24 + 5) x1.toNatClampNeg), σ)) else (if x2 = 2 then (gd (ib x1 10) <| some (.inr (σ (24 + 6) x1.toNatClampNeg), σ)) else (if x2 = 3 then (gd (ib x1 10) <| some (.inr (σ (24 + 7) x1.toNatClampNeg), σ)) else (if x2 = 4 then (gd (ib x1 10) <| some (.inr (σ (24 + 8) x1.toNatClampNeg), σ)) else (if x2 = 5 then ((X0_costOfTurn σ 24 x1).bind fun r16 => some (.inr r16, σ)) else (some (.inl "java/lang/IllegalArgumentException", σ))))))))
set_option maxHeartbeats 4000000 in
set_option maxRecDepth 100000 in
theorem c_X6_turn (l : Launch) (hfl : l.stackTraces = false) (D : va_G) (y : ClassId × ClassId × ClassId) (ad : Nat → Nat) (x1 : Int32) (x2 : Int32) (σ : gS) (sz : Nat) {q : (String ⊕ Int32) × gS} (h : X6_turn σ x1 x2 = some q) : vx_Met l yX6_turn (Cond.code yX6_turn cX6_turn 3 (some .int) :: gl) ({ frames := 7, cells := 1, slots := 6, locals := 100 }) (g_PcX D y ad σ sz [.ref (ad 0), .int x1, .int x2]) (g_QX D y ad sz q) (g_XX D y ad sz q) 1 6 (g_A ad sz) := by
  have ho := h
  unfold X6_turn at ho
  refine g_startX (by decide) (Nat.le_of_ble_eq_true rfl) (fun p e s m below meth c ls hC hr hlk hsz hW hl ht hZ => ?_)
  have hx := hC.1
  have hcd := hC.2.1
  have hl : lv_has ls 3 [(0, .ref (ad 0)), (1, .int x1), (2, .int x2)] := hl
  refine lv_aload_n hx hcd dX6_turn_0 rfl (lv_at hl 0 rfl) ?_
  refine g_getr hC hW (C := RX6) (T := TX6) (N := 11) (ci := 8) (k := 0) (index := 12) (i := 0) (r := 24) inGX6 rfl (by decide) fl_X6_12 (by decide) rfl rfl dX6_turn_1 ?_
  refine lv_iload_n hx hcd dX6_turn_4 rfl (lv_at hl 1 rfl) ?_
  obtain ⟨r2, h1, ho⟩ := gb_some ho
  refine g_calli hW (g_runV (As := [.int x1]) (rest := []) (i := 24) hC hW (c_X0_hasTurn l D y ad g_air24 x1 _ _ h1) ok_X6_173 ⟨rfl, rfl, Nat.le_of_ble_eq_true rfl, Nat.le_of_ble_eq_true rfl⟩ (g_lt_air g_air24) (g_sh_air g_air24) rfl rfl rfl hl.1 rfl (Nat.le_of_ble_eq_true rfl) dX6_turn_5 ⟨Nat.zero_le _, Nat.zero_le _⟩) (fun H locs hW => ?_)
  refine lv_if_ne (tgt := 21) hx hcd dX6_turn_8 (by decide) (fun c3 => ?_) (fun c3 => ?_)
  · have ho := gif_n ho c3
    refine lv_iload_n hx hcd dX6_turn_21 rfl (lv_at hl 2 rfl) ?_
    by_cases c4 : x2 = 0
    · have ho := gif_p ho c4
      refine lv_tableIn (tgt := 60) hx hcd dX6_turn_22 (by rw [c4]; decide) (by rw [c4]; decide) (by rw [c4]; rfl) (by decide) ?_
      refine lv_aload_n hx hcd dX6_turn_60 rfl (lv_at hl 0 rfl) ?_
      refine g_getr hC hW (C := RX6) (T := TX6) (N := 11) (ci := 8) (k := 0) (index := 12) (i := 0) (r := 24) inGX6 rfl (by decide) fl_X6_12 (by decide) rfl rfl dX6_turn_61 ?_
      refine g_getr hC hW (C := RX0) (T := TX0) (N := 16) (ci := 2) (k := 8) (index := 178) (i := 24) (r := (24 + 4)) inGX0 rfl (by decide) fl_X6_178 (g_lt_air g_air24) (g_sh_air g_air24) rfl dX6_turn_64 ?_
      refine lv_iload_n hx hcd dX6_turn_67 rfl (lv_at hl 1 rfl) ?_
      obtain ⟨i5, ho⟩ := gd_some ho
      refine g_iald hC hW (i := (24 + 4)) (g_lt_arr (j := 4) g_air24 (by decide)) (g_sa4 g_air24) i5 dX6_turn_68 ?_
      exact g_iretX (Option.some.inj ho) hC hr hlk hsz hW dX6_turn_69
    have ho := gif_n ho c4
    by_cases c6 : x2 = 1
    · have ho := gif_p ho c6
      refine lv_tableIn (tgt := 70) hx hcd dX6_turn_22 (by rw [c6]; decide) (by rw [c6]; decide) (by rw [c6]; rfl) (by decide) ?_
      refine lv_aload_n hx hcd dX6_turn_70 rfl (lv_at hl 0 rfl) ?_
      refine g_getr hC hW (C := RX6) (T := TX6) (N := 11) (ci := 8) (k := 0) (index := 12) (i := 0) (r := 24) inGX6 rfl (by decide) fl_X6_12 (by decide) rfl rfl dX6_turn_71 ?_
      refine g_getr hC hW (C := RX0) (T := TX0) (N := 16) (ci := 2) (k := 9) (index := 181) (i := 24) (r := (24 + 5)) inGX0 rfl (by decide) fl_X6_181 (g_lt_air g_air24) (g_sh_air g_air24) rfl dX6_turn_74 ?_
      refine lv_iload_n hx hcd dX6_turn_77 rfl (lv_at hl 1 rfl) ?_
      obtain ⟨i7, ho⟩ := gd_some ho
      refine g_iald hC hW (i := (24 + 5)) (g_lt_arr (j := 5) g_air24 (by decide)) (g_sa5 g_air24) i7 dX6_turn_78 ?_
      exact g_iretX (Option.some.inj ho) hC hr hlk hsz hW dX6_turn_79
    have ho := gif_n ho c6
    by_cases c8 : x2 = 2
    · have ho := gif_p ho c8
      refine lv_tableIn (tgt := 80) hx hcd dX6_turn_22 (by rw [c8]; decide) (by rw [c8]; decide) (by rw [c8]; rfl) (by decide) ?_
      refine lv_aload_n hx hcd dX6_turn_80 rfl (lv_at hl 0 rfl) ?_
      refine g_getr hC hW (C := RX6) (T := TX6) (N := 11) (ci := 8) (k := 0) (index := 12) (i := 0) (r := 24) inGX6 rfl (by decide) fl_X6_12 (by decide) rfl rfl dX6_turn_81 ?_
      refine g_getr hC hW (C := RX0) (T := TX0) (N := 16) (ci := 2) (k := 10) (index := 184) (i := 24) (r := (24 + 6)) inGX0 rfl (by decide) fl_X6_184 (g_lt_air g_air24) (g_sh_air g_air24) rfl dX6_turn_84 ?_
      refine lv_iload_n hx hcd dX6_turn_87 rfl (lv_at hl 1 rfl) ?_
      obtain ⟨i9, ho⟩ := gd_some ho
      refine g_iald hC hW (i := (24 + 6)) (g_lt_arr (j := 6) g_air24 (by decide)) (g_sa6 g_air24) i9 dX6_turn_88 ?_
      exact g_iretX (Option.some.inj ho) hC hr hlk hsz hW dX6_turn_89
    have ho := gif_n ho c8
    by_cases c10 : x2 = 3
    · have ho := gif_p ho c10
      refine lv_tableIn (tgt := 90) hx hcd dX6_turn_22 (by rw [c10]; decide) (by rw [c10]; decide) (by rw [c10]; rfl) (by decide) ?_
      refine lv_aload_n hx hcd dX6_turn_90 rfl (lv_at hl 0 rfl) ?_
      refine g_getr hC hW (C := RX6) (T := TX6) (N := 11) (ci := 8) (k := 0) (index := 12) (i := 0) (r := 24) inGX6 rfl (by decide) fl_X6_12 (by decide) rfl rfl dX6_turn_91 ?_
      refine g_getr hC hW (C := RX0) (T := TX0) (N := 16) (ci := 2) (k := 11) (index := 187) (i := 24) (r := (24 + 7)) inGX0 rfl (by decide) fl_X6_187 (g_lt_air g_air24) (g_sh_air g_air24) rfl dX6_turn_94 ?_
      refine lv_iload_n hx hcd dX6_turn_97 rfl (lv_at hl 1 rfl) ?_
      obtain ⟨i11, ho⟩ := gd_some ho
      refine g_iald hC hW (i := (24 + 7)) (g_lt_arr (j := 7) g_air24 (by decide)) (g_sa7 g_air24) i11 dX6_turn_98 ?_
      exact g_iretX (Option.some.inj ho) hC hr hlk hsz hW dX6_turn_99
    have ho := gif_n ho c10
    by_cases c12 : x2 = 4
    · have ho := gif_p ho c12
      refine lv_tableIn (tgt := 100) hx hcd dX6_turn_22 (by rw [c12]; decide) (by rw [c12]; decide) (by rw [c12]; rfl) (by decide) ?_
      refine lv_aload_n hx hcd dX6_turn_100 rfl (lv_at hl 0 rfl) ?_
      refine g_getr hC hW (C := RX6) (T := TX6) (N := 11) (ci := 8) (k := 0) (index := 12) (i := 0) (r := 24) inGX6 rfl (by decide) fl_X6_12 (by decide) rfl rfl dX6_turn_101 ?_
      refine g_getr hC hW (C := RX0) (T := TX0) (N := 16) (ci := 2) (k := 12) (index := 190) (i := 24) (r := (24 + 8)) inGX0 rfl (by decide) fl_X6_190 (g_lt_air g_air24) (g_sh_air g_air24) rfl dX6_turn_104 ?_
      refine lv_iload_n hx hcd dX6_turn_107 rfl (lv_at hl 1 rfl) ?_
      obtain ⟨i13, ho⟩ := gd_some ho
      refine g_iald hC hW (i := (24 + 8)) (g_lt_arr (j := 8) g_air24 (by decide)) (g_sa8 g_air24) i13 dX6_turn_108 ?_
      exact g_iretX (Option.some.inj ho) hC hr hlk hsz hW dX6_turn_109
    have ho := gif_n ho c12
    by_cases c14 : x2 = 5
    · have ho := gif_p ho c14
      refine lv_tableIn (tgt := 110) hx hcd dX6_turn_22 (by rw [c14]; decide) (by rw [c14]; decide) (by rw [c14]; rfl) (by decide) ?_
      refine lv_aload_n hx hcd dX6_turn_110 rfl (lv_at hl 0 rfl) ?_
      refine g_getr hC hW (C := RX6) (T := TX6) (N := 11) (ci := 8) (k := 0) (index := 12) (i := 0) (r := 24) inGX6 rfl (by decide) fl_X6_12 (by decide) rfl rfl dX6_turn_111 ?_
      refine lv_iload_n hx hcd dX6_turn_114 rfl (lv_at hl 1 rfl) ?_
      obtain ⟨r16, h15, ho⟩ := gb_some ho
      refine g_calli hW (g_runV (As := [.int x1]) (rest := []) (i := 24) hC hW (c_X0_costOfTurn l D y ad g_air24 x1 _ _ h15) ok_X6_193 ⟨rfl, rfl, Nat.le_of_ble_eq_true rfl, Nat.le_of_ble_eq_true rfl⟩ (g_lt_air g_air24) (g_sh_air g_air24) rfl rfl rfl hl.1 rfl (Nat.le_of_ble_eq_true rfl) dX6_turn_115 ⟨Nat.zero_le _, Nat.zero_le _⟩) (fun H locs hW => ?_)
      exact g_iretX (Option.some.inj ho) hC hr hlk hsz hW dX6_turn_118
    have ho := gif_n ho c14
    refine lv_tableOut (tgt := 119) hx hcd dX6_turn_22 (by have zc4 := lv_neT c4 (a := 0) rfl; have zc6 := lv_neT c6 (a := 1) rfl; have zc8 := lv_neT c8 (a := 2) rfl; have zc10 := lv_neT c10 (a := 3) rfl; have zc12 := lv_neT c12 (a := 4) rfl; have zc14 := lv_neT c14 (a := 5) rfl; omega) (by decide) ?_
    exact g_throw hfl ox_IllegalArgumentException (text := "what is not 0 to 5") (Option.some.inj ho) hC hlk ht hZ hl.1 hW (List.mem_of_getElem? (i := 12) rfl) dX6_turn_119 dX6_turn_122 dX6_turn_123 dX6_turn_125 dX6_turn_128 ⟨Nat.le_of_ble_eq_true rfl, Nat.le_of_ble_eq_true rfl, Nat.le_of_ble_eq_true rfl, Nat.le_of_ble_eq_true rfl⟩
  · have ho := gif_p ho c3
    exact g_throw hfl ox_IndexOutOfBoundsException (text := "no such turn") (Option.some.inj ho) hC hlk ht hZ hl.1 hW (List.mem_of_getElem? (i := 11) rfl) dX6_turn_11 dX6_turn_14 dX6_turn_15 dX6_turn_17 dX6_turn_20 ⟨Nat.le_of_ble_eq_true rfl, Nat.le_of_ble_eq_true rfl, Nat.le_of_ble_eq_true rfl, Nat.le_of_ble_eq_true rfl⟩
noncomputable def X6_ofStay (σ : gS) (x1 : Int32) (x2 : Int32) (x3 : Int32) : Option ((String ⊕ Int32) × gS) :=
  (X0_hasStay σ 24 x1 x2).bind fun r2 => if r2 = 0 then (some (.inl "java/lang/IndexOutOfBoundsException", σ)) else (if x3 = 0 then (gd (ib (((2 : Int32) * x1) + x2) 20) <| some (.inr (σ (24 + 9) (((2 : Int32) * x1) + x2).toNatClampNeg), σ)) else (if x3 = 1 then (gd (ib (((2 : Int32) * x1) + x2) 20) <| some (.inr (σ (24 + 10) (((2 : Int32) * x1) + x2).toNatClampNeg), σ)) else (if x3 = 2 then (gd (ib (((2 : Int32) * x1) + x2) 20) <| some (.inr (σ (24 + 11) (((2 : Int32) * x1) + x2).toNatClampNeg), σ)) else (if x3 = 3 then ((X0_costOfStay σ 24 (((2 : Int32) * x1) + x2)).bind fun r12 => some (.inr r12, σ)) else (if x3 = 4 then ((X0_conflictsOf σ 24 (((2 : Int32) * x1) + x2)).bind fun r15 => some (.inr r15, σ)) else (if x3 = 5 then ((X0_isHindered σ 24 (((2 : Int32) * x1) + x2)).bind fun r18 => if r18 = 0 then (some (.inr 0, σ)) else (some (.inr 1, σ))) else (some (.inl "java/lang/IllegalArgumentException", σ))))))))
set_option maxHeartbeats 4000000 in
set_option maxRecDepth 100000 in
theorem c_X6_ofStay (l : Launch) (hfl : l.stackTraces = false) (D : va_G) (y : ClassId × ClassId × ClassId) (ad : Nat → Nat) (x1 : Int32) (x2 : Int32) (x3 : Int32) (σ : gS) (sz : Nat) {q : (String ⊕ Int32) × gS} (h : X6_ofStay σ x1 x2 x3 = some q) : vx_Met l yX6_ofStay (Cond.code yX6_ofStay cX6_ofStay 5 (some .int) :: gl) ({ frames := 7, cells := 1, slots := 6, locals := 100 }) (g_PcX D y ad σ sz [.ref (ad 0), .int x1, .int x2, .int x3]) (g_QX D y ad sz q) (g_XX D y ad sz q) 1 6 (g_A ad sz) := by
  have ho := h
  unfold X6_ofStay at ho
  refine g_startX (by decide) (Nat.le_of_ble_eq_true rfl) (fun p e s m below meth c ls hC hr hlk hsz hW hl ht hZ => ?_)
  have hx := hC.1
  have hcd := hC.2.1
  have hl : lv_has ls 5 [(0, .ref (ad 0)), (1, .int x1), (2, .int x2), (3, .int x3)] := hl
  refine lv_aload_n hx hcd dX6_ofStay_0 rfl (lv_at hl 0 rfl) ?_
  refine g_getr hC hW (C := RX6) (T := TX6) (N := 11) (ci := 8) (k := 0) (index := 12) (i := 0) (r := 24) inGX6 rfl (by decide) fl_X6_12 (by decide) rfl rfl dX6_ofStay_1 ?_
  refine lv_iload_n hx hcd dX6_ofStay_4 rfl (lv_at hl 1 rfl) ?_
  refine lv_iload_n hx hcd dX6_ofStay_5 rfl (lv_at hl 2 rfl) ?_
  obtain ⟨r2, h1, ho⟩ := gb_some ho
  refine g_calli hW (g_runV (As := [.int x1, .int x2]) (rest := []) (i := 24) hC hW (c_X0_hasStay l D y ad g_air24 x1 x2 _ _ h1) ok_X6_198 ⟨rfl, rfl, Nat.le_of_ble_eq_true rfl, Nat.le_of_ble_eq_true rfl⟩ (g_lt_air g_air24) (g_sh_air g_air24) rfl rfl rfl hl.1 rfl (Nat.le_of_ble_eq_true rfl) dX6_ofStay_6 ⟨Nat.zero_le _, Nat.zero_le _⟩) (fun H locs hW => ?_)
  refine lv_if_ne (tgt := 22) hx hcd dX6_ofStay_9 (by decide) (fun c3 => ?_) (fun c3 => ?_)
  · have ho := gif_n ho c3
    refine lv_iconst (v := 2) hx hcd dX6_ofStay_22 (by decide) ?_
    refine lv_iload_n hx hcd dX6_ofStay_23 rfl (lv_at hl 1 rfl) ?_
    refine lv_imul hx hcd dX6_ofStay_24 ?_
    refine lv_iload_n hx hcd dX6_ofStay_25 rfl (lv_at hl 2 rfl) ?_
    refine lv_iadd hx hcd dX6_ofStay_26 ?_
    refine lv_istore (lv' := [(4, .int (((2 : Int32) * x1) + x2)), (0, .ref (ad 0)), (1, .int x1), (2, .int x2), (3, .int x3)]) hx hcd dX6_ofStay_27 hl (by decide) rfl (fun ls hl => ?_)
    refine lv_iload_n hx hcd dX6_ofStay_29 rfl (lv_at hl 4 rfl) ?_
    by_cases c4 : x3 = 0
    · have ho := gif_p ho c4
      refine lv_tableIn (tgt := 68) hx hcd dX6_ofStay_30 (by rw [c4]; decide) (by rw [c4]; decide) (by rw [c4]; rfl) (by decide) ?_
      refine lv_aload_n hx hcd dX6_ofStay_68 rfl (lv_at hl 1 rfl) ?_
      refine g_getr hC hW (C := RX6) (T := TX6) (N := 11) (ci := 8) (k := 0) (index := 12) (i := 0) (r := 24) inGX6 rfl (by decide) fl_X6_12 (by decide) rfl rfl dX6_ofStay_69 ?_
      refine g_getr hC hW (C := RX0) (T := TX0) (N := 16) (ci := 2) (k := 13) (index := 204) (i := 24) (r := (24 + 9)) inGX0 rfl (by decide) fl_X6_204 (g_lt_air g_air24) (g_sh_air g_air24) rfl dX6_ofStay_72 ?_
      refine lv_iload hx hcd dX6_ofStay_75 (lv_at hl 0 rfl) ?_
      obtain ⟨i5, ho⟩ := gd_some ho
      refine g_iald hC hW (i := (24 + 9)) (g_lt_arr (j := 9) g_air24 (by decide)) (g_sa9 g_air24) i5 dX6_ofStay_77 ?_
      exact g_iretX (Option.some.inj ho) hC hr hlk hsz hW dX6_ofStay_78
    have ho := gif_n ho c4
    by_cases c6 : x3 = 1
    · have ho := gif_p ho c6
      refine lv_tableIn (tgt := 79) hx hcd dX6_ofStay_30 (by rw [c6]; decide) (by rw [c6]; decide) (by rw [c6]; rfl) (by decide) ?_
      refine lv_aload_n hx hcd dX6_ofStay_79 rfl (lv_at hl 1 rfl) ?_
      refine g_getr hC hW (C := RX6) (T := TX6) (N := 11) (ci := 8) (k := 0) (index := 12) (i := 0) (r := 24) inGX6 rfl (by decide) fl_X6_12 (by decide) rfl rfl dX6_ofStay_80 ?_
      refine g_getr hC hW (C := RX0) (T := TX0) (N := 16) (ci := 2) (k := 14) (index := 207) (i := 24) (r := (24 + 10)) inGX0 rfl (by decide) fl_X6_207 (g_lt_air g_air24) (g_sh_air g_air24) rfl dX6_ofStay_83 ?_
      refine lv_iload hx hcd dX6_ofStay_86 (lv_at hl 0 rfl) ?_
      obtain ⟨i7, ho⟩ := gd_some ho
      refine g_iald hC hW (i := (24 + 10)) (g_lt_arr (j := 10) g_air24 (by decide)) (g_sa10 g_air24) i7 dX6_ofStay_88 ?_
      exact g_iretX (Option.some.inj ho) hC hr hlk hsz hW dX6_ofStay_89
    have ho := gif_n ho c6
    by_cases c8 : x3 = 2
    · have ho := gif_p ho c8
      refine lv_tableIn (tgt := 90) hx hcd dX6_ofStay_30 (by rw [c8]; decide) (by rw [c8]; decide) (by rw [c8]; rfl) (by decide) ?_
      refine lv_aload_n hx hcd dX6_ofStay_90 rfl (lv_at hl 1 rfl) ?_
      refine g_getr hC hW (C := RX6) (T := TX6) (N := 11) (ci := 8) (k := 0) (index := 12) (i := 0) (r := 24) inGX6 rfl (by decide) fl_X6_12 (by decide) rfl rfl dX6_ofStay_91 ?_
      refine g_getr hC hW (C := RX0) (T := TX0) (N := 16) (ci := 2) (k := 15) (index := 210) (i := 24) (r := (24 + 11)) inGX0 rfl (by decide) fl_X6_210 (g_lt_air g_air24) (g_sh_air g_air24) rfl dX6_ofStay_94 ?_
      refine lv_iload hx hcd dX6_ofStay_97 (lv_at hl 0 rfl) ?_
      obtain ⟨i9, ho⟩ := gd_some ho
      refine g_iald hC hW (i := (24 + 11)) (g_lt_arr (j := 11) g_air24 (by decide)) (g_sa11 g_air24) i9 dX6_ofStay_99 ?_
      exact g_iretX (Option.some.inj ho) hC hr hlk hsz hW dX6_ofStay_100
    have ho := gif_n ho c8
    by_cases c10 : x3 = 3
    · have ho := gif_p ho c10
      refine lv_tableIn (tgt := 101) hx hcd dX6_ofStay_30 (by rw [c10]; decide) (by rw [c10]; decide) (by rw [c10]; rfl) (by decide) ?_
      refine lv_aload_n hx hcd dX6_ofStay_101 rfl (lv_at hl 1 rfl) ?_
      refine g_getr hC hW (C := RX6) (T := TX6) (N := 11) (ci := 8) (k := 0) (index := 12) (i := 0) (r := 24) inGX6 rfl (by decide) fl_X6_12 (by decide) rfl rfl dX6_ofStay_102 ?_
      refine lv_iload hx hcd dX6_ofStay_105 (lv_at hl 0 rfl) ?_
      obtain ⟨r12, h11, ho⟩ := gb_some ho
      refine g_calli hW (g_runV (As := [.int (((2 : Int32) * x1) + x2)]) (rest := []) (i := 24) hC hW (c_X0_costOfStay l D y ad g_air24 (((2 : Int32) * x1) + x2) _ _ h11) ok_X6_213 ⟨rfl, rfl, Nat.le_of_ble_eq_true rfl, Nat.le_of_ble_eq_true rfl⟩ (g_lt_air g_air24) (g_sh_air g_air24) rfl rfl rfl hl.1 rfl (Nat.le_of_ble_eq_true rfl) dX6_ofStay_107 ⟨Nat.zero_le _, Nat.zero_le _⟩) (fun H locs hW => ?_)
      exact g_iretX (Option.some.inj ho) hC hr hlk hsz hW dX6_ofStay_110
    have ho := gif_n ho c10
    by_cases c13 : x3 = 4
    · have ho := gif_p ho c13
      refine lv_tableIn (tgt := 111) hx hcd dX6_ofStay_30 (by rw [c13]; decide) (by rw [c13]; decide) (by rw [c13]; rfl) (by decide) ?_
      refine lv_aload_n hx hcd dX6_ofStay_111 rfl (lv_at hl 1 rfl) ?_
      refine g_getr hC hW (C := RX6) (T := TX6) (N := 11) (ci := 8) (k := 0) (index := 12) (i := 0) (r := 24) inGX6 rfl (by decide) fl_X6_12 (by decide) rfl rfl dX6_ofStay_112 ?_
      refine lv_iload hx hcd dX6_ofStay_115 (lv_at hl 0 rfl) ?_
      obtain ⟨r15, h14, ho⟩ := gb_some ho
      refine g_calli hW (g_runV (As := [.int (((2 : Int32) * x1) + x2)]) (rest := []) (i := 24) hC hW (c_X0_conflictsOf l D y ad g_air24 (((2 : Int32) * x1) + x2) _ _ h14) ok_X6_216 ⟨rfl, rfl, Nat.le_of_ble_eq_true rfl, Nat.le_of_ble_eq_true rfl⟩ (g_lt_air g_air24) (g_sh_air g_air24) rfl rfl rfl hl.1 rfl (Nat.le_of_ble_eq_true rfl) dX6_ofStay_117 ⟨Nat.zero_le _, Nat.zero_le _⟩) (fun H locs hW => ?_)
      exact g_iretX (Option.some.inj ho) hC hr hlk hsz hW dX6_ofStay_120
    have ho := gif_n ho c13
    by_cases c16 : x3 = 5
    · have ho := gif_p ho c16
      refine lv_tableIn (tgt := 121) hx hcd dX6_ofStay_30 (by rw [c16]; decide) (by rw [c16]; decide) (by rw [c16]; rfl) (by decide) ?_
      refine lv_aload_n hx hcd dX6_ofStay_121 rfl (lv_at hl 1 rfl) ?_
      refine g_getr hC hW (C := RX6) (T := TX6) (N := 11) (ci := 8) (k := 0) (index := 12) (i := 0) (r := 24) inGX6 rfl (by decide) fl_X6_12 (by decide) rfl rfl dX6_ofStay_122 ?_
      refine lv_iload hx hcd dX6_ofStay_125 (lv_at hl 0 rfl) ?_
      obtain ⟨r18, h17, ho⟩ := gb_some ho
      refine g_calli hW (g_runV (As := [.int (((2 : Int32) * x1) + x2)]) (rest := []) (i := 24) hC hW (c_X0_isHindered l D y ad g_air24 (((2 : Int32) * x1) + x2) _ _ h17) ok_X6_219 ⟨rfl, rfl, Nat.le_of_ble_eq_true rfl, Nat.le_of_ble_eq_true rfl⟩ (g_lt_air g_air24) (g_sh_air g_air24) rfl rfl rfl hl.1 rfl (Nat.le_of_ble_eq_true rfl) dX6_ofStay_127 ⟨Nat.zero_le _, Nat.zero_le _⟩) (fun H locs hW => ?_)
      refine lv_if_eq (tgt := 137) hx hcd dX6_ofStay_130 (by decide) (fun c19 => ?_) (fun c19 => ?_)
      · have ho := gif_p ho c19
        refine lv_iconst (v := 0) hx hcd dX6_ofStay_137 (by decide) ?_
        exact g_iretX (Option.some.inj ho) hC hr hlk hsz hW dX6_ofStay_138
      · have ho := gif_n ho c19
        refine lv_iconst (v := 1) hx hcd dX6_ofStay_133 (by decide) ?_
        refine lv_goto (tgt := 138) hx hcd dX6_ofStay_134 (by decide) ?_
        exact g_iretX (Option.some.inj ho) hC hr hlk hsz hW dX6_ofStay_138
    have ho := gif_n ho c16
    refine lv_tableOut (tgt := 139) hx hcd dX6_ofStay_30 (by have zc4 := lv_neT c4 (a := 0) rfl; have zc6 := lv_neT c6 (a := 1) rfl; have zc8 := lv_neT c8 (a := 2) rfl; have zc10 := lv_neT c10 (a := 3) rfl; have zc13 := lv_neT c13 (a := 4) rfl; have zc16 := lv_neT c16 (a := 5) rfl; omega) (by decide) ?_
    exact g_throw hfl ox_IllegalArgumentException (text := "what is not 0 to 5") (Option.some.inj ho) hC hlk ht hZ hl.1 hW (List.mem_of_getElem? (i := 12) rfl) dX6_ofStay_139 dX6_ofStay_142 dX6_ofStay_143 dX6_ofStay_145 dX6_ofStay_148 ⟨Nat.le_of_ble_eq_true rfl, Nat.le_of_ble_eq_true rfl, Nat.le_of_ble_eq_true rfl, Nat.le_of_ble_eq_true rfl⟩
  · have ho := gif_p ho c3
    exact g_throw hfl ox_IndexOutOfBoundsException (text := "no such turn or stay") (Option.some.inj ho) hC hlk ht hZ hl.1 hW (List.mem_of_getElem? (i := 13) rfl) dX6_ofStay_12 dX6_ofStay_15 dX6_ofStay_16 dX6_ofStay_18 dX6_ofStay_21 ⟨Nat.le_of_ble_eq_true rfl, Nat.le_of_ble_eq_true rfl, Nat.le_of_ble_eq_true rfl, Nat.le_of_ble_eq_true rfl⟩
noncomputable def X6_place (σ : gS) (x1 : Int32) (x2 : Int32) (x3 : Int32) : Option ((String ⊕ Int32) × gS) :=
  (X0_hasStay σ 24 x1 x2).bind fun r2 => if r2 = 0 then (some (.inl "java/lang/IndexOutOfBoundsException", σ)) else ((X0_hasStand σ 24 x3).bind fun r5 => if r5 = 0 then (some (.inl "java/lang/IndexOutOfBoundsException", σ)) else ((X0_refusal σ 24 (((2 : Int32) * x1) + x2) x3).bind fun r8 => if r8 = 0 then ((X4_remember σ 24).bind fun σ11 => gd (ib (((2 : Int32) * x1) + x2) 20) <| lt_ (g_up σ11 (24 + 11) (((2 : Int32) * x1) + x2).toNatClampNeg x3) fun σ13 => some (.inr (σ11 (24 + 11) (((2 : Int32) * x1) + x2).toNatClampNeg), σ13)) else (lt_ (g_up σ 0 9 r8) fun σ14 => some (.inl "java/lang/UnsupportedOperationException", σ14))))
set_option maxHeartbeats 4000000 in
set_option maxRecDepth 100000 in
theorem c_X6_place (l : Launch) (hfl : l.stackTraces = false) (D : va_G) (y : ClassId × ClassId × ClassId) (ad : Nat → Nat) (x1 : Int32) (x2 : Int32) (x3 : Int32) (σ : gS) (sz : Nat) {q : (String ⊕ Int32) × gS} (h : X6_place σ x1 x2 x3 = some q) : vx_Met l yX6_place (Cond.code yX6_place cX6_place 7 (some .int) :: gl) ({ frames := 7, cells := 1, slots := 6, locals := 100 }) (g_PcX D y ad σ sz [.ref (ad 0), .int x1, .int x2, .int x3]) (g_QX D y ad sz q) (g_XX D y ad sz q) 1 6 (g_A ad sz) := by
  have ho := h
  unfold X6_place at ho
  refine g_startX (by decide) (Nat.le_of_ble_eq_true rfl) (fun p e s m below meth c ls hC hr hlk hsz hW hl ht hZ => ?_)
  have hx := hC.1
  have hcd := hC.2.1
  have hl : lv_has ls 7 [(0, .ref (ad 0)), (1, .int x1), (2, .int x2), (3, .int x3)] := hl
  refine lv_aload_n hx hcd dX6_place_0 rfl (lv_at hl 0 rfl) ?_
  refine g_getr hC hW (C := RX6) (T := TX6) (N := 11) (ci := 8) (k := 0) (index := 12) (i := 0) (r := 24) inGX6 rfl (by decide) fl_X6_12 (by decide) rfl rfl dX6_place_1 ?_
  refine lv_iload_n hx hcd dX6_place_4 rfl (lv_at hl 1 rfl) ?_
  refine lv_iload_n hx hcd dX6_place_5 rfl (lv_at hl 2 rfl) ?_
  obtain ⟨r2, h1, ho⟩ := gb_some ho
  refine g_calli hW (g_runV (As := [.int x1, .int x2]) (rest := []) (i := 24) hC hW (c_X0_hasStay l D y ad g_air24 x1 x2 _ _ h1) ok_X6_198 ⟨rfl, rfl, Nat.le_of_ble_eq_true rfl, Nat.le_of_ble_eq_true rfl⟩ (g_lt_air g_air24) (g_sh_air g_air24) rfl rfl rfl hl.1 rfl (Nat.le_of_ble_eq_true rfl) dX6_place_6 ⟨Nat.zero_le _, Nat.zero_le _⟩) (fun H locs hW => ?_)
  refine lv_if_eq (tgt := 23) hx hcd dX6_place_9 (by decide) (fun c3 => ?_) (fun c3 => ?_)
  · have ho := gif_p ho c3
    exact g_throw hfl ox_IndexOutOfBoundsException (text := "no such turn, stay or stand") (Option.some.inj ho) hC hlk ht hZ hl.1 hW (List.mem_of_getElem? (i := 14) rfl) dX6_place_23 dX6_place_26 dX6_place_27 dX6_place_29 dX6_place_32 ⟨Nat.le_of_ble_eq_true rfl, Nat.le_of_ble_eq_true rfl, Nat.le_of_ble_eq_true rfl, Nat.le_of_ble_eq_true rfl⟩
  · have ho := gif_n ho c3
    refine lv_aload_n hx hcd dX6_place_12 rfl (lv_at hl 0 rfl) ?_
    refine g_getr hC hW (C := RX6) (T := TX6) (N := 11) (ci := 8) (k := 0) (index := 12) (i := 0) (r := 24) inGX6 rfl (by decide) fl_X6_12 (by decide) rfl rfl dX6_place_13 ?_
    refine lv_iload_n hx hcd dX6_place_16 rfl (lv_at hl 3 rfl) ?_
    obtain ⟨r5, h4, ho⟩ := gb_some ho
    refine g_calli hW (g_runV (As := [.int x3]) (rest := []) (i := 24) hC hW (c_X0_hasStand l D y ad g_air24 x3 _ _ h4) ok_X6_97 ⟨rfl, rfl, Nat.le_of_ble_eq_true rfl, Nat.le_of_ble_eq_true rfl⟩ (g_lt_air g_air24) (g_sh_air g_air24) rfl rfl rfl hl.1 rfl (Nat.le_of_ble_eq_true rfl) dX6_place_17 ⟨Nat.zero_le _, Nat.zero_le _⟩) (fun H locs hW => ?_)
    refine lv_if_ne (tgt := 33) hx hcd dX6_place_20 (by decide) (fun c6 => ?_) (fun c6 => ?_)
    · have ho := gif_n ho c6
      refine lv_iconst (v := 2) hx hcd dX6_place_33 (by decide) ?_
      refine lv_iload_n hx hcd dX6_place_34 rfl (lv_at hl 1 rfl) ?_
      refine lv_imul hx hcd dX6_place_35 ?_
      refine lv_iload_n hx hcd dX6_place_36 rfl (lv_at hl 2 rfl) ?_
      refine lv_iadd hx hcd dX6_place_37 ?_
      refine lv_istore (lv' := [(4, .int (((2 : Int32) * x1) + x2)), (0, .ref (ad 0)), (1, .int x1), (2, .int x2), (3, .int x3)]) hx hcd dX6_place_38 hl (by decide) rfl (fun ls hl => ?_)
      refine lv_aload_n hx hcd dX6_place_40 rfl (lv_at hl 1 rfl) ?_
      refine g_getr hC hW (C := RX6) (T := TX6) (N := 11) (ci := 8) (k := 0) (index := 12) (i := 0) (r := 24) inGX6 rfl (by decide) fl_X6_12 (by decide) rfl rfl dX6_place_41 ?_
      refine lv_iload hx hcd dX6_place_44 (lv_at hl 0 rfl) ?_
      refine lv_iload_n hx hcd dX6_place_46 rfl (lv_at hl 4 rfl) ?_
      obtain ⟨r8, h7, ho⟩ := gb_some ho
      refine g_calli hW (g_runV (As := [.int (((2 : Int32) * x1) + x2), .int x3]) (rest := []) (i := 24) hC hW (c_X0_refusal l D y ad g_air24 (((2 : Int32) * x1) + x2) x3 _ _ h7) ok_X6_224 ⟨rfl, rfl, Nat.le_of_ble_eq_true rfl, Nat.le_of_ble_eq_true rfl⟩ (g_lt_air g_air24) (g_sh_air g_air24) rfl rfl rfl hl.1 rfl (Nat.le_of_ble_eq_true rfl) dX6_place_47 ⟨Nat.zero_le _, Nat.zero_le _⟩) (fun H locs hW => ?_)
      refine lv_istore (lv' := [(5, .int r8), (4, .int (((2 : Int32) * x1) + x2)), (0, .ref (ad 0)), (1, .int x1), (2, .int x2), (3, .int x3)]) hx hcd dX6_place_50 hl (by decide) rfl (fun ls hl => ?_)
      refine lv_iload hx hcd dX6_place_52 (lv_at hl 0 rfl) ?_
      refine lv_if_eq (tgt := 73) hx hcd dX6_place_54 (by decide) (fun c9 => ?_) (fun c9 => ?_)
      · have ho := gif_p ho c9
        refine lv_aload_n hx hcd dX6_place_73 rfl (lv_at hl 2 rfl) ?_
        refine g_getr hC hW (C := RX6) (T := TX6) (N := 11) (ci := 8) (k := 3) (index := 25) (i := 0) (r := 2) inGX6 rfl (by decide) fl_X6_25 (by decide) rfl rfl dX6_place_74 ?_
        refine lv_aload_n hx hcd dX6_place_77 rfl (lv_at hl 2 rfl) ?_
        refine g_getr hC hW (C := RX6) (T := TX6) (N := 11) (ci := 8) (k := 0) (index := 12) (i := 0) (r := 24) inGX6 rfl (by decide) fl_X6_12 (by decide) rfl rfl dX6_place_78 ?_
        obtain ⟨σ11, h10, ho⟩ := gb_some ho
        refine g_callv hW (g_runV (As := [.ref (ad 24)]) (rest := []) (i := 2) hC hW (c_X4_remember l D y ad g_air24 _ _ h10) ok_X6_89 ⟨rfl, rfl, Nat.le_of_ble_eq_true rfl, Nat.le_of_ble_eq_true rfl⟩ (by decide) rfl rfl rfl rfl hl.1 rfl (Nat.le_of_ble_eq_true rfl) dX6_place_81 ⟨Nat.zero_le _, Nat.zero_le _⟩) (fun H locs hW => ?_)
        refine lv_aload_n hx hcd dX6_place_84 rfl (lv_at hl 2 rfl) ?_
        refine g_getr hC hW (C := RX6) (T := TX6) (N := 11) (ci := 8) (k := 0) (index := 12) (i := 0) (r := 24) inGX6 rfl (by decide) fl_X6_12 (by decide) rfl rfl dX6_place_85 ?_
        refine g_getr hC hW (C := RX0) (T := TX0) (N := 16) (ci := 2) (k := 15) (index := 210) (i := 24) (r := (24 + 11)) inGX0 rfl (by decide) fl_X6_210 (g_lt_air g_air24) (g_sh_air g_air24) rfl dX6_place_88 ?_
        refine lv_iload hx hcd dX6_place_91 (lv_at hl 1 rfl) ?_
        obtain ⟨i12, ho⟩ := gd_some ho
        refine g_iald hC hW (i := (24 + 11)) (g_lt_arr (j := 11) g_air24 (by decide)) (g_sa11 g_air24) i12 dX6_place_93 ?_
        refine lv_istore (lv' := [(6, .int (σ11 (24 + 11) (((2 : Int32) * x1) + x2).toNatClampNeg)), (5, .int r8), (4, .int (((2 : Int32) * x1) + x2)), (0, .ref (ad 0)), (1, .int x1), (2, .int x2), (3, .int x3)]) hx hcd dX6_place_94 hl (by decide) rfl (fun ls hl => ?_)
        refine lv_aload_n hx hcd dX6_place_96 rfl (lv_at hl 3 rfl) ?_
        refine g_getr hC hW (C := RX6) (T := TX6) (N := 11) (ci := 8) (k := 0) (index := 12) (i := 0) (r := 24) inGX6 rfl (by decide) fl_X6_12 (by decide) rfl rfl dX6_place_97 ?_
        refine g_getr hC hW (C := RX0) (T := TX0) (N := 16) (ci := 2) (k := 15) (index := 210) (i := 24) (r := (24 + 11)) inGX0 rfl (by decide) fl_X6_210 (g_lt_air g_air24) (g_sh_air g_air24) rfl dX6_place_100 ?_
        refine lv_iload hx hcd dX6_place_103 (lv_at hl 2 rfl) ?_
        refine lv_iload_n hx hcd dX6_place_105 rfl (lv_at hl 6 rfl) ?_
        obtain ⟨σ13, eσ13, ho⟩ := lt_ex ho
        refine g_iast hC hW (i := (24 + 11)) (g_lt_arr (j := 11) g_air24 (by decide)) (g_sa11 g_air24) i12 dX6_place_106 (fun H locs hW => ?_)
        rw [← eσ13] at hW
        refine lv_iload hx hcd dX6_place_107 (lv_at hl 0 rfl) ?_
        exact g_iretX (Option.some.inj ho) hC hr hlk hsz hW dX6_place_109
      · have ho := gif_n ho c9
        refine lv_aload_n hx hcd dX6_place_57 rfl (lv_at hl 2 rfl) ?_
        refine lv_iload hx hcd dX6_place_58 (lv_at hl 0 rfl) ?_
        obtain ⟨σ14, eσ14, ho⟩ := lt_ex ho
        refine g_puti hC hW (C := RX6) (T := TX6) (N := 11) (ci := 8) (k := 9) (index := 58) (i := 0) inGX6 tyX6 tyX6_ok nmX6 rfl (by decide) fl_X6_58 rfl (by decide) rfl rfl rfl rfl dX6_place_60 (fun H locs hW => ?_)
        rw [← eσ14] at hW
        exact g_throw hfl ox_UnsupportedOperationException (text := "refused") (Option.some.inj ho) hC hlk ht hZ hl.1 hW (List.mem_of_getElem? (i := 15) rfl) dX6_place_63 dX6_place_66 dX6_place_67 dX6_place_69 dX6_place_72 ⟨Nat.le_of_ble_eq_true rfl, Nat.le_of_ble_eq_true rfl, Nat.le_of_ble_eq_true rfl, Nat.le_of_ble_eq_true rfl⟩
    · have ho := gif_p ho c6
      exact g_throw hfl ox_IndexOutOfBoundsException (text := "no such turn, stay or stand") (Option.some.inj ho) hC hlk ht hZ hl.1 hW (List.mem_of_getElem? (i := 14) rfl) dX6_place_23 dX6_place_26 dX6_place_27 dX6_place_29 dX6_place_32 ⟨Nat.le_of_ble_eq_true rfl, Nat.le_of_ble_eq_true rfl, Nat.le_of_ble_eq_true rfl, Nat.le_of_ble_eq_true rfl⟩
noncomputable def X6_whyNot (σ : gS) (x1 : Int32) (x2 : Int32) (x3 : Int32) : Option ((String ⊕ Int32) × gS) :=
  (X0_hasStay σ 24 x1 x2).bind fun r2 => if r2 = 0 then (some (.inl "java/lang/IndexOutOfBoundsException", σ)) else ((X0_hasStand σ 24 x3).bind fun r5 => if r5 = 0 then (some (.inl "java/lang/IndexOutOfBoundsException", σ)) else ((X0_refusal σ 24 (((2 : Int32) * x1) + x2) x3).bind fun r8 => some (.inr r8, σ)))
set_option maxHeartbeats 4000000 in
set_option maxRecDepth 100000 in
theorem c_X6_whyNot (l : Launch) (hfl : l.stackTraces = false) (D : va_G) (y : ClassId × ClassId × ClassId) (ad : Nat → Nat) (x1 : Int32) (x2 : Int32) (x3 : Int32) (σ : gS) (sz : Nat) {q : (String ⊕ Int32) × gS} (h : X6_whyNot σ x1 x2 x3 = some q) : vx_Met l yX6_whyNot (Cond.code yX6_whyNot cX6_whyNot 4 (some .int) :: gl) ({ frames := 7, cells := 1, slots := 6, locals := 100 }) (g_PcX D y ad σ sz [.ref (ad 0), .int x1, .int x2, .int x3]) (g_QX D y ad sz q) (g_XX D y ad sz q) 1 6 (g_A ad sz) := by
  have ho := h
  unfold X6_whyNot at ho
  refine g_startX (by decide) (Nat.le_of_ble_eq_true rfl) (fun p e s m below meth c ls hC hr hlk hsz hW hl ht hZ => ?_)
  have hx := hC.1
  have hcd := hC.2.1
  have hl : lv_has ls 4 [(0, .ref (ad 0)), (1, .int x1), (2, .int x2), (3, .int x3)] := hl
  refine lv_aload_n hx hcd dX6_whyNot_0 rfl (lv_at hl 0 rfl) ?_
  refine g_getr hC hW (C := RX6) (T := TX6) (N := 11) (ci := 8) (k := 0) (index := 12) (i := 0) (r := 24) inGX6 rfl (by decide) fl_X6_12 (by decide) rfl rfl dX6_whyNot_1 ?_
  refine lv_iload_n hx hcd dX6_whyNot_4 rfl (lv_at hl 1 rfl) ?_
  refine lv_iload_n hx hcd dX6_whyNot_5 rfl (lv_at hl 2 rfl) ?_
  obtain ⟨r2, h1, ho⟩ := gb_some ho
  refine g_calli hW (g_runV (As := [.int x1, .int x2]) (rest := []) (i := 24) hC hW (c_X0_hasStay l D y ad g_air24 x1 x2 _ _ h1) ok_X6_198 ⟨rfl, rfl, Nat.le_of_ble_eq_true rfl, Nat.le_of_ble_eq_true rfl⟩ (g_lt_air g_air24) (g_sh_air g_air24) rfl rfl rfl hl.1 rfl (Nat.le_of_ble_eq_true rfl) dX6_whyNot_6 ⟨Nat.zero_le _, Nat.zero_le _⟩) (fun H locs hW => ?_)
  refine lv_if_eq (tgt := 23) hx hcd dX6_whyNot_9 (by decide) (fun c3 => ?_) (fun c3 => ?_)
  · have ho := gif_p ho c3
    exact g_throw hfl ox_IndexOutOfBoundsException (text := "no such turn, stay or stand") (Option.some.inj ho) hC hlk ht hZ hl.1 hW (List.mem_of_getElem? (i := 14) rfl) dX6_whyNot_23 dX6_whyNot_26 dX6_whyNot_27 dX6_whyNot_29 dX6_whyNot_32 ⟨Nat.le_of_ble_eq_true rfl, Nat.le_of_ble_eq_true rfl, Nat.le_of_ble_eq_true rfl, Nat.le_of_ble_eq_true rfl⟩
  · have ho := gif_n ho c3
    refine lv_aload_n hx hcd dX6_whyNot_12 rfl (lv_at hl 0 rfl) ?_
    refine g_getr hC hW (C := RX6) (T := TX6) (N := 11) (ci := 8) (k := 0) (index := 12) (i := 0) (r := 24) inGX6 rfl (by decide) fl_X6_12 (by decide) rfl rfl dX6_whyNot_13 ?_
    refine lv_iload_n hx hcd dX6_whyNot_16 rfl (lv_at hl 3 rfl) ?_
    obtain ⟨r5, h4, ho⟩ := gb_some ho
    refine g_calli hW (g_runV (As := [.int x3]) (rest := []) (i := 24) hC hW (c_X0_hasStand l D y ad g_air24 x3 _ _ h4) ok_X6_97 ⟨rfl, rfl, Nat.le_of_ble_eq_true rfl, Nat.le_of_ble_eq_true rfl⟩ (g_lt_air g_air24) (g_sh_air g_air24) rfl rfl rfl hl.1 rfl (Nat.le_of_ble_eq_true rfl) dX6_whyNot_17 ⟨Nat.zero_le _, Nat.zero_le _⟩) (fun H locs hW => ?_)
    refine lv_if_ne (tgt := 33) hx hcd dX6_whyNot_20 (by decide) (fun c6 => ?_) (fun c6 => ?_)
    · have ho := gif_n ho c6
      refine lv_aload_n hx hcd dX6_whyNot_33 rfl (lv_at hl 0 rfl) ?_
      refine g_getr hC hW (C := RX6) (T := TX6) (N := 11) (ci := 8) (k := 0) (index := 12) (i := 0) (r := 24) inGX6 rfl (by decide) fl_X6_12 (by decide) rfl rfl dX6_whyNot_34 ?_
      refine lv_iconst (v := 2) hx hcd dX6_whyNot_37 (by decide) ?_
      refine lv_iload_n hx hcd dX6_whyNot_38 rfl (lv_at hl 1 rfl) ?_
      refine lv_imul hx hcd dX6_whyNot_39 ?_
      refine lv_iload_n hx hcd dX6_whyNot_40 rfl (lv_at hl 2 rfl) ?_
      refine lv_iadd hx hcd dX6_whyNot_41 ?_
      refine lv_iload_n hx hcd dX6_whyNot_42 rfl (lv_at hl 3 rfl) ?_
      obtain ⟨r8, h7, ho⟩ := gb_some ho
      refine g_calli hW (g_runV (As := [.int (((2 : Int32) * x1) + x2), .int x3]) (rest := []) (i := 24) hC hW (c_X0_refusal l D y ad g_air24 (((2 : Int32) * x1) + x2) x3 _ _ h7) ok_X6_224 ⟨rfl, rfl, Nat.le_of_ble_eq_true rfl, Nat.le_of_ble_eq_true rfl⟩ (g_lt_air g_air24) (g_sh_air g_air24) rfl rfl rfl hl.1 rfl (Nat.le_of_ble_eq_true rfl) dX6_whyNot_43 ⟨Nat.zero_le _, Nat.zero_le _⟩) (fun H locs hW => ?_)
      exact g_iretX (Option.some.inj ho) hC hr hlk hsz hW dX6_whyNot_46
    · have ho := gif_p ho c6
      exact g_throw hfl ox_IndexOutOfBoundsException (text := "no such turn, stay or stand") (Option.some.inj ho) hC hlk ht hZ hl.1 hW (List.mem_of_getElem? (i := 14) rfl) dX6_whyNot_23 dX6_whyNot_26 dX6_whyNot_27 dX6_whyNot_29 dX6_whyNot_32 ⟨Nat.le_of_ble_eq_true rfl, Nat.le_of_ble_eq_true rfl, Nat.le_of_ble_eq_true rfl, Nat.le_of_ble_eq_true rfl⟩
noncomputable def X6_options (σ : gS) (x1 : Int32) (x2 : Int32) : Option ((String ⊕ Int32) × gS) :=
  (X0_hasStay σ 24 x1 x2).bind fun r2 => if r2 = 0 then (some (.inl "java/lang/IndexOutOfBoundsException", σ)) else ((X0_standsFor σ 24 (((2 : Int32) * x1) + x2)).bind fun r5 => some (.inr r5, σ))
set_option maxHeartbeats 4000000 in
set_option maxRecDepth 100000 in
theorem c_X6_options (l : Launch) (hfl : l.stackTraces = false) (D : va_G) (y : ClassId × ClassId × ClassId) (ad : Nat → Nat) (x1 : Int32) (x2 : Int32) (σ : gS) (sz : Nat) {q : (String ⊕ Int32) × gS} (h : X6_options σ x1 x2 = some q) : vx_Met l yX6_options (Cond.code yX6_options cX6_options 3 (some .int) :: gl) ({ frames := 7, cells := 1, slots := 6, locals := 100 }) (g_PcX D y ad σ sz [.ref (ad 0), .int x1, .int x2]) (g_QX D y ad sz q) (g_XX D y ad sz q) 1 6 (g_A ad sz) := by
  have ho := h
  unfold X6_options at ho
  refine g_startX (by decide) (Nat.le_of_ble_eq_true rfl) (fun p e s m below meth c ls hC hr hlk hsz hW hl ht hZ => ?_)
  have hx := hC.1
  have hcd := hC.2.1
  have hl : lv_has ls 3 [(0, .ref (ad 0)), (1, .int x1), (2, .int x2)] := hl
  refine lv_aload_n hx hcd dX6_options_0 rfl (lv_at hl 0 rfl) ?_
  refine g_getr hC hW (C := RX6) (T := TX6) (N := 11) (ci := 8) (k := 0) (index := 12) (i := 0) (r := 24) inGX6 rfl (by decide) fl_X6_12 (by decide) rfl rfl dX6_options_1 ?_
  refine lv_iload_n hx hcd dX6_options_4 rfl (lv_at hl 1 rfl) ?_
  refine lv_iload_n hx hcd dX6_options_5 rfl (lv_at hl 2 rfl) ?_
  obtain ⟨r2, h1, ho⟩ := gb_some ho
  refine g_calli hW (g_runV (As := [.int x1, .int x2]) (rest := []) (i := 24) hC hW (c_X0_hasStay l D y ad g_air24 x1 x2 _ _ h1) ok_X6_198 ⟨rfl, rfl, Nat.le_of_ble_eq_true rfl, Nat.le_of_ble_eq_true rfl⟩ (g_lt_air g_air24) (g_sh_air g_air24) rfl rfl rfl hl.1 rfl (Nat.le_of_ble_eq_true rfl) dX6_options_6 ⟨Nat.zero_le _, Nat.zero_le _⟩) (fun H locs hW => ?_)
  refine lv_if_ne (tgt := 22) hx hcd dX6_options_9 (by decide) (fun c3 => ?_) (fun c3 => ?_)
  · have ho := gif_n ho c3
    refine lv_aload_n hx hcd dX6_options_22 rfl (lv_at hl 0 rfl) ?_
    refine g_getr hC hW (C := RX6) (T := TX6) (N := 11) (ci := 8) (k := 0) (index := 12) (i := 0) (r := 24) inGX6 rfl (by decide) fl_X6_12 (by decide) rfl rfl dX6_options_23 ?_
    refine lv_iconst (v := 2) hx hcd dX6_options_26 (by decide) ?_
    refine lv_iload_n hx hcd dX6_options_27 rfl (lv_at hl 1 rfl) ?_
    refine lv_imul hx hcd dX6_options_28 ?_
    refine lv_iload_n hx hcd dX6_options_29 rfl (lv_at hl 2 rfl) ?_
    refine lv_iadd hx hcd dX6_options_30 ?_
    obtain ⟨r5, h4, ho⟩ := gb_some ho
    refine g_calli hW (g_runV (As := [.int (((2 : Int32) * x1) + x2)]) (rest := []) (i := 24) hC hW (c_X0_standsFor l D y ad g_air24 (((2 : Int32) * x1) + x2) _ _ h4) ok_X6_232 ⟨rfl, rfl, Nat.le_of_ble_eq_true rfl, Nat.le_of_ble_eq_true rfl⟩ (g_lt_air g_air24) (g_sh_air g_air24) rfl rfl rfl hl.1 rfl (Nat.le_of_ble_eq_true rfl) dX6_options_31 ⟨Nat.zero_le _, Nat.zero_le _⟩) (fun H locs hW => ?_)
    exact g_iretX (Option.some.inj ho) hC hr hlk hsz hW dX6_options_34
  · have ho := gif_p ho c3
    exact g_throw hfl ox_IndexOutOfBoundsException (text := "no such turn or stay") (Option.some.inj ho) hC hlk ht hZ hl.1 hW (List.mem_of_getElem? (i := 13) rfl) dX6_options_12 dX6_options_15 dX6_options_16 dX6_options_18 dX6_options_21 ⟨Nat.le_of_ble_eq_true rfl, Nat.le_of_ble_eq_true rfl, Nat.le_of_ble_eq_true rfl, Nat.le_of_ble_eq_true rfl⟩
noncomputable def X6_cheapest (σ : gS) (x1 : Int32) (x2 : Int32) : Option ((String ⊕ Int32) × gS) :=
  (X0_hasStay σ 24 x1 x2).bind fun r2 => if r2 = 0 then (some (.inl "java/lang/IndexOutOfBoundsException", σ)) else ((X0_cheapestFor σ 24 (((2 : Int32) * x1) + x2)).bind fun r5 => if 0 ≤ r5 then (some (.inr r5, σ)) else (some (.inl "java/util/NoSuchElementException", σ)))
set_option maxHeartbeats 4000000 in
set_option maxRecDepth 100000 in
theorem c_X6_cheapest (l : Launch) (hfl : l.stackTraces = false) (D : va_G) (y : ClassId × ClassId × ClassId) (ad : Nat → Nat) (x1 : Int32) (x2 : Int32) (σ : gS) (sz : Nat) {q : (String ⊕ Int32) × gS} (h : X6_cheapest σ x1 x2 = some q) : vx_Met l yX6_cheapest (Cond.code yX6_cheapest cX6_cheapest 4 (some .int) :: gl) ({ frames := 7, cells := 1, slots := 6, locals := 100 }) (g_PcX D y ad σ sz [.ref (ad 0), .int x1, .int x2]) (g_QX D y ad sz q) (g_XX D y ad sz q) 1 6 (g_A ad sz) := by
  have ho := h
  unfold X6_cheapest at ho
  refine g_startX (by decide) (Nat.le_of_ble_eq_true rfl) (fun p e s m below meth c ls hC hr hlk hsz hW hl ht hZ => ?_)
  have hx := hC.1
  have hcd := hC.2.1
  have hl : lv_has ls 4 [(0, .ref (ad 0)), (1, .int x1), (2, .int x2)] := hl
  refine lv_aload_n hx hcd dX6_cheapest_0 rfl (lv_at hl 0 rfl) ?_
  refine g_getr hC hW (C := RX6) (T := TX6) (N := 11) (ci := 8) (k := 0) (index := 12) (i := 0) (r := 24) inGX6 rfl (by decide) fl_X6_12 (by decide) rfl rfl dX6_cheapest_1 ?_
  refine lv_iload_n hx hcd dX6_cheapest_4 rfl (lv_at hl 1 rfl) ?_
  refine lv_iload_n hx hcd dX6_cheapest_5 rfl (lv_at hl 2 rfl) ?_
  obtain ⟨r2, h1, ho⟩ := gb_some ho
  refine g_calli hW (g_runV (As := [.int x1, .int x2]) (rest := []) (i := 24) hC hW (c_X0_hasStay l D y ad g_air24 x1 x2 _ _ h1) ok_X6_198 ⟨rfl, rfl, Nat.le_of_ble_eq_true rfl, Nat.le_of_ble_eq_true rfl⟩ (g_lt_air g_air24) (g_sh_air g_air24) rfl rfl rfl hl.1 rfl (Nat.le_of_ble_eq_true rfl) dX6_cheapest_6 ⟨Nat.zero_le _, Nat.zero_le _⟩) (fun H locs hW => ?_)
  refine lv_if_ne (tgt := 22) hx hcd dX6_cheapest_9 (by decide) (fun c3 => ?_) (fun c3 => ?_)
  · have ho := gif_n ho c3
    refine lv_aload_n hx hcd dX6_cheapest_22 rfl (lv_at hl 0 rfl) ?_
    refine g_getr hC hW (C := RX6) (T := TX6) (N := 11) (ci := 8) (k := 0) (index := 12) (i := 0) (r := 24) inGX6 rfl (by decide) fl_X6_12 (by decide) rfl rfl dX6_cheapest_23 ?_
    refine lv_iconst (v := 2) hx hcd dX6_cheapest_26 (by decide) ?_
    refine lv_iload_n hx hcd dX6_cheapest_27 rfl (lv_at hl 1 rfl) ?_
    refine lv_imul hx hcd dX6_cheapest_28 ?_
    refine lv_iload_n hx hcd dX6_cheapest_29 rfl (lv_at hl 2 rfl) ?_
    refine lv_iadd hx hcd dX6_cheapest_30 ?_
    obtain ⟨r5, h4, ho⟩ := gb_some ho
    refine g_calli hW (g_runV (As := [.int (((2 : Int32) * x1) + x2)]) (rest := []) (i := 24) hC hW (c_X0_cheapestFor l D y ad g_air24 (((2 : Int32) * x1) + x2) _ _ h4) ok_X6_235 ⟨rfl, rfl, Nat.le_of_ble_eq_true rfl, Nat.le_of_ble_eq_true rfl⟩ (g_lt_air g_air24) (g_sh_air g_air24) rfl rfl rfl hl.1 rfl (Nat.le_of_ble_eq_true rfl) dX6_cheapest_31 ⟨Nat.zero_le _, Nat.zero_le _⟩) (fun H locs hW => ?_)
    refine lv_istore_n (lv' := [(3, .int r5), (0, .ref (ad 0)), (1, .int x1), (2, .int x2)]) hx hcd dX6_cheapest_34 rfl hl (by decide) rfl (fun ls hl => ?_)
    refine lv_iload_n hx hcd dX6_cheapest_35 rfl (lv_at hl 0 rfl) ?_
    refine lv_if_ge (tgt := 49) hx hcd dX6_cheapest_36 (by decide) (fun c6 => ?_) (fun c6 => ?_)
    · have ho := gif_p ho c6
      refine lv_iload_n hx hcd dX6_cheapest_49 rfl (lv_at hl 0 rfl) ?_
      exact g_iretX (Option.some.inj ho) hC hr hlk hsz hW dX6_cheapest_50
    · have ho := gif_n ho c6
      exact g_throwN hfl (text := "no stand for this stay") (Option.some.inj ho) hC hlk ht hZ hl.1 hW (List.mem_of_getElem? (i := 16) rfl) dX6_cheapest_39 dX6_cheapest_42 dX6_cheapest_43 dX6_cheapest_45 dX6_cheapest_48 ⟨Nat.le_of_ble_eq_true rfl, Nat.le_of_ble_eq_true rfl, Nat.le_of_ble_eq_true rfl, Nat.le_of_ble_eq_true rfl⟩
  · have ho := gif_p ho c3
    exact g_throw hfl ox_IndexOutOfBoundsException (text := "no such turn or stay") (Option.some.inj ho) hC hlk ht hZ hl.1 hW (List.mem_of_getElem? (i := 13) rfl) dX6_cheapest_12 dX6_cheapest_15 dX6_cheapest_16 dX6_cheapest_18 dX6_cheapest_21 ⟨Nat.le_of_ble_eq_true rfl, Nat.le_of_ble_eq_true rfl, Nat.le_of_ble_eq_true rfl, Nat.le_of_ble_eq_true rfl⟩
noncomputable def X6_lift (σ : gS) (x1 : Int32) (x2 : Int32) : Option ((String ⊕ Int32) × gS) :=
  (X0_hasStay σ 24 x1 x2).bind fun r2 => if r2 = 0 then (some (.inl "java/lang/IndexOutOfBoundsException", σ)) else (gd (ib (((2 : Int32) * x1) + x2) 20) <| if 0 ≤ (σ (24 + 11) (((2 : Int32) * x1) + x2).toNatClampNeg) then ((X4_remember σ 24).bind fun σ7 => lt_ (g_up σ7 (24 + 11) (((2 : Int32) * x1) + x2).toNatClampNeg (-1)) fun σ8 => some (.inr (σ (24 + 11) (((2 : Int32) * x1) + x2).toNatClampNeg), σ8)) else (some (.inl "java/lang/IllegalStateException", σ)))
set_option maxHeartbeats 4000000 in
set_option maxRecDepth 100000 in
theorem c_X6_lift (l : Launch) (hfl : l.stackTraces = false) (D : va_G) (y : ClassId × ClassId × ClassId) (ad : Nat → Nat) (x1 : Int32) (x2 : Int32) (σ : gS) (sz : Nat) {q : (String ⊕ Int32) × gS} (h : X6_lift σ x1 x2 = some q) : vx_Met l yX6_lift (Cond.code yX6_lift cX6_lift 5 (some .int) :: gl) ({ frames := 7, cells := 1, slots := 6, locals := 100 }) (g_PcX D y ad σ sz [.ref (ad 0), .int x1, .int x2]) (g_QX D y ad sz q) (g_XX D y ad sz q) 1 6 (g_A ad sz) := by
  have ho := h
  unfold X6_lift at ho
  refine g_startX (by decide) (Nat.le_of_ble_eq_true rfl) (fun p e s m below meth c ls hC hr hlk hsz hW hl ht hZ => ?_)
  have hx := hC.1
  have hcd := hC.2.1
  have hl : lv_has ls 5 [(0, .ref (ad 0)), (1, .int x1), (2, .int x2)] := hl
  refine lv_aload_n hx hcd dX6_lift_0 rfl (lv_at hl 0 rfl) ?_
  refine g_getr hC hW (C := RX6) (T := TX6) (N := 11) (ci := 8) (k := 0) (index := 12) (i := 0) (r := 24) inGX6 rfl (by decide) fl_X6_12 (by decide) rfl rfl dX6_lift_1 ?_
  refine lv_iload_n hx hcd dX6_lift_4 rfl (lv_at hl 1 rfl) ?_
  refine lv_iload_n hx hcd dX6_lift_5 rfl (lv_at hl 2 rfl) ?_
  obtain ⟨r2, h1, ho⟩ := gb_some ho
  refine g_calli hW (g_runV (As := [.int x1, .int x2]) (rest := []) (i := 24) hC hW (c_X0_hasStay l D y ad g_air24 x1 x2 _ _ h1) ok_X6_198 ⟨rfl, rfl, Nat.le_of_ble_eq_true rfl, Nat.le_of_ble_eq_true rfl⟩ (g_lt_air g_air24) (g_sh_air g_air24) rfl rfl rfl hl.1 rfl (Nat.le_of_ble_eq_true rfl) dX6_lift_6 ⟨Nat.zero_le _, Nat.zero_le _⟩) (fun H locs hW => ?_)
  refine lv_if_ne (tgt := 22) hx hcd dX6_lift_9 (by decide) (fun c3 => ?_) (fun c3 => ?_)
  · have ho := gif_n ho c3
    refine lv_iconst (v := 2) hx hcd dX6_lift_22 (by decide) ?_
    refine lv_iload_n hx hcd dX6_lift_23 rfl (lv_at hl 1 rfl) ?_
    refine lv_imul hx hcd dX6_lift_24 ?_
    refine lv_iload_n hx hcd dX6_lift_25 rfl (lv_at hl 2 rfl) ?_
    refine lv_iadd hx hcd dX6_lift_26 ?_
    refine lv_istore_n (lv' := [(3, .int (((2 : Int32) * x1) + x2)), (0, .ref (ad 0)), (1, .int x1), (2, .int x2)]) hx hcd dX6_lift_27 rfl hl (by decide) rfl (fun ls hl => ?_)
    refine lv_aload_n hx hcd dX6_lift_28 rfl (lv_at hl 1 rfl) ?_
    refine g_getr hC hW (C := RX6) (T := TX6) (N := 11) (ci := 8) (k := 0) (index := 12) (i := 0) (r := 24) inGX6 rfl (by decide) fl_X6_12 (by decide) rfl rfl dX6_lift_29 ?_
    refine g_getr hC hW (C := RX0) (T := TX0) (N := 16) (ci := 2) (k := 15) (index := 210) (i := 24) (r := (24 + 11)) inGX0 rfl (by decide) fl_X6_210 (g_lt_air g_air24) (g_sh_air g_air24) rfl dX6_lift_32 ?_
    refine lv_iload_n hx hcd dX6_lift_35 rfl (lv_at hl 0 rfl) ?_
    obtain ⟨i4, ho⟩ := gd_some ho
    refine g_iald hC hW (i := (24 + 11)) (g_lt_arr (j := 11) g_air24 (by decide)) (g_sa11 g_air24) i4 dX6_lift_36 ?_
    refine lv_istore (lv' := [(4, .int (σ (24 + 11) (((2 : Int32) * x1) + x2).toNatClampNeg)), (3, .int (((2 : Int32) * x1) + x2)), (0, .ref (ad 0)), (1, .int x1), (2, .int x2)]) hx hcd dX6_lift_37 hl (by decide) rfl (fun ls hl => ?_)
    refine lv_iload hx hcd dX6_lift_39 (lv_at hl 0 rfl) ?_
    refine lv_if_ge (tgt := 54) hx hcd dX6_lift_41 (by decide) (fun c5 => ?_) (fun c5 => ?_)
    · have ho := gif_p ho c5
      refine lv_aload_n hx hcd dX6_lift_54 rfl (lv_at hl 2 rfl) ?_
      refine g_getr hC hW (C := RX6) (T := TX6) (N := 11) (ci := 8) (k := 3) (index := 25) (i := 0) (r := 2) inGX6 rfl (by decide) fl_X6_25 (by decide) rfl rfl dX6_lift_55 ?_
      refine lv_aload_n hx hcd dX6_lift_58 rfl (lv_at hl 2 rfl) ?_
      refine g_getr hC hW (C := RX6) (T := TX6) (N := 11) (ci := 8) (k := 0) (index := 12) (i := 0) (r := 24) inGX6 rfl (by decide) fl_X6_12 (by decide) rfl rfl dX6_lift_59 ?_
      obtain ⟨σ7, h6, ho⟩ := gb_some ho
      refine g_callv hW (g_runV (As := [.ref (ad 24)]) (rest := []) (i := 2) hC hW (c_X4_remember l D y ad g_air24 _ _ h6) ok_X6_89 ⟨rfl, rfl, Nat.le_of_ble_eq_true rfl, Nat.le_of_ble_eq_true rfl⟩ (by decide) rfl rfl rfl rfl hl.1 rfl (Nat.le_of_ble_eq_true rfl) dX6_lift_62 ⟨Nat.zero_le _, Nat.zero_le _⟩) (fun H locs hW => ?_)
      refine lv_aload_n hx hcd dX6_lift_65 rfl (lv_at hl 2 rfl) ?_
      refine g_getr hC hW (C := RX6) (T := TX6) (N := 11) (ci := 8) (k := 0) (index := 12) (i := 0) (r := 24) inGX6 rfl (by decide) fl_X6_12 (by decide) rfl rfl dX6_lift_66 ?_
      refine g_getr hC hW (C := RX0) (T := TX0) (N := 16) (ci := 2) (k := 15) (index := 210) (i := 24) (r := (24 + 11)) inGX0 rfl (by decide) fl_X6_210 (g_lt_air g_air24) (g_sh_air g_air24) rfl dX6_lift_69 ?_
      refine lv_iload_n hx hcd dX6_lift_72 rfl (lv_at hl 1 rfl) ?_
      refine lv_iconst (v := (-1)) hx hcd dX6_lift_73 (by decide) ?_
      obtain ⟨σ8, eσ8, ho⟩ := lt_ex ho
      refine g_iast hC hW (i := (24 + 11)) (g_lt_arr (j := 11) g_air24 (by decide)) (g_sa11 g_air24) i4 dX6_lift_74 (fun H locs hW => ?_)
      rw [← eσ8] at hW
      refine lv_iload hx hcd dX6_lift_75 (lv_at hl 0 rfl) ?_
      exact g_iretX (Option.some.inj ho) hC hr hlk hsz hW dX6_lift_77
    · have ho := gif_n ho c5
      exact g_throw hfl ox_IllegalStateException (text := "on no stand") (Option.some.inj ho) hC hlk ht hZ hl.1 hW (List.mem_of_getElem? (i := 17) rfl) dX6_lift_44 dX6_lift_47 dX6_lift_48 dX6_lift_50 dX6_lift_53 ⟨Nat.le_of_ble_eq_true rfl, Nat.le_of_ble_eq_true rfl, Nat.le_of_ble_eq_true rfl, Nat.le_of_ble_eq_true rfl⟩
  · have ho := gif_p ho c3
    exact g_throw hfl ox_IndexOutOfBoundsException (text := "no such turn or stay") (Option.some.inj ho) hC hlk ht hZ hl.1 hW (List.mem_of_getElem? (i := 13) rfl) dX6_lift_12 dX6_lift_15 dX6_lift_16 dX6_lift_18 dX6_lift_21 ⟨Nat.le_of_ble_eq_true rfl, Nat.le_of_ble_eq_true rfl, Nat.le_of_ble_eq_true rfl, Nat.le_of_ble_eq_true rfl⟩
noncomputable def X6_reason (σ : gS) : Option ((String ⊕ Int32) × gS) :=
  if (σ 0 9) = 0 then (some (.inl "java/util/NoSuchElementException", σ)) else (some (.inr (σ 0 9), σ))
set_option maxHeartbeats 4000000 in
set_option maxRecDepth 100000 in
theorem c_X6_reason (l : Launch) (hfl : l.stackTraces = false) (D : va_G) (y : ClassId × ClassId × ClassId) (ad : Nat → Nat) (σ : gS) (sz : Nat) {q : (String ⊕ Int32) × gS} (h : X6_reason σ = some q) : vx_Met l yX6_reason (Cond.code yX6_reason cX6_reason 1 (some .int) :: gl) ({ frames := 7, cells := 1, slots := 6, locals := 100 }) (g_PcX D y ad σ sz [.ref (ad 0)]) (g_QX D y ad sz q) (g_XX D y ad sz q) 1 6 (g_A ad sz) := by
  have ho := h
  unfold X6_reason at ho
  refine g_startX (by decide) (Nat.le_of_ble_eq_true rfl) (fun p e s m below meth c ls hC hr hlk hsz hW hl ht hZ => ?_)
  have hx := hC.1
  have hcd := hC.2.1
  have hl : lv_has ls 1 [(0, .ref (ad 0))] := hl
  refine lv_aload_n hx hcd dX6_reason_0 rfl (lv_at hl 0 rfl) ?_
  refine g_geti hC hW (C := RX6) (T := TX6) (N := 11) (ci := 8) (k := 9) (index := 58) (i := 0) inGX6 rfl (by decide) fl_X6_58 (by decide) rfl rfl dX6_reason_1 ?_
  refine lv_if_ne (tgt := 17) hx hcd dX6_reason_4 (by decide) (fun c1 => ?_) (fun c1 => ?_)
  · have ho := gif_n ho c1
    refine lv_aload_n hx hcd dX6_reason_17 rfl (lv_at hl 0 rfl) ?_
    refine g_geti hC hW (C := RX6) (T := TX6) (N := 11) (ci := 8) (k := 9) (index := 58) (i := 0) inGX6 rfl (by decide) fl_X6_58 (by decide) rfl rfl dX6_reason_18 ?_
    exact g_iretX (Option.some.inj ho) hC hr hlk hsz hW dX6_reason_21
  · have ho := gif_p ho c1
    exact g_throwN hfl (text := "no reason was kept") (Option.some.inj ho) hC hlk ht hZ hl.1 hW (List.mem_of_getElem? (i := 18) rfl) dX6_reason_7 dX6_reason_10 dX6_reason_11 dX6_reason_13 dX6_reason_16 ⟨Nat.le_of_ble_eq_true rfl, Nat.le_of_ble_eq_true rfl, Nat.le_of_ble_eq_true rfl, Nat.le_of_ble_eq_true rfl⟩
noncomputable def X6_tow (σ : gS) (x1 : Int32) (x2 : Int32) : Option ((String ⊕ Int32) × gS) :=
  (X0_hasTurn σ 24 x1).bind fun r2 => if r2 = 0 then (some (.inl "java/lang/IndexOutOfBoundsException", σ)) else ((X0_isTowMinute σ 24 x1 x2).bind fun r5 => if r5 = 0 then (some (.inl "java/lang/IllegalArgumentException", σ)) else ((X0_hasTow σ 24 x1).bind fun r8 => if r8 = 0 then ((X4_remember σ 24).bind fun σ11 => (X0_divide σ11 24 x1 x2).bind fun q13 => some (.inr q13.1, q13.2)) else (some (.inl "java/lang/IllegalStateException", σ))))
set_option maxHeartbeats 4000000 in
set_option maxRecDepth 100000 in
theorem c_X6_tow (l : Launch) (hfl : l.stackTraces = false) (D : va_G) (y : ClassId × ClassId × ClassId) (ad : Nat → Nat) (x1 : Int32) (x2 : Int32) (σ : gS) (sz : Nat) {q : (String ⊕ Int32) × gS} (h : X6_tow σ x1 x2 = some q) : vx_Met l yX6_tow (Cond.code yX6_tow cX6_tow 3 (some .int) :: gl) ({ frames := 7, cells := 1, slots := 6, locals := 100 }) (g_PcX D y ad σ sz [.ref (ad 0), .int x1, .int x2]) (g_QX D y ad sz q) (g_XX D y ad sz q) 1 6 (g_A ad sz) := by
  have ho := h
  unfold X6_tow at ho
  refine g_startX (by decide) (Nat.le_of_ble_eq_true rfl) (fun p e s m below meth c ls hC hr hlk hsz hW hl ht hZ => ?_)
  have hx := hC.1
  have hcd := hC.2.1
  have hl : lv_has ls 3 [(0, .ref (ad 0)), (1, .int x1), (2, .int x2)] := hl
  refine lv_aload_n hx hcd dX6_tow_0 rfl (lv_at hl 0 rfl) ?_
  refine g_getr hC hW (C := RX6) (T := TX6) (N := 11) (ci := 8) (k := 0) (index := 12) (i := 0) (r := 24) inGX6 rfl (by decide) fl_X6_12 (by decide) rfl rfl dX6_tow_1 ?_
  refine lv_iload_n hx hcd dX6_tow_4 rfl (lv_at hl 1 rfl) ?_
  obtain ⟨r2, h1, ho⟩ := gb_some ho
  refine g_calli hW (g_runV (As := [.int x1]) (rest := []) (i := 24) hC hW (c_X0_hasTurn l D y ad g_air24 x1 _ _ h1) ok_X6_173 ⟨rfl, rfl, Nat.le_of_ble_eq_true rfl, Nat.le_of_ble_eq_true rfl⟩ (g_lt_air g_air24) (g_sh_air g_air24) rfl rfl rfl hl.1 rfl (Nat.le_of_ble_eq_true rfl) dX6_tow_5 ⟨Nat.zero_le _, Nat.zero_le _⟩) (fun H locs hW => ?_)
  refine lv_if_ne (tgt := 21) hx hcd dX6_tow_8 (by decide) (fun c3 => ?_) (fun c3 => ?_)
  · have ho := gif_n ho c3
    refine lv_aload_n hx hcd dX6_tow_21 rfl (lv_at hl 0 rfl) ?_
    refine g_getr hC hW (C := RX6) (T := TX6) (N := 11) (ci := 8) (k := 0) (index := 12) (i := 0) (r := 24) inGX6 rfl (by decide) fl_X6_12 (by decide) rfl rfl dX6_tow_22 ?_
    refine lv_iload_n hx hcd dX6_tow_25 rfl (lv_at hl 1 rfl) ?_
    refine lv_iload_n hx hcd dX6_tow_26 rfl (lv_at hl 2 rfl) ?_
    obtain ⟨r5, h4, ho⟩ := gb_some ho
    refine g_calli hW (g_runV (As := [.int x1, .int x2]) (rest := []) (i := 24) hC hW (c_X0_isTowMinute l D y ad g_air24 x1 x2 _ _ h4) ok_X6_244 ⟨rfl, rfl, Nat.le_of_ble_eq_true rfl, Nat.le_of_ble_eq_true rfl⟩ (g_lt_air g_air24) (g_sh_air g_air24) rfl rfl rfl hl.1 rfl (Nat.le_of_ble_eq_true rfl) dX6_tow_27 ⟨Nat.zero_le _, Nat.zero_le _⟩) (fun H locs hW => ?_)
    refine lv_if_ne (tgt := 43) hx hcd dX6_tow_30 (by decide) (fun c6 => ?_) (fun c6 => ?_)
    · have ho := gif_n ho c6
      refine lv_aload_n hx hcd dX6_tow_43 rfl (lv_at hl 0 rfl) ?_
      refine g_getr hC hW (C := RX6) (T := TX6) (N := 11) (ci := 8) (k := 0) (index := 12) (i := 0) (r := 24) inGX6 rfl (by decide) fl_X6_12 (by decide) rfl rfl dX6_tow_44 ?_
      refine lv_iload_n hx hcd dX6_tow_47 rfl (lv_at hl 1 rfl) ?_
      obtain ⟨r8, h7, ho⟩ := gb_some ho
      refine g_calli hW (g_runV (As := [.int x1]) (rest := []) (i := 24) hC hW (c_X0_hasTow l D y ad g_air24 x1 _ _ h7) ok_X6_249 ⟨rfl, rfl, Nat.le_of_ble_eq_true rfl, Nat.le_of_ble_eq_true rfl⟩ (g_lt_air g_air24) (g_sh_air g_air24) rfl rfl rfl hl.1 rfl (Nat.le_of_ble_eq_true rfl) dX6_tow_48 ⟨Nat.zero_le _, Nat.zero_le _⟩) (fun H locs hW => ?_)
      refine lv_if_eq (tgt := 64) hx hcd dX6_tow_51 (by decide) (fun c9 => ?_) (fun c9 => ?_)
      · have ho := gif_p ho c9
        refine lv_aload_n hx hcd dX6_tow_64 rfl (lv_at hl 0 rfl) ?_
        refine g_getr hC hW (C := RX6) (T := TX6) (N := 11) (ci := 8) (k := 3) (index := 25) (i := 0) (r := 2) inGX6 rfl (by decide) fl_X6_25 (by decide) rfl rfl dX6_tow_65 ?_
        refine lv_aload_n hx hcd dX6_tow_68 rfl (lv_at hl 0 rfl) ?_
        refine g_getr hC hW (C := RX6) (T := TX6) (N := 11) (ci := 8) (k := 0) (index := 12) (i := 0) (r := 24) inGX6 rfl (by decide) fl_X6_12 (by decide) rfl rfl dX6_tow_69 ?_
        obtain ⟨σ11, h10, ho⟩ := gb_some ho
        refine g_callv hW (g_runV (As := [.ref (ad 24)]) (rest := []) (i := 2) hC hW (c_X4_remember l D y ad g_air24 _ _ h10) ok_X6_89 ⟨rfl, rfl, Nat.le_of_ble_eq_true rfl, Nat.le_of_ble_eq_true rfl⟩ (by decide) rfl rfl rfl rfl hl.1 rfl (Nat.le_of_ble_eq_true rfl) dX6_tow_72 ⟨Nat.zero_le _, Nat.zero_le _⟩) (fun H locs hW => ?_)
        refine lv_aload_n hx hcd dX6_tow_75 rfl (lv_at hl 0 rfl) ?_
        refine g_getr hC hW (C := RX6) (T := TX6) (N := 11) (ci := 8) (k := 0) (index := 12) (i := 0) (r := 24) inGX6 rfl (by decide) fl_X6_12 (by decide) rfl rfl dX6_tow_76 ?_
        refine lv_iload_n hx hcd dX6_tow_79 rfl (lv_at hl 1 rfl) ?_
        refine lv_iload_n hx hcd dX6_tow_80 rfl (lv_at hl 2 rfl) ?_
        obtain ⟨q13, h12, ho⟩ := gb_some ho
        refine g_calli hW (g_runV (As := [.int x1, .int x2]) (rest := []) (i := 24) hC hW (c_X0_divide l D y ad g_air24 x1 x2 _ _ h12) ok_X6_254 ⟨rfl, rfl, Nat.le_of_ble_eq_true rfl, Nat.le_of_ble_eq_true rfl⟩ (g_lt_air g_air24) (g_sh_air g_air24) rfl rfl rfl hl.1 rfl (Nat.le_of_ble_eq_true rfl) dX6_tow_81 ⟨Nat.zero_le _, Nat.zero_le _⟩) (fun H locs hW => ?_)
        exact g_iretX (Option.some.inj ho) hC hr hlk hsz hW dX6_tow_84
      · have ho := gif_n ho c9
        exact g_throw hfl ox_IllegalStateException (text := "it has a tow") (Option.some.inj ho) hC hlk ht hZ hl.1 hW (List.mem_of_getElem? (i := 20) rfl) dX6_tow_54 dX6_tow_57 dX6_tow_58 dX6_tow_60 dX6_tow_63 ⟨Nat.le_of_ble_eq_true rfl, Nat.le_of_ble_eq_true rfl, Nat.le_of_ble_eq_true rfl, Nat.le_of_ble_eq_true rfl⟩
    · have ho := gif_p ho c6
      exact g_throw hfl ox_IllegalArgumentException (text := "no minute for a tow") (Option.some.inj ho) hC hlk ht hZ hl.1 hW (List.mem_of_getElem? (i := 19) rfl) dX6_tow_33 dX6_tow_36 dX6_tow_37 dX6_tow_39 dX6_tow_42 ⟨Nat.le_of_ble_eq_true rfl, Nat.le_of_ble_eq_true rfl, Nat.le_of_ble_eq_true rfl, Nat.le_of_ble_eq_true rfl⟩
  · have ho := gif_p ho c3
    exact g_throw hfl ox_IndexOutOfBoundsException (text := "no such turn") (Option.some.inj ho) hC hlk ht hZ hl.1 hW (List.mem_of_getElem? (i := 11) rfl) dX6_tow_11 dX6_tow_14 dX6_tow_15 dX6_tow_17 dX6_tow_20 ⟨Nat.le_of_ble_eq_true rfl, Nat.le_of_ble_eq_true rfl, Nat.le_of_ble_eq_true rfl, Nat.le_of_ble_eq_true rfl⟩
noncomputable def X6_untow (σ : gS) (x1 : Int32) : Option ((String ⊕ Int32) × gS) :=
  (X0_hasTurn σ 24 x1).bind fun r2 => if r2 = 0 then (some (.inl "java/lang/IndexOutOfBoundsException", σ)) else ((X0_hasTow σ 24 x1).bind fun r5 => if r5 = 0 then (some (.inl "java/lang/IllegalStateException", σ)) else ((X4_remember σ 24).bind fun σ8 => (X0_join σ8 24 x1).bind fun q10 => some (.inr q10.1, q10.2)))
set_option maxHeartbeats 4000000 in
set_option maxRecDepth 100000 in
theorem c_X6_untow (l : Launch) (hfl : l.stackTraces = false) (D : va_G) (y : ClassId × ClassId × ClassId) (ad : Nat → Nat) (x1 : Int32) (σ : gS) (sz : Nat) {q : (String ⊕ Int32) × gS} (h : X6_untow σ x1 = some q) : vx_Met l yX6_untow (Cond.code yX6_untow cX6_untow 2 (some .int) :: gl) ({ frames := 7, cells := 1, slots := 6, locals := 100 }) (g_PcX D y ad σ sz [.ref (ad 0), .int x1]) (g_QX D y ad sz q) (g_XX D y ad sz q) 1 6 (g_A ad sz) := by
  have ho := h
  unfold X6_untow at ho
  refine g_startX (by decide) (Nat.le_of_ble_eq_true rfl) (fun p e s m below meth c ls hC hr hlk hsz hW hl ht hZ => ?_)
  have hx := hC.1
  have hcd := hC.2.1
  have hl : lv_has ls 2 [(0, .ref (ad 0)), (1, .int x1)] := hl
  refine lv_aload_n hx hcd dX6_untow_0 rfl (lv_at hl 0 rfl) ?_
  refine g_getr hC hW (C := RX6) (T := TX6) (N := 11) (ci := 8) (k := 0) (index := 12) (i := 0) (r := 24) inGX6 rfl (by decide) fl_X6_12 (by decide) rfl rfl dX6_untow_1 ?_
  refine lv_iload_n hx hcd dX6_untow_4 rfl (lv_at hl 1 rfl) ?_
  obtain ⟨r2, h1, ho⟩ := gb_some ho
  refine g_calli hW (g_runV (As := [.int x1]) (rest := []) (i := 24) hC hW (c_X0_hasTurn l D y ad g_air24 x1 _ _ h1) ok_X6_173 ⟨rfl, rfl, Nat.le_of_ble_eq_true rfl, Nat.le_of_ble_eq_true rfl⟩ (g_lt_air g_air24) (g_sh_air g_air24) rfl rfl rfl hl.1 rfl (Nat.le_of_ble_eq_true rfl) dX6_untow_5 ⟨Nat.zero_le _, Nat.zero_le _⟩) (fun H locs hW => ?_)
  refine lv_if_ne (tgt := 21) hx hcd dX6_untow_8 (by decide) (fun c3 => ?_) (fun c3 => ?_)
  · have ho := gif_n ho c3
    refine lv_aload_n hx hcd dX6_untow_21 rfl (lv_at hl 0 rfl) ?_
    refine g_getr hC hW (C := RX6) (T := TX6) (N := 11) (ci := 8) (k := 0) (index := 12) (i := 0) (r := 24) inGX6 rfl (by decide) fl_X6_12 (by decide) rfl rfl dX6_untow_22 ?_
    refine lv_iload_n hx hcd dX6_untow_25 rfl (lv_at hl 1 rfl) ?_
    obtain ⟨r5, h4, ho⟩ := gb_some ho
    refine g_calli hW (g_runV (As := [.int x1]) (rest := []) (i := 24) hC hW (c_X0_hasTow l D y ad g_air24 x1 _ _ h4) ok_X6_249 ⟨rfl, rfl, Nat.le_of_ble_eq_true rfl, Nat.le_of_ble_eq_true rfl⟩ (g_lt_air g_air24) (g_sh_air g_air24) rfl rfl rfl hl.1 rfl (Nat.le_of_ble_eq_true rfl) dX6_untow_26 ⟨Nat.zero_le _, Nat.zero_le _⟩) (fun H locs hW => ?_)
    refine lv_if_ne (tgt := 43) hx hcd dX6_untow_29 (by decide) (fun c6 => ?_) (fun c6 => ?_)
    · have ho := gif_n ho c6
      refine lv_aload_n hx hcd dX6_untow_43 rfl (lv_at hl 0 rfl) ?_
      refine g_getr hC hW (C := RX6) (T := TX6) (N := 11) (ci := 8) (k := 3) (index := 25) (i := 0) (r := 2) inGX6 rfl (by decide) fl_X6_25 (by decide) rfl rfl dX6_untow_44 ?_
      refine lv_aload_n hx hcd dX6_untow_47 rfl (lv_at hl 0 rfl) ?_
      refine g_getr hC hW (C := RX6) (T := TX6) (N := 11) (ci := 8) (k := 0) (index := 12) (i := 0) (r := 24) inGX6 rfl (by decide) fl_X6_12 (by decide) rfl rfl dX6_untow_48 ?_
      obtain ⟨σ8, h7, ho⟩ := gb_some ho
      refine g_callv hW (g_runV (As := [.ref (ad 24)]) (rest := []) (i := 2) hC hW (c_X4_remember l D y ad g_air24 _ _ h7) ok_X6_89 ⟨rfl, rfl, Nat.le_of_ble_eq_true rfl, Nat.le_of_ble_eq_true rfl⟩ (by decide) rfl rfl rfl rfl hl.1 rfl (Nat.le_of_ble_eq_true rfl) dX6_untow_51 ⟨Nat.zero_le _, Nat.zero_le _⟩) (fun H locs hW => ?_)
      refine lv_aload_n hx hcd dX6_untow_54 rfl (lv_at hl 0 rfl) ?_
      refine g_getr hC hW (C := RX6) (T := TX6) (N := 11) (ci := 8) (k := 0) (index := 12) (i := 0) (r := 24) inGX6 rfl (by decide) fl_X6_12 (by decide) rfl rfl dX6_untow_55 ?_
      refine lv_iload_n hx hcd dX6_untow_58 rfl (lv_at hl 1 rfl) ?_
      obtain ⟨q10, h9, ho⟩ := gb_some ho
      refine g_calli hW (g_runV (As := [.int x1]) (rest := []) (i := 24) hC hW (c_X0_join l D y ad g_air24 x1 _ _ h9) ok_X6_259 ⟨rfl, rfl, Nat.le_of_ble_eq_true rfl, Nat.le_of_ble_eq_true rfl⟩ (g_lt_air g_air24) (g_sh_air g_air24) rfl rfl rfl hl.1 rfl (Nat.le_of_ble_eq_true rfl) dX6_untow_59 ⟨Nat.zero_le _, Nat.zero_le _⟩) (fun H locs hW => ?_)
      exact g_iretX (Option.some.inj ho) hC hr hlk hsz hW dX6_untow_62
    · have ho := gif_p ho c6
      exact g_throwW hfl ox_IllegalStateException (text := "it has no tow") (Option.some.inj ho) hC hlk ht hZ hl.1 hW (List.mem_of_getElem? (i := 21) rfl) dX6_untow_32 dX6_untow_35 dX6_untow_36 dX6_untow_39 dX6_untow_42 ⟨Nat.le_of_ble_eq_true rfl, Nat.le_of_ble_eq_true rfl, Nat.le_of_ble_eq_true rfl, Nat.le_of_ble_eq_true rfl⟩
  · have ho := gif_p ho c3
    exact g_throw hfl ox_IndexOutOfBoundsException (text := "no such turn") (Option.some.inj ho) hC hlk ht hZ hl.1 hW (List.mem_of_getElem? (i := 11) rfl) dX6_untow_11 dX6_untow_14 dX6_untow_15 dX6_untow_17 dX6_untow_20 ⟨Nat.le_of_ble_eq_true rfl, Nat.le_of_ble_eq_true rfl, Nat.le_of_ble_eq_true rfl, Nat.le_of_ble_eq_true rfl⟩
noncomputable def X6_delay (σ : gS) (x1 : Int32) (x2 : Int32) : Option ((String ⊕ Int32) × gS) :=
  (X0_hasTurn σ 24 x1).bind fun r2 => if r2 = 0 then (some (.inl "java/lang/IndexOutOfBoundsException", σ)) else (if x2 < 1 then (some (.inl "java/lang/IllegalArgumentException", σ)) else (if x2 ≤ 300 then ((X0_departureAfter σ 24 x1 x2).bind fun r7 => if r7 ≤ 1440 then ((X4_remember σ 24).bind fun σ10 => (X0_postpone σ10 24 x1 x2).bind fun q12 => some (.inr q12.1, q12.2)) else (some (.inl "java/lang/IllegalStateException", σ))) else (some (.inl "java/lang/IllegalArgumentException", σ))))
set_option maxHeartbeats 4000000 in
set_option maxRecDepth 100000 in
theorem c_X6_delay (l : Launch) (hfl : l.stackTraces = false) (D : va_G) (y : ClassId × ClassId × ClassId) (ad : Nat → Nat) (x1 : Int32) (x2 : Int32) (σ : gS) (sz : Nat) {q : (String ⊕ Int32) × gS} (h : X6_delay σ x1 x2 = some q) : vx_Met l yX6_delay (Cond.code yX6_delay cX6_delay 3 (some .int) :: gl) ({ frames := 7, cells := 1, slots := 6, locals := 100 }) (g_PcX D y ad σ sz [.ref (ad 0), .int x1, .int x2]) (g_QX D y ad sz q) (g_XX D y ad sz q) 1 6 (g_A ad sz) := by
  have ho := h
  unfold X6_delay at ho
  refine g_startX (by decide) (Nat.le_of_ble_eq_true rfl) (fun p e s m below meth c ls hC hr hlk hsz hW hl ht hZ => ?_)
  have hx := hC.1
  have hcd := hC.2.1
  have hl : lv_has ls 3 [(0, .ref (ad 0)), (1, .int x1), (2, .int x2)] := hl
  refine lv_aload_n hx hcd dX6_delay_0 rfl (lv_at hl 0 rfl) ?_
  refine g_getr hC hW (C := RX6) (T := TX6) (N := 11) (ci := 8) (k := 0) (index := 12) (i := 0) (r := 24) inGX6 rfl (by decide) fl_X6_12 (by decide) rfl rfl dX6_delay_1 ?_
  refine lv_iload_n hx hcd dX6_delay_4 rfl (lv_at hl 1 rfl) ?_
  obtain ⟨r2, h1, ho⟩ := gb_some ho
  refine g_calli hW (g_runV (As := [.int x1]) (rest := []) (i := 24) hC hW (c_X0_hasTurn l D y ad g_air24 x1 _ _ h1) ok_X6_173 ⟨rfl, rfl, Nat.le_of_ble_eq_true rfl, Nat.le_of_ble_eq_true rfl⟩ (g_lt_air g_air24) (g_sh_air g_air24) rfl rfl rfl hl.1 rfl (Nat.le_of_ble_eq_true rfl) dX6_delay_5 ⟨Nat.zero_le _, Nat.zero_le _⟩) (fun H locs hW => ?_)
  refine lv_if_ne (tgt := 21) hx hcd dX6_delay_8 (by decide) (fun c3 => ?_) (fun c3 => ?_)
  · have ho := gif_n ho c3
    refine lv_iload_n hx hcd dX6_delay_21 rfl (lv_at hl 2 rfl) ?_
    refine lv_iconst (v := 1) hx hcd dX6_delay_22 (by decide) ?_
    refine lv_icmp_lt (tgt := 33) hx hcd dX6_delay_23 (by decide) (fun c4 => ?_) (fun c4 => ?_)
    · have ho := gif_p ho c4
      exact g_throwW hfl ox_IllegalArgumentException (text := "minutes out of range") (Option.some.inj ho) hC hlk ht hZ hl.1 hW (List.mem_of_getElem? (i := 22) rfl) dX6_delay_33 dX6_delay_36 dX6_delay_37 dX6_delay_40 dX6_delay_43 ⟨Nat.le_of_ble_eq_true rfl, Nat.le_of_ble_eq_true rfl, Nat.le_of_ble_eq_true rfl, Nat.le_of_ble_eq_true rfl⟩
    · have ho := gif_n ho c4
      refine lv_iload_n hx hcd dX6_delay_26 rfl (lv_at hl 2 rfl) ?_
      refine lv_sipush (v := 300) hx hcd dX6_delay_27 (by decide) ?_
      refine lv_icmp_le (tgt := 44) hx hcd dX6_delay_30 (by decide) (fun c5 => ?_) (fun c5 => ?_)
      · have ho := gif_p ho c5
        refine lv_aload_n hx hcd dX6_delay_44 rfl (lv_at hl 0 rfl) ?_
        refine g_getr hC hW (C := RX6) (T := TX6) (N := 11) (ci := 8) (k := 0) (index := 12) (i := 0) (r := 24) inGX6 rfl (by decide) fl_X6_12 (by decide) rfl rfl dX6_delay_45 ?_
        refine lv_iload_n hx hcd dX6_delay_48 rfl (lv_at hl 1 rfl) ?_
        refine lv_iload_n hx hcd dX6_delay_49 rfl (lv_at hl 2 rfl) ?_
        obtain ⟨r7, h6, ho⟩ := gb_some ho
        refine g_calli hW (g_runV (As := [.int x1, .int x2]) (rest := []) (i := 24) hC hW (c_X0_departureAfter l D y ad g_air24 x1 x2 _ _ h6) ok_X6_264 ⟨rfl, rfl, Nat.le_of_ble_eq_true rfl, Nat.le_of_ble_eq_true rfl⟩ (g_lt_air g_air24) (g_sh_air g_air24) rfl rfl rfl hl.1 rfl (Nat.le_of_ble_eq_true rfl) dX6_delay_50 ⟨Nat.zero_le _, Nat.zero_le _⟩) (fun H locs hW => ?_)
        refine lv_sipush (v := 1440) hx hcd dX6_delay_53 (by decide) ?_
        refine lv_icmp_le (tgt := 70) hx hcd dX6_delay_56 (by decide) (fun c8 => ?_) (fun c8 => ?_)
        · have ho := gif_p ho c8
          refine lv_aload_n hx hcd dX6_delay_70 rfl (lv_at hl 0 rfl) ?_
          refine g_getr hC hW (C := RX6) (T := TX6) (N := 11) (ci := 8) (k := 3) (index := 25) (i := 0) (r := 2) inGX6 rfl (by decide) fl_X6_25 (by decide) rfl rfl dX6_delay_71 ?_
          refine lv_aload_n hx hcd dX6_delay_74 rfl (lv_at hl 0 rfl) ?_
          refine g_getr hC hW (C := RX6) (T := TX6) (N := 11) (ci := 8) (k := 0) (index := 12) (i := 0) (r := 24) inGX6 rfl (by decide) fl_X6_12 (by decide) rfl rfl dX6_delay_75 ?_
          obtain ⟨σ10, h9, ho⟩ := gb_some ho
          refine g_callv hW (g_runV (As := [.ref (ad 24)]) (rest := []) (i := 2) hC hW (c_X4_remember l D y ad g_air24 _ _ h9) ok_X6_89 ⟨rfl, rfl, Nat.le_of_ble_eq_true rfl, Nat.le_of_ble_eq_true rfl⟩ (by decide) rfl rfl rfl rfl hl.1 rfl (Nat.le_of_ble_eq_true rfl) dX6_delay_78 ⟨Nat.zero_le _, Nat.zero_le _⟩) (fun H locs hW => ?_)
          refine lv_aload_n hx hcd dX6_delay_81 rfl (lv_at hl 0 rfl) ?_
          refine g_getr hC hW (C := RX6) (T := TX6) (N := 11) (ci := 8) (k := 0) (index := 12) (i := 0) (r := 24) inGX6 rfl (by decide) fl_X6_12 (by decide) rfl rfl dX6_delay_82 ?_
          refine lv_iload_n hx hcd dX6_delay_85 rfl (lv_at hl 1 rfl) ?_
          refine lv_iload_n hx hcd dX6_delay_86 rfl (lv_at hl 2 rfl) ?_
          obtain ⟨q12, h11, ho⟩ := gb_some ho
          refine g_calli hW (g_runV (As := [.int x1, .int x2]) (rest := []) (i := 24) hC hW (c_X0_postpone l D y ad g_air24 x1 x2 _ _ h11) ok_X6_269 ⟨rfl, rfl, Nat.le_of_ble_eq_true rfl, Nat.le_of_ble_eq_true rfl⟩ (g_lt_air g_air24) (g_sh_air g_air24) rfl rfl rfl hl.1 rfl (Nat.le_of_ble_eq_true rfl) dX6_delay_87 ⟨Nat.zero_le _, Nat.zero_le _⟩) (fun H locs hW => ?_)
          exact g_iretX (Option.some.inj ho) hC hr hlk hsz hW dX6_delay_90
        · have ho := gif_n ho c8
          exact g_throwW hfl ox_IllegalStateException (text := "the departure would be too late") (Option.some.inj ho) hC hlk ht hZ hl.1 hW (List.mem_of_getElem? (i := 23) rfl) dX6_delay_59 dX6_delay_62 dX6_delay_63 dX6_delay_66 dX6_delay_69 ⟨Nat.le_of_ble_eq_true rfl, Nat.le_of_ble_eq_true rfl, Nat.le_of_ble_eq_true rfl, Nat.le_of_ble_eq_true rfl⟩
      · have ho := gif_n ho c5
        exact g_throwW hfl ox_IllegalArgumentException (text := "minutes out of range") (Option.some.inj ho) hC hlk ht hZ hl.1 hW (List.mem_of_getElem? (i := 22) rfl) dX6_delay_33 dX6_delay_36 dX6_delay_37 dX6_delay_40 dX6_delay_43 ⟨Nat.le_of_ble_eq_true rfl, Nat.le_of_ble_eq_true rfl, Nat.le_of_ble_eq_true rfl, Nat.le_of_ble_eq_true rfl⟩
  · have ho := gif_p ho c3
    exact g_throw hfl ox_IndexOutOfBoundsException (text := "no such turn") (Option.some.inj ho) hC hlk ht hZ hl.1 hW (List.mem_of_getElem? (i := 11) rfl) dX6_delay_11 dX6_delay_14 dX6_delay_15 dX6_delay_17 dX6_delay_20 ⟨Nat.le_of_ble_eq_true rfl, Nat.le_of_ble_eq_true rfl, Nat.le_of_ble_eq_true rfl, Nat.le_of_ble_eq_true rfl⟩
noncomputable def X6_towGain (σ : gS) (x1 : Int32) (x2 : Int32) : Option ((String ⊕ Int32) × gS) :=
  (X0_hasTurn σ 24 x1).bind fun r2 => if r2 = 0 then (some (.inl "java/lang/IndexOutOfBoundsException", σ)) else ((X0_isTowMinute σ 24 x1 x2).bind fun r5 => if r5 = 0 then (some (.inl "java/lang/IllegalArgumentException", σ)) else ((X0_hasTow σ 24 x1).bind fun r8 => if r8 = 0 then ((X0_copyFrom σ 36 24).bind fun σ11 => (X0_placeEverything σ11 36).bind fun q13 => (X0_costOfAll q13.2 36).bind fun r15 => (X0_copyFrom q13.2 36 24).bind fun σ17 => (X0_divide σ17 36 x1 x2).bind fun q19 => (X0_placeEverything q19.2 36).bind fun q21 => (X0_costOfAll q21.2 36).bind fun r23 => some (.inr (r15 - r23), q21.2)) else (some (.inl "java/lang/IllegalStateException", σ))))
set_option maxHeartbeats 4000000 in
set_option maxRecDepth 100000 in
theorem c_X6_towGain (l : Launch) (hfl : l.stackTraces = false) (D : va_G) (y : ClassId × ClassId × ClassId) (ad : Nat → Nat) (x1 : Int32) (x2 : Int32) (σ : gS) (sz : Nat) {q : (String ⊕ Int32) × gS} (h : X6_towGain σ x1 x2 = some q) : vx_Met l yX6_towGain (Cond.code yX6_towGain cX6_towGain 4 (some .int) :: gl) ({ frames := 7, cells := 1, slots := 6, locals := 121 }) (g_PcX D y ad σ sz [.ref (ad 0), .int x1, .int x2]) (g_QX D y ad sz q) (g_XX D y ad sz q) 1 6 (g_A ad sz) := by
  have ho := h
  unfold X6_towGain at ho
  refine g_startX (by decide) (Nat.le_of_ble_eq_true rfl) (fun p e s m below meth c ls hC hr hlk hsz hW hl ht hZ => ?_)
  have hx := hC.1
  have hcd := hC.2.1
  have hl : lv_has ls 4 [(0, .ref (ad 0)), (1, .int x1), (2, .int x2)] := hl
  refine lv_aload_n hx hcd dX6_towGain_0 rfl (lv_at hl 0 rfl) ?_
  refine g_getr hC hW (C := RX6) (T := TX6) (N := 11) (ci := 8) (k := 0) (index := 12) (i := 0) (r := 24) inGX6 rfl (by decide) fl_X6_12 (by decide) rfl rfl dX6_towGain_1 ?_
  refine lv_iload_n hx hcd dX6_towGain_4 rfl (lv_at hl 1 rfl) ?_
  obtain ⟨r2, h1, ho⟩ := gb_some ho
  refine g_calli hW (g_runV (As := [.int x1]) (rest := []) (i := 24) hC hW (c_X0_hasTurn l D y ad g_air24 x1 _ _ h1) ok_X6_173 ⟨rfl, rfl, Nat.le_of_ble_eq_true rfl, Nat.le_of_ble_eq_true rfl⟩ (g_lt_air g_air24) (g_sh_air g_air24) rfl rfl rfl hl.1 rfl (Nat.le_of_ble_eq_true rfl) dX6_towGain_5 ⟨Nat.zero_le _, Nat.zero_le _⟩) (fun H locs hW => ?_)
  refine lv_if_ne (tgt := 21) hx hcd dX6_towGain_8 (by decide) (fun c3 => ?_) (fun c3 => ?_)
  · have ho := gif_n ho c3
    refine lv_aload_n hx hcd dX6_towGain_21 rfl (lv_at hl 0 rfl) ?_
    refine g_getr hC hW (C := RX6) (T := TX6) (N := 11) (ci := 8) (k := 0) (index := 12) (i := 0) (r := 24) inGX6 rfl (by decide) fl_X6_12 (by decide) rfl rfl dX6_towGain_22 ?_
    refine lv_iload_n hx hcd dX6_towGain_25 rfl (lv_at hl 1 rfl) ?_
    refine lv_iload_n hx hcd dX6_towGain_26 rfl (lv_at hl 2 rfl) ?_
    obtain ⟨r5, h4, ho⟩ := gb_some ho
    refine g_calli hW (g_runV (As := [.int x1, .int x2]) (rest := []) (i := 24) hC hW (c_X0_isTowMinute l D y ad g_air24 x1 x2 _ _ h4) ok_X6_244 ⟨rfl, rfl, Nat.le_of_ble_eq_true rfl, Nat.le_of_ble_eq_true rfl⟩ (g_lt_air g_air24) (g_sh_air g_air24) rfl rfl rfl hl.1 rfl (Nat.le_of_ble_eq_true rfl) dX6_towGain_27 ⟨Nat.zero_le _, Nat.zero_le _⟩) (fun H locs hW => ?_)
    refine lv_if_ne (tgt := 43) hx hcd dX6_towGain_30 (by decide) (fun c6 => ?_) (fun c6 => ?_)
    · have ho := gif_n ho c6
      refine lv_aload_n hx hcd dX6_towGain_43 rfl (lv_at hl 0 rfl) ?_
      refine g_getr hC hW (C := RX6) (T := TX6) (N := 11) (ci := 8) (k := 0) (index := 12) (i := 0) (r := 24) inGX6 rfl (by decide) fl_X6_12 (by decide) rfl rfl dX6_towGain_44 ?_
      refine lv_iload_n hx hcd dX6_towGain_47 rfl (lv_at hl 1 rfl) ?_
      obtain ⟨r8, h7, ho⟩ := gb_some ho
      refine g_calli hW (g_runV (As := [.int x1]) (rest := []) (i := 24) hC hW (c_X0_hasTow l D y ad g_air24 x1 _ _ h7) ok_X6_249 ⟨rfl, rfl, Nat.le_of_ble_eq_true rfl, Nat.le_of_ble_eq_true rfl⟩ (g_lt_air g_air24) (g_sh_air g_air24) rfl rfl rfl hl.1 rfl (Nat.le_of_ble_eq_true rfl) dX6_towGain_48 ⟨Nat.zero_le _, Nat.zero_le _⟩) (fun H locs hW => ?_)
      refine lv_if_eq (tgt := 64) hx hcd dX6_towGain_51 (by decide) (fun c9 => ?_) (fun c9 => ?_)
      · have ho := gif_p ho c9
        refine lv_aload_n hx hcd dX6_towGain_64 rfl (lv_at hl 0 rfl) ?_
        refine g_getr hC hW (C := RX6) (T := TX6) (N := 11) (ci := 8) (k := 1) (index := 16) (i := 0) (r := 36) inGX6 rfl (by decide) fl_X6_16 (by decide) rfl rfl dX6_towGain_65 ?_
        refine lv_aload_n hx hcd dX6_towGain_68 rfl (lv_at hl 0 rfl) ?_
        refine g_getr hC hW (C := RX6) (T := TX6) (N := 11) (ci := 8) (k := 0) (index := 12) (i := 0) (r := 24) inGX6 rfl (by decide) fl_X6_12 (by decide) rfl rfl dX6_towGain_69 ?_
        obtain ⟨σ11, h10, ho⟩ := gb_some ho
        refine g_callv hW (g_runV (As := [.ref (ad 24)]) (rest := []) (i := 36) hC hW (c_X0_copyFrom l D y ad g_air36 g_air24 _ _ h10) ok_X6_276 ⟨rfl, rfl, Nat.le_of_ble_eq_true rfl, Nat.le_of_ble_eq_true rfl⟩ (g_lt_air g_air36) (g_sh_air g_air36) rfl rfl rfl hl.1 rfl (Nat.le_of_ble_eq_true rfl) dX6_towGain_72 ⟨Nat.zero_le _, Nat.zero_le _⟩) (fun H locs hW => ?_)
        refine lv_aload_n hx hcd dX6_towGain_75 rfl (lv_at hl 0 rfl) ?_
        refine g_getr hC hW (C := RX6) (T := TX6) (N := 11) (ci := 8) (k := 1) (index := 16) (i := 0) (r := 36) inGX6 rfl (by decide) fl_X6_16 (by decide) rfl rfl dX6_towGain_76 ?_
        obtain ⟨q13, h12, ho⟩ := gb_some ho
        refine g_calli hW (g_runV (As := []) (rest := []) (i := 36) hC hW (c_X0_placeEverything l D y ad g_air36 _ _ h12) ok_X6_272 ⟨rfl, rfl, Nat.le_of_ble_eq_true rfl, Nat.le_of_ble_eq_true rfl⟩ (g_lt_air g_air36) (g_sh_air g_air36) rfl rfl rfl hl.1 rfl (Nat.le_of_ble_eq_true rfl) dX6_towGain_79 ⟨Nat.zero_le _, Nat.zero_le _⟩) (fun H locs hW => ?_)
        refine lv_pop hx hcd dX6_towGain_82 rfl ?_
        refine lv_aload_n hx hcd dX6_towGain_83 rfl (lv_at hl 0 rfl) ?_
        refine g_getr hC hW (C := RX6) (T := TX6) (N := 11) (ci := 8) (k := 1) (index := 16) (i := 0) (r := 36) inGX6 rfl (by decide) fl_X6_16 (by decide) rfl rfl dX6_towGain_84 ?_
        obtain ⟨r15, h14, ho⟩ := gb_some ho
        refine g_calli hW (g_runV (As := []) (rest := []) (i := 36) hC hW (c_X0_costOfAll l D y ad g_air36 _ _ h14) ok_X6_279 ⟨rfl, rfl, Nat.le_of_ble_eq_true rfl, Nat.le_of_ble_eq_true rfl⟩ (g_lt_air g_air36) (g_sh_air g_air36) rfl rfl rfl hl.1 rfl (Nat.le_of_ble_eq_true rfl) dX6_towGain_87 ⟨Nat.zero_le _, Nat.zero_le _⟩) (fun H locs hW => ?_)
        refine lv_istore_n (lv' := [(3, .int r15), (0, .ref (ad 0)), (1, .int x1), (2, .int x2)]) hx hcd dX6_towGain_90 rfl hl (by decide) rfl (fun ls hl => ?_)
        refine lv_aload_n hx hcd dX6_towGain_91 rfl (lv_at hl 1 rfl) ?_
        refine g_getr hC hW (C := RX6) (T := TX6) (N := 11) (ci := 8) (k := 1) (index := 16) (i := 0) (r := 36) inGX6 rfl (by decide) fl_X6_16 (by decide) rfl rfl dX6_towGain_92 ?_
        refine lv_aload_n hx hcd dX6_towGain_95 rfl (lv_at hl 1 rfl) ?_
        refine g_getr hC hW (C := RX6) (T := TX6) (N := 11) (ci := 8) (k := 0) (index := 12) (i := 0) (r := 24) inGX6 rfl (by decide) fl_X6_12 (by decide) rfl rfl dX6_towGain_96 ?_
        obtain ⟨σ17, h16, ho⟩ := gb_some ho
        refine g_callv hW (g_runV (As := [.ref (ad 24)]) (rest := []) (i := 36) hC hW (c_X0_copyFrom l D y ad g_air36 g_air24 _ _ h16) ok_X6_276 ⟨rfl, rfl, Nat.le_of_ble_eq_true rfl, Nat.le_of_ble_eq_true rfl⟩ (g_lt_air g_air36) (g_sh_air g_air36) rfl rfl rfl hl.1 rfl (Nat.le_of_ble_eq_true rfl) dX6_towGain_99 ⟨Nat.zero_le _, Nat.zero_le _⟩) (fun H locs hW => ?_)
        refine lv_aload_n hx hcd dX6_towGain_102 rfl (lv_at hl 1 rfl) ?_
        refine g_getr hC hW (C := RX6) (T := TX6) (N := 11) (ci := 8) (k := 1) (index := 16) (i := 0) (r := 36) inGX6 rfl (by decide) fl_X6_16 (by decide) rfl rfl dX6_towGain_103 ?_
        refine lv_iload_n hx hcd dX6_towGain_106 rfl (lv_at hl 2 rfl) ?_
        refine lv_iload_n hx hcd dX6_towGain_107 rfl (lv_at hl 3 rfl) ?_
        obtain ⟨q19, h18, ho⟩ := gb_some ho
        refine g_calli hW (g_runV (As := [.int x1, .int x2]) (rest := []) (i := 36) hC hW (c_X0_divide l D y ad g_air36 x1 x2 _ _ h18) ok_X6_254 ⟨rfl, rfl, Nat.le_of_ble_eq_true rfl, Nat.le_of_ble_eq_true rfl⟩ (g_lt_air g_air36) (g_sh_air g_air36) rfl rfl rfl hl.1 rfl (Nat.le_of_ble_eq_true rfl) dX6_towGain_108 ⟨Nat.zero_le _, Nat.zero_le _⟩) (fun H locs hW => ?_)
        refine lv_pop hx hcd dX6_towGain_111 rfl ?_
        refine lv_aload_n hx hcd dX6_towGain_112 rfl (lv_at hl 1 rfl) ?_
        refine g_getr hC hW (C := RX6) (T := TX6) (N := 11) (ci := 8) (k := 1) (index := 16) (i := 0) (r := 36) inGX6 rfl (by decide) fl_X6_16 (by decide) rfl rfl dX6_towGain_113 ?_
        obtain ⟨q21, h20, ho⟩ := gb_some ho
        refine g_calli hW (g_runV (As := []) (rest := []) (i := 36) hC hW (c_X0_placeEverything l D y ad g_air36 _ _ h20) ok_X6_272 ⟨rfl, rfl, Nat.le_of_ble_eq_true rfl, Nat.le_of_ble_eq_true rfl⟩ (g_lt_air g_air36) (g_sh_air g_air36) rfl rfl rfl hl.1 rfl (Nat.le_of_ble_eq_true rfl) dX6_towGain_116 ⟨Nat.zero_le _, Nat.zero_le _⟩) (fun H locs hW => ?_)
        refine lv_pop hx hcd dX6_towGain_119 rfl ?_
        refine lv_iload_n hx hcd dX6_towGain_120 rfl (lv_at hl 0 rfl) ?_
        refine lv_aload_n hx hcd dX6_towGain_121 rfl (lv_at hl 1 rfl) ?_
        refine g_getr hC hW (C := RX6) (T := TX6) (N := 11) (ci := 8) (k := 1) (index := 16) (i := 0) (r := 36) inGX6 rfl (by decide) fl_X6_16 (by decide) rfl rfl dX6_towGain_122 ?_
        obtain ⟨r23, h22, ho⟩ := gb_some ho
        refine g_calli hW (g_runV (As := []) (rest := [.int r15]) (i := 36) hC hW (c_X0_costOfAll l D y ad g_air36 _ _ h22) ok_X6_279 ⟨rfl, rfl, Nat.le_of_ble_eq_true rfl, Nat.le_of_ble_eq_true rfl⟩ (g_lt_air g_air36) (g_sh_air g_air36) rfl rfl rfl hl.1 rfl (Nat.le_of_ble_eq_true rfl) dX6_towGain_125 ⟨Nat.zero_le _, Nat.zero_le _⟩) (fun H locs hW => ?_)
        refine lv_isub hx hcd dX6_towGain_128 ?_
        exact g_iretX (Option.some.inj ho) hC hr hlk hsz hW dX6_towGain_129
      · have ho := gif_n ho c9
        exact g_throw hfl ox_IllegalStateException (text := "it has a tow") (Option.some.inj ho) hC hlk ht hZ hl.1 hW (List.mem_of_getElem? (i := 20) rfl) dX6_towGain_54 dX6_towGain_57 dX6_towGain_58 dX6_towGain_60 dX6_towGain_63 ⟨Nat.le_of_ble_eq_true rfl, Nat.le_of_ble_eq_true rfl, Nat.le_of_ble_eq_true rfl, Nat.le_of_ble_eq_true rfl⟩
    · have ho := gif_p ho c6
      exact g_throw hfl ox_IllegalArgumentException (text := "no minute for a tow") (Option.some.inj ho) hC hlk ht hZ hl.1 hW (List.mem_of_getElem? (i := 19) rfl) dX6_towGain_33 dX6_towGain_36 dX6_towGain_37 dX6_towGain_39 dX6_towGain_42 ⟨Nat.le_of_ble_eq_true rfl, Nat.le_of_ble_eq_true rfl, Nat.le_of_ble_eq_true rfl, Nat.le_of_ble_eq_true rfl⟩
  · have ho := gif_p ho c3
    exact g_throw hfl ox_IndexOutOfBoundsException (text := "no such turn") (Option.some.inj ho) hC hlk ht hZ hl.1 hW (List.mem_of_getElem? (i := 11) rfl) dX6_towGain_11 dX6_towGain_14 dX6_towGain_15 dX6_towGain_17 dX6_towGain_20 ⟨Nat.le_of_ble_eq_true rfl, Nat.le_of_ble_eq_true rfl, Nat.le_of_ble_eq_true rfl, Nat.le_of_ble_eq_true rfl⟩
noncomputable def X6_leastMoves (σ : gS) : Option ((String ⊕ Int32) × gS) :=
  (X3_find σ 24).bind fun q2 => if q2.1 = 0 then (some (.inl "java/util/NoSuchElementException", q2.2)) else (some (.inr (q2.2 7 4), q2.2))
set_option maxHeartbeats 4000000 in
set_option maxRecDepth 100000 in
theorem c_X6_leastMoves (l : Launch) (hfl : l.stackTraces = false) (D : va_G) (y : ClassId × ClassId × ClassId) (ad : Nat → Nat) (σ : gS) (sz : Nat) {q : (String ⊕ Int32) × gS} (h : X6_leastMoves σ = some q) : vx_Met l yX6_leastMoves (Cond.code yX6_leastMoves cX6_leastMoves 1 (some .int) :: gl) ({ frames := 13, cells := 1, slots := 6, locals := 306 }) (g_PcX D y ad σ sz [.ref (ad 0)]) (g_QX D y ad sz q) (g_XX D y ad sz q) 1 6 (g_A ad sz) := by
  have ho := h
  unfold X6_leastMoves at ho
  refine g_startX (by decide) (Nat.le_of_ble_eq_true rfl) (fun p e s m below meth c ls hC hr hlk hsz hW hl ht hZ => ?_)
  have hx := hC.1
  have hcd := hC.2.1
  have hl : lv_has ls 1 [(0, .ref (ad 0))] := hl
  refine lv_aload_n hx hcd dX6_leastMoves_0 rfl (lv_at hl 0 rfl) ?_
  refine g_getr hC hW (C := RX6) (T := TX6) (N := 11) (ci := 8) (k := 5) (index := 39) (i := 0) (r := 7) inGX6 rfl (by decide) fl_X6_39 (by decide) rfl rfl dX6_leastMoves_1 ?_
  refine lv_aload_n hx hcd dX6_leastMoves_4 rfl (lv_at hl 0 rfl) ?_
  refine g_getr hC hW (C := RX6) (T := TX6) (N := 11) (ci := 8) (k := 0) (index := 12) (i := 0) (r := 24) inGX6 rfl (by decide) fl_X6_12 (by decide) rfl rfl dX6_leastMoves_5 ?_
  obtain ⟨q2, h1, ho⟩ := gb_some ho
  refine g_calli hW (g_runV (As := [.ref (ad 24)]) (rest := []) (i := 7) hC hW (c_X3_find l D y ad g_air24 _ _ h1) ok_X6_282 ⟨rfl, rfl, Nat.le_of_ble_eq_true rfl, Nat.le_of_ble_eq_true rfl⟩ (by decide) rfl rfl rfl rfl hl.1 rfl (Nat.le_of_ble_eq_true rfl) dX6_leastMoves_8 ⟨Nat.zero_le _, Nat.zero_le _⟩) (fun H locs hW => ?_)
  refine lv_if_ne (tgt := 25) hx hcd dX6_leastMoves_11 (by decide) (fun c3 => ?_) (fun c3 => ?_)
  · have ho := gif_n ho c3
    refine lv_aload_n hx hcd dX6_leastMoves_25 rfl (lv_at hl 0 rfl) ?_
    refine g_getr hC hW (C := RX6) (T := TX6) (N := 11) (ci := 8) (k := 5) (index := 39) (i := 0) (r := 7) inGX6 rfl (by decide) fl_X6_39 (by decide) rfl rfl dX6_leastMoves_26 ?_
    refine g_geti hC hW (C := RX3) (T := TX3) (N := 5) (ci := 5) (k := 4) (index := 288) (i := 7) inGX3 rfl (by decide) fl_X6_288 (by decide) rfl rfl dX6_leastMoves_29 ?_
    exact g_iretX (Option.some.inj ho) hC hr hlk hsz hW dX6_leastMoves_32
  · have ho := gif_p ho c3
    exact g_throwNW hfl (text := "no repair") (Option.some.inj ho) hC hlk ht hZ hl.1 hW (List.mem_of_getElem? (i := 24) rfl) dX6_leastMoves_14 dX6_leastMoves_17 dX6_leastMoves_18 dX6_leastMoves_21 dX6_leastMoves_24 ⟨Nat.le_of_ble_eq_true rfl, Nat.le_of_ble_eq_true rfl, Nat.le_of_ble_eq_true rfl, Nat.le_of_ble_eq_true rfl⟩
noncomputable def X6_leastAgain (σ : gS) : Option ((String ⊕ Int32) × gS) :=
  (X2_least σ 24).bind fun q2 => if q2.1 ≤ 3 then (some (.inr q2.1, q2.2)) else (some (.inl "java/util/NoSuchElementException", q2.2))
set_option maxHeartbeats 4000000 in
set_option maxRecDepth 100000 in
theorem c_X6_leastAgain (l : Launch) (hfl : l.stackTraces = false) (D : va_G) (y : ClassId × ClassId × ClassId) (ad : Nat → Nat) (σ : gS) (sz : Nat) {q : (String ⊕ Int32) × gS} (h : X6_leastAgain σ = some q) : vx_Met l yX6_leastAgain (Cond.code yX6_leastAgain cX6_leastAgain 2 (some .int) :: gl) ({ frames := 7, cells := 1, slots := 6, locals := 120 }) (g_PcX D y ad σ sz [.ref (ad 0)]) (g_QX D y ad sz q) (g_XX D y ad sz q) 1 6 (g_A ad sz) := by
  have ho := h
  unfold X6_leastAgain at ho
  refine g_startX (by decide) (Nat.le_of_ble_eq_true rfl) (fun p e s m below meth c ls hC hr hlk hsz hW hl ht hZ => ?_)
  have hx := hC.1
  have hcd := hC.2.1
  have hl : lv_has ls 2 [(0, .ref (ad 0))] := hl
  refine lv_aload_n hx hcd dX6_leastAgain_0 rfl (lv_at hl 0 rfl) ?_
  refine g_getr hC hW (C := RX6) (T := TX6) (N := 11) (ci := 8) (k := 6) (index := 46) (i := 0) (r := 11) inGX6 rfl (by decide) fl_X6_46 (by decide) rfl rfl dX6_leastAgain_1 ?_
  refine lv_aload_n hx hcd dX6_leastAgain_4 rfl (lv_at hl 0 rfl) ?_
  refine g_getr hC hW (C := RX6) (T := TX6) (N := 11) (ci := 8) (k := 0) (index := 12) (i := 0) (r := 24) inGX6 rfl (by decide) fl_X6_12 (by decide) rfl rfl dX6_leastAgain_5 ?_
  obtain ⟨q2, h1, ho⟩ := gb_some ho
  refine g_calli hW (g_runV (As := [.ref (ad 24)]) (rest := []) (i := 11) hC hW (c_X2_least l D y ad g_air24 _ _ h1) ok_X6_291 ⟨rfl, rfl, Nat.le_of_ble_eq_true rfl, Nat.le_of_ble_eq_true rfl⟩ (by decide) rfl rfl rfl rfl hl.1 rfl (Nat.le_of_ble_eq_true rfl) dX6_leastAgain_8 ⟨Nat.zero_le _, Nat.zero_le _⟩) (fun H locs hW => ?_)
  refine lv_istore_n (lv' := [(1, .int q2.1), (0, .ref (ad 0))]) hx hcd dX6_leastAgain_11 rfl hl (by decide) rfl (fun ls hl => ?_)
  refine lv_iload_n hx hcd dX6_leastAgain_12 rfl (lv_at hl 0 rfl) ?_
  refine lv_iconst (v := 3) hx hcd dX6_leastAgain_13 (by decide) ?_
  refine lv_icmp_le (tgt := 28) hx hcd dX6_leastAgain_14 (by decide) (fun c3 => ?_) (fun c3 => ?_)
  · have ho := gif_p ho c3
    refine lv_iload_n hx hcd dX6_leastAgain_28 rfl (lv_at hl 0 rfl) ?_
    exact g_iretX (Option.some.inj ho) hC hr hlk hsz hW dX6_leastAgain_29
  · have ho := gif_n ho c3
    exact g_throwNW hfl (text := "no repair") (Option.some.inj ho) hC hlk ht hZ hl.1 hW (List.mem_of_getElem? (i := 24) rfl) dX6_leastAgain_17 dX6_leastAgain_20 dX6_leastAgain_21 dX6_leastAgain_24 dX6_leastAgain_27 ⟨Nat.le_of_ble_eq_true rfl, Nat.le_of_ble_eq_true rfl, Nat.le_of_ble_eq_true rfl, Nat.le_of_ble_eq_true rfl⟩
noncomputable def X6_moveOf (σ : gS) (x1 : Int32) (x2 : Int32) : Option ((String ⊕ Int32) × gS) :=
  (X3_find σ 24).bind fun q2 => if q2.1 = 0 then (some (.inl "java/util/NoSuchElementException", q2.2)) else (if x1 < 0 then (some (.inl "java/util/NoSuchElementException", q2.2)) else (if x1 < (q2.2 7 4) then (if x2 = 0 then (gd (ib x1 3) <| some (.inr (q2.2 9 x1.toNatClampNeg), q2.2)) else (gd (ib x1 3) <| some (.inr (q2.2 10 x1.toNatClampNeg), q2.2))) else (some (.inl "java/util/NoSuchElementException", q2.2))))
set_option maxHeartbeats 4000000 in
set_option maxRecDepth 100000 in
theorem c_X6_moveOf (l : Launch) (hfl : l.stackTraces = false) (D : va_G) (y : ClassId × ClassId × ClassId) (ad : Nat → Nat) (x1 : Int32) (x2 : Int32) (σ : gS) (sz : Nat) {q : (String ⊕ Int32) × gS} (h : X6_moveOf σ x1 x2 = some q) : vx_Met l yX6_moveOf (Cond.code yX6_moveOf cX6_moveOf 3 (some .int) :: gl) ({ frames := 13, cells := 1, slots := 6, locals := 306 }) (g_PcX D y ad σ sz [.ref (ad 0), .int x1, .int x2]) (g_QX D y ad sz q) (g_XX D y ad sz q) 1 6 (g_A ad sz) := by
  have ho := h
  unfold X6_moveOf at ho
  refine g_startX (by decide) (Nat.le_of_ble_eq_true rfl) (fun p e s m below meth c ls hC hr hlk hsz hW hl ht hZ => ?_)
  have hx := hC.1
  have hcd := hC.2.1
  have hl : lv_has ls 3 [(0, .ref (ad 0)), (1, .int x1), (2, .int x2)] := hl
  refine lv_aload_n hx hcd dX6_moveOf_0 rfl (lv_at hl 0 rfl) ?_
  refine g_getr hC hW (C := RX6) (T := TX6) (N := 11) (ci := 8) (k := 5) (index := 39) (i := 0) (r := 7) inGX6 rfl (by decide) fl_X6_39 (by decide) rfl rfl dX6_moveOf_1 ?_
  refine lv_aload_n hx hcd dX6_moveOf_4 rfl (lv_at hl 0 rfl) ?_
  refine g_getr hC hW (C := RX6) (T := TX6) (N := 11) (ci := 8) (k := 0) (index := 12) (i := 0) (r := 24) inGX6 rfl (by decide) fl_X6_12 (by decide) rfl rfl dX6_moveOf_5 ?_
  obtain ⟨q2, h1, ho⟩ := gb_some ho
  refine g_calli hW (g_runV (As := [.ref (ad 24)]) (rest := []) (i := 7) hC hW (c_X3_find l D y ad g_air24 _ _ h1) ok_X6_282 ⟨rfl, rfl, Nat.le_of_ble_eq_true rfl, Nat.le_of_ble_eq_true rfl⟩ (by decide) rfl rfl rfl rfl hl.1 rfl (Nat.le_of_ble_eq_true rfl) dX6_moveOf_8 ⟨Nat.zero_le _, Nat.zero_le _⟩) (fun H locs hW => ?_)
  refine lv_if_eq (tgt := 29) hx hcd dX6_moveOf_11 (by decide) (fun c3 => ?_) (fun c3 => ?_)
  · have ho := gif_p ho c3
    exact g_throwNW hfl (text := "no repair or no such move") (Option.some.inj ho) hC hlk ht hZ hl.1 hW (List.mem_of_getElem? (i := 25) rfl) dX6_moveOf_29 dX6_moveOf_32 dX6_moveOf_33 dX6_moveOf_36 dX6_moveOf_39 ⟨Nat.le_of_ble_eq_true rfl, Nat.le_of_ble_eq_true rfl, Nat.le_of_ble_eq_true rfl, Nat.le_of_ble_eq_true rfl⟩
  · have ho := gif_n ho c3
    refine lv_iload_n hx hcd dX6_moveOf_14 rfl (lv_at hl 1 rfl) ?_
    refine lv_if_lt (tgt := 29) hx hcd dX6_moveOf_15 (by decide) (fun c4 => ?_) (fun c4 => ?_)
    · have ho := gif_p ho c4
      exact g_throwNW hfl (text := "no repair or no such move") (Option.some.inj ho) hC hlk ht hZ hl.1 hW (List.mem_of_getElem? (i := 25) rfl) dX6_moveOf_29 dX6_moveOf_32 dX6_moveOf_33 dX6_moveOf_36 dX6_moveOf_39 ⟨Nat.le_of_ble_eq_true rfl, Nat.le_of_ble_eq_true rfl, Nat.le_of_ble_eq_true rfl, Nat.le_of_ble_eq_true rfl⟩
    · have ho := gif_n ho c4
      refine lv_iload_n hx hcd dX6_moveOf_18 rfl (lv_at hl 1 rfl) ?_
      refine lv_aload_n hx hcd dX6_moveOf_19 rfl (lv_at hl 0 rfl) ?_
      refine g_getr hC hW (C := RX6) (T := TX6) (N := 11) (ci := 8) (k := 5) (index := 39) (i := 0) (r := 7) inGX6 rfl (by decide) fl_X6_39 (by decide) rfl rfl dX6_moveOf_20 ?_
      refine g_geti hC hW (C := RX3) (T := TX3) (N := 5) (ci := 5) (k := 4) (index := 288) (i := 7) inGX3 rfl (by decide) fl_X6_288 (by decide) rfl rfl dX6_moveOf_23 ?_
      refine lv_icmp_lt (tgt := 40) hx hcd dX6_moveOf_26 (by decide) (fun c5 => ?_) (fun c5 => ?_)
      · have ho := gif_p ho c5
        refine lv_iload_n hx hcd dX6_moveOf_40 rfl (lv_at hl 2 rfl) ?_
        refine lv_if_eq (tgt := 56) hx hcd dX6_moveOf_41 (by decide) (fun c6 => ?_) (fun c6 => ?_)
        · have ho := gif_p ho c6
          refine lv_aload_n hx hcd dX6_moveOf_56 rfl (lv_at hl 0 rfl) ?_
          refine g_getr hC hW (C := RX6) (T := TX6) (N := 11) (ci := 8) (k := 5) (index := 39) (i := 0) (r := 7) inGX6 rfl (by decide) fl_X6_39 (by decide) rfl rfl dX6_moveOf_57 ?_
          refine g_getr hC hW (C := RX3) (T := TX3) (N := 5) (ci := 5) (k := 2) (index := 300) (i := 7) (r := 9) inGX3 rfl (by decide) fl_X6_300 (by decide) rfl rfl dX6_moveOf_60 ?_
          refine lv_iload_n hx hcd dX6_moveOf_63 rfl (lv_at hl 1 rfl) ?_
          obtain ⟨i7, ho⟩ := gd_some ho
          refine g_iald hC hW (i := 9) (by decide) rfl i7 dX6_moveOf_64 ?_
          exact g_iretX (Option.some.inj ho) hC hr hlk hsz hW dX6_moveOf_65
        · have ho := gif_n ho c6
          refine lv_aload_n hx hcd dX6_moveOf_44 rfl (lv_at hl 0 rfl) ?_
          refine g_getr hC hW (C := RX6) (T := TX6) (N := 11) (ci := 8) (k := 5) (index := 39) (i := 0) (r := 7) inGX6 rfl (by decide) fl_X6_39 (by decide) rfl rfl dX6_moveOf_45 ?_
          refine g_getr hC hW (C := RX3) (T := TX3) (N := 5) (ci := 5) (k := 3) (index := 297) (i := 7) (r := 10) inGX3 rfl (by decide) fl_X6_297 (by decide) rfl rfl dX6_moveOf_48 ?_
          refine lv_iload_n hx hcd dX6_moveOf_51 rfl (lv_at hl 1 rfl) ?_
          obtain ⟨i8, ho⟩ := gd_some ho
          refine g_iald hC hW (i := 10) (by decide) rfl i8 dX6_moveOf_52 ?_
          refine lv_goto (tgt := 65) hx hcd dX6_moveOf_53 (by decide) ?_
          exact g_iretX (Option.some.inj ho) hC hr hlk hsz hW dX6_moveOf_65
      · have ho := gif_n ho c5
        exact g_throwNW hfl (text := "no repair or no such move") (Option.some.inj ho) hC hlk ht hZ hl.1 hW (List.mem_of_getElem? (i := 25) rfl) dX6_moveOf_29 dX6_moveOf_32 dX6_moveOf_33 dX6_moveOf_36 dX6_moveOf_39 ⟨Nat.le_of_ble_eq_true rfl, Nat.le_of_ble_eq_true rfl, Nat.le_of_ble_eq_true rfl, Nat.le_of_ble_eq_true rfl⟩
noncomputable def X6_repair_k0 (σ : gS) (x1 : Int32) : Option ((Int32 × gS) ⊕ ((String ⊕ Int32) × gS)) :=
  if (σ 7 4) ≤ x1 then (lt_ (g_up σ 24 3 ((σ 24 3) + (σ 7 4))) fun σ7 => some (.inr (.inr (σ7 7 4), σ7))) else (gd (ib x1 3) <| gd (ib (σ 9 x1.toNatClampNeg) 20) <| lt_ (g_up σ (24 + 11) (σ 9 x1.toNatClampNeg).toNatClampNeg (σ 10 x1.toNatClampNeg)) fun σ10 => some (.inl ((x1 + 1), σ10)))
noncomputable def X6_repair_s (a : Int32 × gS) : Option ((Int32 × gS) ⊕ ((String ⊕ Int32) × gS)) :=
  X6_repair_k0 a.2 a.1
noncomputable def X6_repair (σ : gS) : Option ((String ⊕ Int32) × gS) :=
  (X3_find σ 24).bind fun q2 => if q2.1 = 0 then (some (.inl "java/util/NoSuchElementException", q2.2)) else ((X4_remember q2.2 24).bind fun σ5 => gr (X6_repair_s) (0, σ5))
set_option maxHeartbeats 4000000 in
set_option maxRecDepth 100000 in
theorem l_X6_repair {p : Program} {e : Env} {s : State} {m : MethodId} {args : Array Value} {below : List Frame} {meth : Method} {c : Code} (l : Launch) (D : va_G) (y : ClassId × ClassId × ClassId) (ad : Nat → Nat) (sz : Nat) (hC : g_C p s m args c cX6_repair 2 RX6 D y) (hr : meth.sig.returnType = (some .int)) (hlk : meth.locks = false) (hsz : s.heap.size = sz) (hfl : l.stackTraces = false) (ht : ∀ x ∈ c.exceptionTable.toList, False) (hZ : g_Z (g_A ad sz) s s.heap) {r0 : (String ⊕ Int32) × gS} : ∀ a : Int32 × gS, gr (X6_repair_s) a = some r0 → ∀ (H : Heap) (locs : List Loc) (ls : Array Slot), g_W (g_A ad sz) s.heap D y ad [] a.2 H locs → lv_has ls 2 [(0, .ref (ad 0)), (1, .int a.1)] → W p l e ({ frames := 13, cells := 1, slots := 6, locals := 306 }) s m args below meth c H locs 0 0 (vx_MQ below (g_QX D y ad sz r0) (g_XX D y ad sz r0) args s 1 6 (g_A ad sz)) (F0 m 38 ls []) := by
  have hx := hC.1
  have hcd := hC.2.1
  refine gr_all (fun a o ho hret hjmp => ?_)
  obtain ⟨x1, σ⟩ := a
  intro H locs ls hW hl
  have ho : X6_repair_k0 σ x1 = some o := ho
  unfold X6_repair_k0 at ho
  refine lv_iload_n hx hcd dX6_repair_38 rfl (lv_at hl 1 rfl) ?_
  refine lv_aload_n hx hcd dX6_repair_39 rfl (lv_at hl 0 rfl) ?_
  refine g_getr hC hW (C := RX6) (T := TX6) (N := 11) (ci := 8) (k := 5) (index := 39) (i := 0) (r := 7) inGX6 rfl (by decide) fl_X6_39 (by decide) rfl rfl dX6_repair_40 ?_
  refine g_geti hC hW (C := RX3) (T := TX3) (N := 5) (ci := 5) (k := 4) (index := 288) (i := 7) inGX3 rfl (by decide) fl_X6_288 (by decide) rfl rfl dX6_repair_43 ?_
  refine lv_icmp_ge (tgt := 81) hx hcd dX6_repair_46 (by decide) (fun c6 => ?_) (fun c6 => ?_)
  · have ho := gif_p ho c6
    refine lv_aload_n hx hcd dX6_repair_81 rfl (lv_at hl 0 rfl) ?_
    refine g_getr hC hW (C := RX6) (T := TX6) (N := 11) (ci := 8) (k := 0) (index := 12) (i := 0) (r := 24) inGX6 rfl (by decide) fl_X6_12 (by decide) rfl rfl dX6_repair_82 ?_
    refine lv_dup hx hcd dX6_repair_85 rfl ?_
    refine g_geti hC hW (C := RX0) (T := TX0) (N := 16) (ci := 2) (k := 3) (index := 303) (i := 24) inGX0 rfl (by decide) fl_X6_303 (g_lt_air g_air24) (g_sh_air g_air24) rfl dX6_repair_86 ?_
    refine lv_aload_n hx hcd dX6_repair_89 rfl (lv_at hl 0 rfl) ?_
    refine g_getr hC hW (C := RX6) (T := TX6) (N := 11) (ci := 8) (k := 5) (index := 39) (i := 0) (r := 7) inGX6 rfl (by decide) fl_X6_39 (by decide) rfl rfl dX6_repair_90 ?_
    refine g_geti hC hW (C := RX3) (T := TX3) (N := 5) (ci := 5) (k := 4) (index := 288) (i := 7) inGX3 rfl (by decide) fl_X6_288 (by decide) rfl rfl dX6_repair_93 ?_
    refine lv_iadd hx hcd dX6_repair_96 ?_
    obtain ⟨σ7, eσ7, ho⟩ := lt_ex ho
    refine g_puti hC hW (C := RX0) (T := TX0) (N := 16) (ci := 2) (k := 3) (index := 303) (i := 24) inGX0 tyX0 tyX0_ok nmX0 rfl (by decide) fl_X6_303 rfl (g_lt_air g_air24) (g_sh_air g_air24) rfl rfl rfl dX6_repair_97 (fun H locs hW => ?_)
    rw [← eσ7] at hW
    refine lv_aload_n hx hcd dX6_repair_100 rfl (lv_at hl 0 rfl) ?_
    refine g_getr hC hW (C := RX6) (T := TX6) (N := 11) (ci := 8) (k := 5) (index := 39) (i := 0) (r := 7) inGX6 rfl (by decide) fl_X6_39 (by decide) rfl rfl dX6_repair_101 ?_
    refine g_geti hC hW (C := RX3) (T := TX3) (N := 5) (ci := 5) (k := 4) (index := 288) (i := 7) inGX3 rfl (by decide) fl_X6_288 (by decide) rfl rfl dX6_repair_104 ?_
    exact g_iretX (hret _ (Option.some.inj ho).symm) hC hr hlk hsz hW dX6_repair_107
  · have ho := gif_n ho c6
    refine lv_aload_n hx hcd dX6_repair_49 rfl (lv_at hl 0 rfl) ?_
    refine g_getr hC hW (C := RX6) (T := TX6) (N := 11) (ci := 8) (k := 0) (index := 12) (i := 0) (r := 24) inGX6 rfl (by decide) fl_X6_12 (by decide) rfl rfl dX6_repair_50 ?_
    refine g_getr hC hW (C := RX0) (T := TX0) (N := 16) (ci := 2) (k := 15) (index := 210) (i := 24) (r := (24 + 11)) inGX0 rfl (by decide) fl_X6_210 (g_lt_air g_air24) (g_sh_air g_air24) rfl dX6_repair_53 ?_
    refine lv_aload_n hx hcd dX6_repair_56 rfl (lv_at hl 0 rfl) ?_
    refine g_getr hC hW (C := RX6) (T := TX6) (N := 11) (ci := 8) (k := 5) (index := 39) (i := 0) (r := 7) inGX6 rfl (by decide) fl_X6_39 (by decide) rfl rfl dX6_repair_57 ?_
    refine g_getr hC hW (C := RX3) (T := TX3) (N := 5) (ci := 5) (k := 2) (index := 300) (i := 7) (r := 9) inGX3 rfl (by decide) fl_X6_300 (by decide) rfl rfl dX6_repair_60 ?_
    refine lv_iload_n hx hcd dX6_repair_63 rfl (lv_at hl 1 rfl) ?_
    obtain ⟨i8, ho⟩ := gd_some ho
    refine g_iald hC hW (i := 9) (by decide) rfl i8 dX6_repair_64 ?_
    refine lv_aload_n hx hcd dX6_repair_65 rfl (lv_at hl 0 rfl) ?_
    refine g_getr hC hW (C := RX6) (T := TX6) (N := 11) (ci := 8) (k := 5) (index := 39) (i := 0) (r := 7) inGX6 rfl (by decide) fl_X6_39 (by decide) rfl rfl dX6_repair_66 ?_
    refine g_getr hC hW (C := RX3) (T := TX3) (N := 5) (ci := 5) (k := 3) (index := 297) (i := 7) (r := 10) inGX3 rfl (by decide) fl_X6_297 (by decide) rfl rfl dX6_repair_69 ?_
    refine lv_iload_n hx hcd dX6_repair_72 rfl (lv_at hl 1 rfl) ?_
    refine g_iald hC hW (i := 10) (by decide) rfl i8 dX6_repair_73 ?_
    obtain ⟨i9, ho⟩ := gd_some ho
    obtain ⟨σ10, eσ10, ho⟩ := lt_ex ho
    refine g_iast hC hW (i := (24 + 11)) (g_lt_arr (j := 11) g_air24 (by decide)) (g_sa11 g_air24) i9 dX6_repair_74 (fun H locs hW => ?_)
    rw [← eσ10] at hW
    refine lv_iinc (v := x1 + 1) (lv' := [(1, .int (x1 + 1)), (0, .ref (ad 0))]) hx hcd dX6_repair_75 hl (k := 1) rfl rfl (by decide) rfl (fun ls hl => ?_)
    refine lv_goto (tgt := 38) hx hcd dX6_repair_78 (by decide) ?_
    exact hjmp _ (Option.some.inj ho).symm _ _ _ hW (lv_sub hl [1, 0] rfl)
set_option maxHeartbeats 4000000 in
set_option maxRecDepth 100000 in
theorem c_X6_repair (l : Launch) (hfl : l.stackTraces = false) (D : va_G) (y : ClassId × ClassId × ClassId) (ad : Nat → Nat) (σ : gS) (sz : Nat) {q : (String ⊕ Int32) × gS} (h : X6_repair σ = some q) : vx_Met l yX6_repair (Cond.code yX6_repair cX6_repair 2 (some .int) :: gl) ({ frames := 13, cells := 1, slots := 6, locals := 306 }) (g_PcX D y ad σ sz [.ref (ad 0)]) (g_QX D y ad sz q) (g_XX D y ad sz q) 1 6 (g_A ad sz) := by
  have ho := h
  unfold X6_repair at ho
  refine g_startX (by decide) (Nat.le_of_ble_eq_true rfl) (fun p e s m below meth c ls hC hr hlk hsz hW hl ht hZ => ?_)
  have hx := hC.1
  have hcd := hC.2.1
  have hl : lv_has ls 2 [(0, .ref (ad 0))] := hl
  refine lv_aload_n hx hcd dX6_repair_0 rfl (lv_at hl 0 rfl) ?_
  refine g_getr hC hW (C := RX6) (T := TX6) (N := 11) (ci := 8) (k := 5) (index := 39) (i := 0) (r := 7) inGX6 rfl (by decide) fl_X6_39 (by decide) rfl rfl dX6_repair_1 ?_
  refine lv_aload_n hx hcd dX6_repair_4 rfl (lv_at hl 0 rfl) ?_
  refine g_getr hC hW (C := RX6) (T := TX6) (N := 11) (ci := 8) (k := 0) (index := 12) (i := 0) (r := 24) inGX6 rfl (by decide) fl_X6_12 (by decide) rfl rfl dX6_repair_5 ?_
  obtain ⟨q2, h1, ho⟩ := gb_some ho
  refine g_calli hW (g_runV (As := [.ref (ad 24)]) (rest := []) (i := 7) hC hW (c_X3_find l D y ad g_air24 _ _ h1) ok_X6_282 ⟨rfl, rfl, Nat.le_of_ble_eq_true rfl, Nat.le_of_ble_eq_true rfl⟩ (by decide) rfl rfl rfl rfl hl.1 rfl (Nat.le_of_ble_eq_true rfl) dX6_repair_8 ⟨Nat.zero_le _, Nat.zero_le _⟩) (fun H locs hW => ?_)
  refine lv_if_ne (tgt := 25) hx hcd dX6_repair_11 (by decide) (fun c3 => ?_) (fun c3 => ?_)
  · have ho := gif_n ho c3
    refine lv_aload_n hx hcd dX6_repair_25 rfl (lv_at hl 0 rfl) ?_
    refine g_getr hC hW (C := RX6) (T := TX6) (N := 11) (ci := 8) (k := 3) (index := 25) (i := 0) (r := 2) inGX6 rfl (by decide) fl_X6_25 (by decide) rfl rfl dX6_repair_26 ?_
    refine lv_aload_n hx hcd dX6_repair_29 rfl (lv_at hl 0 rfl) ?_
    refine g_getr hC hW (C := RX6) (T := TX6) (N := 11) (ci := 8) (k := 0) (index := 12) (i := 0) (r := 24) inGX6 rfl (by decide) fl_X6_12 (by decide) rfl rfl dX6_repair_30 ?_
    obtain ⟨σ5, h4, ho⟩ := gb_some ho
    refine g_callv hW (g_runV (As := [.ref (ad 24)]) (rest := []) (i := 2) hC hW (c_X4_remember l D y ad g_air24 _ _ h4) ok_X6_89 ⟨rfl, rfl, Nat.le_of_ble_eq_true rfl, Nat.le_of_ble_eq_true rfl⟩ (by decide) rfl rfl rfl rfl hl.1 rfl (Nat.le_of_ble_eq_true rfl) dX6_repair_33 ⟨Nat.zero_le _, Nat.zero_le _⟩) (fun H locs hW => ?_)
    refine lv_iconst (v := 0) hx hcd dX6_repair_36 (by decide) ?_
    refine lv_istore_n (lv' := [(1, .int 0), (0, .ref (ad 0))]) hx hcd dX6_repair_37 rfl hl (by decide) rfl (fun ls hl => ?_)
    exact l_X6_repair l D y ad sz hC hr hlk hsz hfl ht hZ _ ho _ _ _ hW (lv_sub hl [1, 0] rfl)
  · have ho := gif_p ho c3
    exact g_throwNW hfl (text := "no repair") (Option.some.inj ho) hC hlk ht hZ hl.1 hW (List.mem_of_getElem? (i := 24) rfl) dX6_repair_14 dX6_repair_17 dX6_repair_18 dX6_repair_21 dX6_repair_24 ⟨Nat.le_of_ble_eq_true rfl, Nat.le_of_ble_eq_true rfl, Nat.le_of_ble_eq_true rfl, Nat.le_of_ble_eq_true rfl⟩
noncomputable def X6_account (σ : gS) (x1 : Int32) : Option ((String ⊕ Int32) × gS) :=
  if x1 = 0 then (some (.inr (σ 24 0), σ)) else (if x1 = 1 then (some (.inr (σ 24 1), σ)) else (if x1 = 2 then ((X0_allStays σ 24).bind fun r5 => (J6_bitCount_0f7a4 σ r5).bind fun r7 => some (.inr r7, σ)) else (if x1 = 3 then ((X0_staysOnStands σ 24).bind fun r10 => (J6_bitCount_0f7a4 σ r10).bind fun r12 => some (.inr r12, σ)) else (if x1 = 4 then ((X0_costOfAll σ 24).bind fun r15 => some (.inr r15, σ)) else (if x1 = 5 then ((X0_allStays σ 24).bind fun r18 => (J6_bitCount_0f7a4 σ r18).bind fun r20 => some (.inr (r20 - (σ 24 1)), σ)) else (if x1 = 6 then ((X0_allStays σ 24).bind fun r23 => (X0_lengthOf σ 24 r23).bind fun r25 => some (.inr r25, σ)) else (if x1 = 7 then ((X0_staysOnStands σ 24).bind fun r28 => (X0_lengthOf σ 24 r28).bind fun r30 => some (.inr r30, σ)) else (if x1 = 8 then ((X0_hinderedStays σ 24).bind fun r33 => (J6_bitCount_0f7a4 σ r33).bind fun r35 => some (.inr r35, σ)) else (if x1 = 9 then (some (.inr (σ 24 3), σ)) else (if x1 = 10 then ((X0_weightsOnRemote σ 24).bind fun r39 => some (.inr r39, σ)) else (some (.inl "java/lang/IllegalArgumentException", σ))))))))))))
set_option maxHeartbeats 4000000 in
set_option maxRecDepth 100000 in
theorem c_X6_account (l : Launch) (hfl : l.stackTraces = false) (D : va_G) (y : ClassId × ClassId × ClassId) (ad : Nat → Nat) (x1 : Int32) (σ : gS) (sz : Nat) {q : (String ⊕ Int32) × gS} (h : X6_account σ x1 = some q) : vx_Met l yX6_account (Cond.code yX6_account cX6_account 2 (some .int) :: gl) ({ frames := 7, cells := 1, slots := 6, locals := 100 }) (g_PcX D y ad σ sz [.ref (ad 0), .int x1]) (g_QX D y ad sz q) (g_XX D y ad sz q) 1 6 (g_A ad sz) := by
  have ho := h
  unfold X6_account at ho
  refine g_startX (by decide) (Nat.le_of_ble_eq_true rfl) (fun p e s m below meth c ls hC hr hlk hsz hW hl ht hZ => ?_)
  have hx := hC.1
  have hcd := hC.2.1
  have hl : lv_has ls 2 [(0, .ref (ad 0)), (1, .int x1)] := hl
  refine lv_iload_n hx hcd dX6_account_0 rfl (lv_at hl 1 rfl) ?_
  by_cases c1 : x1 = 0
  · have ho := gif_p ho c1
    refine lv_tableIn (tgt := 60) hx hcd dX6_account_1 (by rw [c1]; decide) (by rw [c1]; decide) (by rw [c1]; rfl) (by decide) ?_
    refine lv_aload_n hx hcd dX6_account_60 rfl (lv_at hl 0 rfl) ?_
    refine g_getr hC hW (C := RX6) (T := TX6) (N := 11) (ci := 8) (k := 0) (index := 12) (i := 0) (r := 24) inGX6 rfl (by decide) fl_X6_12 (by decide) rfl rfl dX6_account_61 ?_
    refine g_geti hC hW (C := RX0) (T := TX0) (N := 16) (ci := 2) (k := 0) (index := 81) (i := 24) inGX0 rfl (by decide) fl_X6_81 (g_lt_air g_air24) (g_sh_air g_air24) rfl dX6_account_64 ?_
    exact g_iretX (Option.some.inj ho) hC hr hlk hsz hW dX6_account_67
  have ho := gif_n ho c1
  by_cases c2 : x1 = 1
  · have ho := gif_p ho c2
    refine lv_tableIn (tgt := 68) hx hcd dX6_account_1 (by rw [c2]; decide) (by rw [c2]; decide) (by rw [c2]; rfl) (by decide) ?_
    refine lv_aload_n hx hcd dX6_account_68 rfl (lv_at hl 0 rfl) ?_
    refine g_getr hC hW (C := RX6) (T := TX6) (N := 11) (ci := 8) (k := 0) (index := 12) (i := 0) (r := 24) inGX6 rfl (by decide) fl_X6_12 (by decide) rfl rfl dX6_account_69 ?_
    refine g_geti hC hW (C := RX0) (T := TX0) (N := 16) (ci := 2) (k := 1) (index := 65) (i := 24) inGX0 rfl (by decide) fl_X6_65 (g_lt_air g_air24) (g_sh_air g_air24) rfl dX6_account_72 ?_
    exact g_iretX (Option.some.inj ho) hC hr hlk hsz hW dX6_account_75
  have ho := gif_n ho c2
  by_cases c3 : x1 = 2
  · have ho := gif_p ho c3
    refine lv_tableIn (tgt := 76) hx hcd dX6_account_1 (by rw [c3]; decide) (by rw [c3]; decide) (by rw [c3]; rfl) (by decide) ?_
    refine lv_aload_n hx hcd dX6_account_76 rfl (lv_at hl 0 rfl) ?_
    refine g_getr hC hW (C := RX6) (T := TX6) (N := 11) (ci := 8) (k := 0) (index := 12) (i := 0) (r := 24) inGX6 rfl (by decide) fl_X6_12 (by decide) rfl rfl dX6_account_77 ?_
    obtain ⟨r5, h4, ho⟩ := gb_some ho
    refine g_calli hW (g_runV (As := []) (rest := []) (i := 24) hC hW (c_X0_allStays l D y ad g_air24 _ _ h4) ok_X6_306 ⟨rfl, rfl, Nat.le_of_ble_eq_true rfl, Nat.le_of_ble_eq_true rfl⟩ (g_lt_air g_air24) (g_sh_air g_air24) rfl rfl rfl hl.1 rfl (Nat.le_of_ble_eq_true rfl) dX6_account_80 ⟨Nat.zero_le _, Nat.zero_le _⟩) (fun H locs hW => ?_)
    obtain ⟨r7, h6, ho⟩ := gb_some ho
    refine g_calli hW (g_runS (As := [.int r5]) (rest := []) hC hW (c_J6_bitCount_0f7a4 l D y ad r5 _ _ h6) ok_X6_137 ⟨rfl, rfl, Nat.le_of_ble_eq_true rfl, Nat.le_of_ble_eq_true rfl⟩ rfl hl.1 rfl (Nat.le_of_ble_eq_true rfl) dX6_account_83 ⟨Nat.zero_le _, Nat.zero_le _⟩) (fun H locs hW => ?_)
    exact g_iretX (Option.some.inj ho) hC hr hlk hsz hW dX6_account_86
  have ho := gif_n ho c3
  by_cases c8 : x1 = 3
  · have ho := gif_p ho c8
    refine lv_tableIn (tgt := 87) hx hcd dX6_account_1 (by rw [c8]; decide) (by rw [c8]; decide) (by rw [c8]; rfl) (by decide) ?_
    refine lv_aload_n hx hcd dX6_account_87 rfl (lv_at hl 0 rfl) ?_
    refine g_getr hC hW (C := RX6) (T := TX6) (N := 11) (ci := 8) (k := 0) (index := 12) (i := 0) (r := 24) inGX6 rfl (by decide) fl_X6_12 (by decide) rfl rfl dX6_account_88 ?_
    obtain ⟨r10, h9, ho⟩ := gb_some ho
    refine g_calli hW (g_runV (As := []) (rest := []) (i := 24) hC hW (c_X0_staysOnStands l D y ad g_air24 _ _ h9) ok_X6_309 ⟨rfl, rfl, Nat.le_of_ble_eq_true rfl, Nat.le_of_ble_eq_true rfl⟩ (g_lt_air g_air24) (g_sh_air g_air24) rfl rfl rfl hl.1 rfl (Nat.le_of_ble_eq_true rfl) dX6_account_91 ⟨Nat.zero_le _, Nat.zero_le _⟩) (fun H locs hW => ?_)
    obtain ⟨r12, h11, ho⟩ := gb_some ho
    refine g_calli hW (g_runS (As := [.int r10]) (rest := []) hC hW (c_J6_bitCount_0f7a4 l D y ad r10 _ _ h11) ok_X6_137 ⟨rfl, rfl, Nat.le_of_ble_eq_true rfl, Nat.le_of_ble_eq_true rfl⟩ rfl hl.1 rfl (Nat.le_of_ble_eq_true rfl) dX6_account_94 ⟨Nat.zero_le _, Nat.zero_le _⟩) (fun H locs hW => ?_)
    exact g_iretX (Option.some.inj ho) hC hr hlk hsz hW dX6_account_97
  have ho := gif_n ho c8
  by_cases c13 : x1 = 4
  · have ho := gif_p ho c13
    refine lv_tableIn (tgt := 98) hx hcd dX6_account_1 (by rw [c13]; decide) (by rw [c13]; decide) (by rw [c13]; rfl) (by decide) ?_
    refine lv_aload_n hx hcd dX6_account_98 rfl (lv_at hl 0 rfl) ?_
    refine g_getr hC hW (C := RX6) (T := TX6) (N := 11) (ci := 8) (k := 0) (index := 12) (i := 0) (r := 24) inGX6 rfl (by decide) fl_X6_12 (by decide) rfl rfl dX6_account_99 ?_
    obtain ⟨r15, h14, ho⟩ := gb_some ho
    refine g_calli hW (g_runV (As := []) (rest := []) (i := 24) hC hW (c_X0_costOfAll l D y ad g_air24 _ _ h14) ok_X6_279 ⟨rfl, rfl, Nat.le_of_ble_eq_true rfl, Nat.le_of_ble_eq_true rfl⟩ (g_lt_air g_air24) (g_sh_air g_air24) rfl rfl rfl hl.1 rfl (Nat.le_of_ble_eq_true rfl) dX6_account_102 ⟨Nat.zero_le _, Nat.zero_le _⟩) (fun H locs hW => ?_)
    exact g_iretX (Option.some.inj ho) hC hr hlk hsz hW dX6_account_105
  have ho := gif_n ho c13
  by_cases c16 : x1 = 5
  · have ho := gif_p ho c16
    refine lv_tableIn (tgt := 106) hx hcd dX6_account_1 (by rw [c16]; decide) (by rw [c16]; decide) (by rw [c16]; rfl) (by decide) ?_
    refine lv_aload_n hx hcd dX6_account_106 rfl (lv_at hl 0 rfl) ?_
    refine g_getr hC hW (C := RX6) (T := TX6) (N := 11) (ci := 8) (k := 0) (index := 12) (i := 0) (r := 24) inGX6 rfl (by decide) fl_X6_12 (by decide) rfl rfl dX6_account_107 ?_
    obtain ⟨r18, h17, ho⟩ := gb_some ho
    refine g_calli hW (g_runV (As := []) (rest := []) (i := 24) hC hW (c_X0_allStays l D y ad g_air24 _ _ h17) ok_X6_306 ⟨rfl, rfl, Nat.le_of_ble_eq_true rfl, Nat.le_of_ble_eq_true rfl⟩ (g_lt_air g_air24) (g_sh_air g_air24) rfl rfl rfl hl.1 rfl (Nat.le_of_ble_eq_true rfl) dX6_account_110 ⟨Nat.zero_le _, Nat.zero_le _⟩) (fun H locs hW => ?_)
    obtain ⟨r20, h19, ho⟩ := gb_some ho
    refine g_calli hW (g_runS (As := [.int r18]) (rest := []) hC hW (c_J6_bitCount_0f7a4 l D y ad r18 _ _ h19) ok_X6_137 ⟨rfl, rfl, Nat.le_of_ble_eq_true rfl, Nat.le_of_ble_eq_true rfl⟩ rfl hl.1 rfl (Nat.le_of_ble_eq_true rfl) dX6_account_113 ⟨Nat.zero_le _, Nat.zero_le _⟩) (fun H locs hW => ?_)
    refine lv_aload_n hx hcd dX6_account_116 rfl (lv_at hl 0 rfl) ?_
    refine g_getr hC hW (C := RX6) (T := TX6) (N := 11) (ci := 8) (k := 0) (index := 12) (i := 0) (r := 24) inGX6 rfl (by decide) fl_X6_12 (by decide) rfl rfl dX6_account_117 ?_
    refine g_geti hC hW (C := RX0) (T := TX0) (N := 16) (ci := 2) (k := 1) (index := 65) (i := 24) inGX0 rfl (by decide) fl_X6_65 (g_lt_air g_air24) (g_sh_air g_air24) rfl dX6_account_120 ?_
    refine lv_isub hx hcd dX6_account_123 ?_
    exact g_iretX (Option.some.inj ho) hC hr hlk hsz hW dX6_account_124
  have ho := gif_n ho c16
  by_cases c21 : x1 = 6
  · have ho := gif_p ho c21
    refine lv_tableIn (tgt := 125) hx hcd dX6_account_1 (by rw [c21]; decide) (by rw [c21]; decide) (by rw [c21]; rfl) (by decide) ?_
    refine lv_aload_n hx hcd dX6_account_125 rfl (lv_at hl 0 rfl) ?_
    refine g_getr hC hW (C := RX6) (T := TX6) (N := 11) (ci := 8) (k := 0) (index := 12) (i := 0) (r := 24) inGX6 rfl (by decide) fl_X6_12 (by decide) rfl rfl dX6_account_126 ?_
    refine lv_aload_n hx hcd dX6_account_129 rfl (lv_at hl 0 rfl) ?_
    refine g_getr hC hW (C := RX6) (T := TX6) (N := 11) (ci := 8) (k := 0) (index := 12) (i := 0) (r := 24) inGX6 rfl (by decide) fl_X6_12 (by decide) rfl rfl dX6_account_130 ?_
    obtain ⟨r23, h22, ho⟩ := gb_some ho
    refine g_calli hW (g_runV (As := []) (rest := [.ref (ad 24)]) (i := 24) hC hW (c_X0_allStays l D y ad g_air24 _ _ h22) ok_X6_306 ⟨rfl, rfl, Nat.le_of_ble_eq_true rfl, Nat.le_of_ble_eq_true rfl⟩ (g_lt_air g_air24) (g_sh_air g_air24) rfl rfl rfl hl.1 rfl (Nat.le_of_ble_eq_true rfl) dX6_account_133 ⟨Nat.zero_le _, Nat.zero_le _⟩) (fun H locs hW => ?_)
    obtain ⟨r25, h24, ho⟩ := gb_some ho
    refine g_calli hW (g_runV (As := [.int r23]) (rest := []) (i := 24) hC hW (c_X0_lengthOf l D y ad g_air24 r23 _ _ h24) ok_X6_142 ⟨rfl, rfl, Nat.le_of_ble_eq_true rfl, Nat.le_of_ble_eq_true rfl⟩ (g_lt_air g_air24) (g_sh_air g_air24) rfl rfl rfl hl.1 rfl (Nat.le_of_ble_eq_true rfl) dX6_account_136 ⟨Nat.zero_le _, Nat.zero_le _⟩) (fun H locs hW => ?_)
    exact g_iretX (Option.some.inj ho) hC hr hlk hsz hW dX6_account_139
  have ho := gif_n ho c21
  by_cases c26 : x1 = 7
  · have ho := gif_p ho c26
    refine lv_tableIn (tgt := 140) hx hcd dX6_account_1 (by rw [c26]; decide) (by rw [c26]; decide) (by rw [c26]; rfl) (by decide) ?_
    refine lv_aload_n hx hcd dX6_account_140 rfl (lv_at hl 0 rfl) ?_
    refine g_getr hC hW (C := RX6) (T := TX6) (N := 11) (ci := 8) (k := 0) (index := 12) (i := 0) (r := 24) inGX6 rfl (by decide) fl_X6_12 (by decide) rfl rfl dX6_account_141 ?_
    refine lv_aload_n hx hcd dX6_account_144 rfl (lv_at hl 0 rfl) ?_
    refine g_getr hC hW (C := RX6) (T := TX6) (N := 11) (ci := 8) (k := 0) (index := 12) (i := 0) (r := 24) inGX6 rfl (by decide) fl_X6_12 (by decide) rfl rfl dX6_account_145 ?_
    obtain ⟨r28, h27, ho⟩ := gb_some ho
    refine g_calli hW (g_runV (As := []) (rest := [.ref (ad 24)]) (i := 24) hC hW (c_X0_staysOnStands l D y ad g_air24 _ _ h27) ok_X6_309 ⟨rfl, rfl, Nat.le_of_ble_eq_true rfl, Nat.le_of_ble_eq_true rfl⟩ (g_lt_air g_air24) (g_sh_air g_air24) rfl rfl rfl hl.1 rfl (Nat.le_of_ble_eq_true rfl) dX6_account_148 ⟨Nat.zero_le _, Nat.zero_le _⟩) (fun H locs hW => ?_)
    obtain ⟨r30, h29, ho⟩ := gb_some ho
    refine g_calli hW (g_runV (As := [.int r28]) (rest := []) (i := 24) hC hW (c_X0_lengthOf l D y ad g_air24 r28 _ _ h29) ok_X6_142 ⟨rfl, rfl, Nat.le_of_ble_eq_true rfl, Nat.le_of_ble_eq_true rfl⟩ (g_lt_air g_air24) (g_sh_air g_air24) rfl rfl rfl hl.1 rfl (Nat.le_of_ble_eq_true rfl) dX6_account_151 ⟨Nat.zero_le _, Nat.zero_le _⟩) (fun H locs hW => ?_)
    exact g_iretX (Option.some.inj ho) hC hr hlk hsz hW dX6_account_154
  have ho := gif_n ho c26
  by_cases c31 : x1 = 8
  · have ho := gif_p ho c31
    refine lv_tableIn (tgt := 155) hx hcd dX6_account_1 (by rw [c31]; decide) (by rw [c31]; decide) (by rw [c31]; rfl) (by decide) ?_
    refine lv_aload_n hx hcd dX6_account_155 rfl (lv_at hl 0 rfl) ?_
    refine g_getr hC hW (C := RX6) (T := TX6) (N := 11) (ci := 8) (k := 0) (index := 12) (i := 0) (r := 24) inGX6 rfl (by decide) fl_X6_12 (by decide) rfl rfl dX6_account_156 ?_
    obtain ⟨r33, h32, ho⟩ := gb_some ho
    refine g_calli hW (g_runV (As := []) (rest := []) (i := 24) hC hW (c_X0_hinderedStays l D y ad g_air24 _ _ h32) ok_X6_312 ⟨rfl, rfl, Nat.le_of_ble_eq_true rfl, Nat.le_of_ble_eq_true rfl⟩ (g_lt_air g_air24) (g_sh_air g_air24) rfl rfl rfl hl.1 rfl (Nat.le_of_ble_eq_true rfl) dX6_account_159 ⟨Nat.zero_le _, Nat.zero_le _⟩) (fun H locs hW => ?_)
    obtain ⟨r35, h34, ho⟩ := gb_some ho
    refine g_calli hW (g_runS (As := [.int r33]) (rest := []) hC hW (c_J6_bitCount_0f7a4 l D y ad r33 _ _ h34) ok_X6_137 ⟨rfl, rfl, Nat.le_of_ble_eq_true rfl, Nat.le_of_ble_eq_true rfl⟩ rfl hl.1 rfl (Nat.le_of_ble_eq_true rfl) dX6_account_162 ⟨Nat.zero_le _, Nat.zero_le _⟩) (fun H locs hW => ?_)
    exact g_iretX (Option.some.inj ho) hC hr hlk hsz hW dX6_account_165
  have ho := gif_n ho c31
  by_cases c36 : x1 = 9
  · have ho := gif_p ho c36
    refine lv_tableIn (tgt := 166) hx hcd dX6_account_1 (by rw [c36]; decide) (by rw [c36]; decide) (by rw [c36]; rfl) (by decide) ?_
    refine lv_aload_n hx hcd dX6_account_166 rfl (lv_at hl 0 rfl) ?_
    refine g_getr hC hW (C := RX6) (T := TX6) (N := 11) (ci := 8) (k := 0) (index := 12) (i := 0) (r := 24) inGX6 rfl (by decide) fl_X6_12 (by decide) rfl rfl dX6_account_167 ?_
    refine g_geti hC hW (C := RX0) (T := TX0) (N := 16) (ci := 2) (k := 3) (index := 303) (i := 24) inGX0 rfl (by decide) fl_X6_303 (g_lt_air g_air24) (g_sh_air g_air24) rfl dX6_account_170 ?_
    exact g_iretX (Option.some.inj ho) hC hr hlk hsz hW dX6_account_173
  have ho := gif_n ho c36
  by_cases c37 : x1 = 10
  · have ho := gif_p ho c37
    refine lv_tableIn (tgt := 174) hx hcd dX6_account_1 (by rw [c37]; decide) (by rw [c37]; decide) (by rw [c37]; rfl) (by decide) ?_
    refine lv_aload_n hx hcd dX6_account_174 rfl (lv_at hl 0 rfl) ?_
    refine g_getr hC hW (C := RX6) (T := TX6) (N := 11) (ci := 8) (k := 0) (index := 12) (i := 0) (r := 24) inGX6 rfl (by decide) fl_X6_12 (by decide) rfl rfl dX6_account_175 ?_
    obtain ⟨r39, h38, ho⟩ := gb_some ho
    refine g_calli hW (g_runV (As := []) (rest := []) (i := 24) hC hW (c_X0_weightsOnRemote l D y ad g_air24 _ _ h38) ok_X6_315 ⟨rfl, rfl, Nat.le_of_ble_eq_true rfl, Nat.le_of_ble_eq_true rfl⟩ (g_lt_air g_air24) (g_sh_air g_air24) rfl rfl rfl hl.1 rfl (Nat.le_of_ble_eq_true rfl) dX6_account_178 ⟨Nat.zero_le _, Nat.zero_le _⟩) (fun H locs hW => ?_)
    exact g_iretX (Option.some.inj ho) hC hr hlk hsz hW dX6_account_181
  have ho := gif_n ho c37
  refine lv_tableOut (tgt := 182) hx hcd dX6_account_1 (by have zc1 := lv_neT c1 (a := 0) rfl; have zc2 := lv_neT c2 (a := 1) rfl; have zc3 := lv_neT c3 (a := 2) rfl; have zc8 := lv_neT c8 (a := 3) rfl; have zc13 := lv_neT c13 (a := 4) rfl; have zc16 := lv_neT c16 (a := 5) rfl; have zc21 := lv_neT c21 (a := 6) rfl; have zc26 := lv_neT c26 (a := 7) rfl; have zc31 := lv_neT c31 (a := 8) rfl; have zc36 := lv_neT c36 (a := 9) rfl; have zc37 := lv_neT c37 (a := 10) rfl; omega) (by decide) ?_
  exact g_throwW hfl ox_IllegalArgumentException (text := "account is not 0 to 10") (Option.some.inj ho) hC hlk ht hZ hl.1 hW (List.mem_of_getElem? (i := 26) rfl) dX6_account_182 dX6_account_185 dX6_account_186 dX6_account_189 dX6_account_192 ⟨Nat.le_of_ble_eq_true rfl, Nat.le_of_ble_eq_true rfl, Nat.le_of_ble_eq_true rfl, Nat.le_of_ble_eq_true rfl⟩
noncomputable def X6_meanCost (σ : gS) : Option ((String ⊕ UInt32) × gS) :=
  if (σ 24 1) = 0 then (some (.inl "java/lang/ArithmeticException", σ)) else ((X0_costOfAll σ 24).bind fun r3 => gd (n32 (FP.fdiv (FP.i2f r3) (FP.i2f (σ 24 1)))) <| some (.inr (FP.fdiv (FP.i2f r3) (FP.i2f (σ 24 1))), σ))
set_option maxHeartbeats 4000000 in
set_option maxRecDepth 100000 in
theorem c_X6_meanCost (l : Launch) (hfl : l.stackTraces = false) (D : va_G) (y : ClassId × ClassId × ClassId) (ad : Nat → Nat) (σ : gS) (sz : Nat) {q : (String ⊕ UInt32) × gS} (h : X6_meanCost σ = some q) : vx_Met l yX6_meanCost (Cond.code yX6_meanCost cX6_meanCost 2 (some .float) :: gl) ({ frames := 7, cells := 1, slots := 6, locals := 100 }) (g_PcX D y ad σ sz [.ref (ad 0)]) (g_QXf D y ad sz q) (g_XX D y ad sz q) 1 6 (g_A ad sz) := by
  have ho := h
  unfold X6_meanCost at ho
  refine g_startX (by decide) (Nat.le_of_ble_eq_true rfl) (fun p e s m below meth c ls hC hr hlk hsz hW hl ht hZ => ?_)
  have hx := hC.1
  have hcd := hC.2.1
  have hl : lv_has ls 2 [(0, .ref (ad 0))] := hl
  refine lv_aload_n hx hcd dX6_meanCost_0 rfl (lv_at hl 0 rfl) ?_
  refine g_getr hC hW (C := RX6) (T := TX6) (N := 11) (ci := 8) (k := 0) (index := 12) (i := 0) (r := 24) inGX6 rfl (by decide) fl_X6_12 (by decide) rfl rfl dX6_meanCost_1 ?_
  refine g_geti hC hW (C := RX0) (T := TX0) (N := 16) (ci := 2) (k := 1) (index := 65) (i := 24) inGX0 rfl (by decide) fl_X6_65 (g_lt_air g_air24) (g_sh_air g_air24) rfl dX6_meanCost_4 ?_
  refine lv_istore_n (lv' := [(1, .int (σ 24 1)), (0, .ref (ad 0))]) hx hcd dX6_meanCost_7 rfl hl (by decide) rfl (fun ls hl => ?_)
  refine lv_iload_n hx hcd dX6_meanCost_8 rfl (lv_at hl 0 rfl) ?_
  refine lv_if_ne (tgt := 23) hx hcd dX6_meanCost_9 (by decide) (fun c1 => ?_) (fun c1 => ?_)
  · have ho := gif_n ho c1
    refine lv_aload_n hx hcd dX6_meanCost_23 rfl (lv_at hl 1 rfl) ?_
    refine g_getr hC hW (C := RX6) (T := TX6) (N := 11) (ci := 8) (k := 0) (index := 12) (i := 0) (r := 24) inGX6 rfl (by decide) fl_X6_12 (by decide) rfl rfl dX6_meanCost_24 ?_
    obtain ⟨r3, h2, ho⟩ := gb_some ho
    refine g_calli hW (g_runV (As := []) (rest := []) (i := 24) hC hW (c_X0_costOfAll l D y ad g_air24 _ _ h2) ok_X6_279 ⟨rfl, rfl, Nat.le_of_ble_eq_true rfl, Nat.le_of_ble_eq_true rfl⟩ (g_lt_air g_air24) (g_sh_air g_air24) rfl rfl rfl hl.1 rfl (Nat.le_of_ble_eq_true rfl) dX6_meanCost_27 ⟨Nat.zero_le _, Nat.zero_le _⟩) (fun H locs hW => ?_)
    refine lv_i2f hx hcd dX6_meanCost_30 ?_
    refine lv_iload_n hx hcd dX6_meanCost_31 rfl (lv_at hl 0 rfl) ?_
    refine lv_i2f hx hcd dX6_meanCost_32 ?_
    obtain ⟨z4, ho⟩ := gd_some ho
    refine lv_fdiv hx hcd dX6_meanCost_33 (n32_v z4) ?_
    exact g_fretX (Option.some.inj ho) hC hr hlk hsz hW dX6_meanCost_34
  · have ho := gif_p ho c1
    exact g_throwW hfl ox_ArithmeticException (text := "no turns") (Option.some.inj ho) hC hlk ht hZ hl.1 hW (List.mem_of_getElem? (i := 27) rfl) dX6_meanCost_12 dX6_meanCost_15 dX6_meanCost_16 dX6_meanCost_19 dX6_meanCost_22 ⟨Nat.le_of_ble_eq_true rfl, Nat.le_of_ble_eq_true rfl, Nat.le_of_ble_eq_true rfl, Nat.le_of_ble_eq_true rfl⟩
noncomputable def X6_append (σ : gS) (x1 : Int32) : Option ((String ⊕ Int32) × gS) :=
  if x1 < 32 then (some (.inl "java/lang/IllegalArgumentException", σ)) else (if x1 ≤ 126 then (if (σ 4 3) < 60 then ((X5_add σ x1).bind fun q5 => some (.inr q5.1, q5.2)) else (some (.inl "java/lang/IllegalStateException", σ))) else (some (.inl "java/lang/IllegalArgumentException", σ)))
set_option maxHeartbeats 4000000 in
set_option maxRecDepth 100000 in
theorem c_X6_append (l : Launch) (hfl : l.stackTraces = false) (D : va_G) (y : ClassId × ClassId × ClassId) (ad : Nat → Nat) (x1 : Int32) (σ : gS) (sz : Nat) {q : (String ⊕ Int32) × gS} (h : X6_append σ x1 = some q) : vx_Met l yX6_append (Cond.code yX6_append cX6_append 2 (some .int) :: gl) ({ frames := 7, cells := 1, slots := 6, locals := 100 }) (g_PcX D y ad σ sz [.ref (ad 0), .int x1]) (g_QX D y ad sz q) (g_XX D y ad sz q) 1 6 (g_A ad sz) := by
  have ho := h
  unfold X6_append at ho
  refine g_startX (by decide) (Nat.le_of_ble_eq_true rfl) (fun p e s m below meth c ls hC hr hlk hsz hW hl ht hZ => ?_)
  have hx := hC.1
  have hcd := hC.2.1
  have hl : lv_has ls 2 [(0, .ref (ad 0)), (1, .int x1)] := hl
  refine lv_iload_n hx hcd dX6_append_0 rfl (lv_at hl 1 rfl) ?_
  refine lv_bipush (v := 32) hx hcd dX6_append_1 (by decide) ?_
  refine lv_icmp_lt (tgt := 12) hx hcd dX6_append_3 (by decide) (fun c1 => ?_) (fun c1 => ?_)
  · have ho := gif_p ho c1
    exact g_throwW hfl ox_IllegalArgumentException (text := "character out of range") (Option.some.inj ho) hC hlk ht hZ hl.1 hW (List.mem_of_getElem? (i := 28) rfl) dX6_append_12 dX6_append_15 dX6_append_16 dX6_append_19 dX6_append_22 ⟨Nat.le_of_ble_eq_true rfl, Nat.le_of_ble_eq_true rfl, Nat.le_of_ble_eq_true rfl, Nat.le_of_ble_eq_true rfl⟩
  · have ho := gif_n ho c1
    refine lv_iload_n hx hcd dX6_append_6 rfl (lv_at hl 1 rfl) ?_
    refine lv_bipush (v := 126) hx hcd dX6_append_7 (by decide) ?_
    refine lv_icmp_le (tgt := 23) hx hcd dX6_append_9 (by decide) (fun c2 => ?_) (fun c2 => ?_)
    · have ho := gif_p ho c2
      refine lv_aload_n hx hcd dX6_append_23 rfl (lv_at hl 0 rfl) ?_
      refine g_getr hC hW (C := RX6) (T := TX6) (N := 11) (ci := 8) (k := 4) (index := 32) (i := 0) (r := 4) inGX6 rfl (by decide) fl_X6_32 (by decide) rfl rfl dX6_append_24 ?_
      refine g_geti hC hW (C := RX5) (T := TX5) (N := 6) (ci := 7) (k := 3) (index := 339) (i := 4) inGX5 rfl (by decide) fl_X6_339 (by decide) rfl rfl dX6_append_27 ?_
      refine lv_bipush (v := 60) hx hcd dX6_append_30 (by decide) ?_
      refine lv_icmp_lt (tgt := 46) hx hcd dX6_append_32 (by decide) (fun c3 => ?_) (fun c3 => ?_)
      · have ho := gif_p ho c3
        refine lv_aload_n hx hcd dX6_append_46 rfl (lv_at hl 0 rfl) ?_
        refine g_getr hC hW (C := RX6) (T := TX6) (N := 11) (ci := 8) (k := 4) (index := 32) (i := 0) (r := 4) inGX6 rfl (by decide) fl_X6_32 (by decide) rfl rfl dX6_append_47 ?_
        refine lv_iload_n hx hcd dX6_append_50 rfl (lv_at hl 1 rfl) ?_
        obtain ⟨q5, h4, ho⟩ := gb_some ho
        refine g_calli hW (g_runV (As := [.int x1]) (rest := []) (i := 4) hC hW (c_X5_add l D y ad x1 _ _ h4) ok_X6_344 ⟨rfl, rfl, Nat.le_of_ble_eq_true rfl, Nat.le_of_ble_eq_true rfl⟩ (by decide) rfl rfl rfl rfl hl.1 rfl (Nat.le_of_ble_eq_true rfl) dX6_append_51 ⟨Nat.zero_le _, Nat.zero_le _⟩) (fun H locs hW => ?_)
        exact g_iretX (Option.some.inj ho) hC hr hlk hsz hW dX6_append_54
      · have ho := gif_n ho c3
        exact g_throwW hfl ox_IllegalStateException (text := "the input is full") (Option.some.inj ho) hC hlk ht hZ hl.1 hW (List.mem_of_getElem? (i := 29) rfl) dX6_append_35 dX6_append_38 dX6_append_39 dX6_append_42 dX6_append_45 ⟨Nat.le_of_ble_eq_true rfl, Nat.le_of_ble_eq_true rfl, Nat.le_of_ble_eq_true rfl, Nat.le_of_ble_eq_true rfl⟩
    · have ho := gif_n ho c2
      exact g_throwW hfl ox_IllegalArgumentException (text := "character out of range") (Option.some.inj ho) hC hlk ht hZ hl.1 hW (List.mem_of_getElem? (i := 28) rfl) dX6_append_12 dX6_append_15 dX6_append_16 dX6_append_19 dX6_append_22 ⟨Nat.le_of_ble_eq_true rfl, Nat.le_of_ble_eq_true rfl, Nat.le_of_ble_eq_true rfl, Nat.le_of_ble_eq_true rfl⟩
noncomputable def X6_errorPosition (σ : gS) : Option ((String ⊕ Int32) × gS) :=
  if 0 ≤ (σ 0 10) then (some (.inr (σ 0 10), σ)) else (some (.inl "java/util/NoSuchElementException", σ))
set_option maxHeartbeats 4000000 in
set_option maxRecDepth 100000 in
theorem c_X6_errorPosition (l : Launch) (hfl : l.stackTraces = false) (D : va_G) (y : ClassId × ClassId × ClassId) (ad : Nat → Nat) (σ : gS) (sz : Nat) {q : (String ⊕ Int32) × gS} (h : X6_errorPosition σ = some q) : vx_Met l yX6_errorPosition (Cond.code yX6_errorPosition cX6_errorPosition 1 (some .int) :: gl) ({ frames := 7, cells := 1, slots := 6, locals := 100 }) (g_PcX D y ad σ sz [.ref (ad 0)]) (g_QX D y ad sz q) (g_XX D y ad sz q) 1 6 (g_A ad sz) := by
  have ho := h
  unfold X6_errorPosition at ho
  refine g_startX (by decide) (Nat.le_of_ble_eq_true rfl) (fun p e s m below meth c ls hC hr hlk hsz hW hl ht hZ => ?_)
  have hx := hC.1
  have hcd := hC.2.1
  have hl : lv_has ls 1 [(0, .ref (ad 0))] := hl
  refine lv_aload_n hx hcd dX6_errorPosition_0 rfl (lv_at hl 0 rfl) ?_
  refine g_geti hC hW (C := RX6) (T := TX6) (N := 11) (ci := 8) (k := 10) (index := 62) (i := 0) inGX6 rfl (by decide) fl_X6_62 (by decide) rfl rfl dX6_errorPosition_1 ?_
  refine lv_if_ge (tgt := 18) hx hcd dX6_errorPosition_4 (by decide) (fun c1 => ?_) (fun c1 => ?_)
  · have ho := gif_p ho c1
    refine lv_aload_n hx hcd dX6_errorPosition_18 rfl (lv_at hl 0 rfl) ?_
    refine g_geti hC hW (C := RX6) (T := TX6) (N := 11) (ci := 8) (k := 10) (index := 62) (i := 0) inGX6 rfl (by decide) fl_X6_62 (by decide) rfl rfl dX6_errorPosition_19 ?_
    exact g_iretX (Option.some.inj ho) hC hr hlk hsz hW dX6_errorPosition_22
  · have ho := gif_n ho c1
    exact g_throwNW hfl (text := "no error position was kept") (Option.some.inj ho) hC hlk ht hZ hl.1 hW (List.mem_of_getElem? (i := 32) rfl) dX6_errorPosition_7 dX6_errorPosition_10 dX6_errorPosition_11 dX6_errorPosition_14 dX6_errorPosition_17 ⟨Nat.le_of_ble_eq_true rfl, Nat.le_of_ble_eq_true rfl, Nat.le_of_ble_eq_true rfl, Nat.le_of_ble_eq_true rfl⟩
noncomputable def X6_undo (σ : gS) : Option ((String ⊕ Int32) × gS) :=
  if (σ 2 2) = 0 then (some (.inl "java/util/NoSuchElementException", σ)) else ((X4_takeBack σ 24).bind fun σ3 => some (.inr (σ3 2 2), σ3))
set_option maxHeartbeats 4000000 in
set_option maxRecDepth 100000 in
theorem c_X6_undo (l : Launch) (hfl : l.stackTraces = false) (D : va_G) (y : ClassId × ClassId × ClassId) (ad : Nat → Nat) (σ : gS) (sz : Nat) {q : (String ⊕ Int32) × gS} (h : X6_undo σ = some q) : vx_Met l yX6_undo (Cond.code yX6_undo cX6_undo 1 (some .int) :: gl) ({ frames := 7, cells := 1, slots := 6, locals := 100 }) (g_PcX D y ad σ sz [.ref (ad 0)]) (g_QX D y ad sz q) (g_XX D y ad sz q) 1 6 (g_A ad sz) := by
  have ho := h
  unfold X6_undo at ho
  refine g_startX (by decide) (Nat.le_of_ble_eq_true rfl) (fun p e s m below meth c ls hC hr hlk hsz hW hl ht hZ => ?_)
  have hx := hC.1
  have hcd := hC.2.1
  have hl : lv_has ls 1 [(0, .ref (ad 0))] := hl
  refine lv_aload_n hx hcd dX6_undo_0 rfl (lv_at hl 0 rfl) ?_
  refine g_getr hC hW (C := RX6) (T := TX6) (N := 11) (ci := 8) (k := 3) (index := 25) (i := 0) (r := 2) inGX6 rfl (by decide) fl_X6_25 (by decide) rfl rfl dX6_undo_1 ?_
  refine g_geti hC hW (C := RX4) (T := TX4) (N := 3) (ci := 6) (k := 2) (index := 371) (i := 2) inGX4 rfl (by decide) fl_X6_371 (by decide) rfl rfl dX6_undo_4 ?_
  refine lv_if_ne (tgt := 21) hx hcd dX6_undo_7 (by decide) (fun c1 => ?_) (fun c1 => ?_)
  · have ho := gif_n ho c1
    refine lv_aload_n hx hcd dX6_undo_21 rfl (lv_at hl 0 rfl) ?_
    refine g_getr hC hW (C := RX6) (T := TX6) (N := 11) (ci := 8) (k := 3) (index := 25) (i := 0) (r := 2) inGX6 rfl (by decide) fl_X6_25 (by decide) rfl rfl dX6_undo_22 ?_
    refine lv_aload_n hx hcd dX6_undo_25 rfl (lv_at hl 0 rfl) ?_
    refine g_getr hC hW (C := RX6) (T := TX6) (N := 11) (ci := 8) (k := 0) (index := 12) (i := 0) (r := 24) inGX6 rfl (by decide) fl_X6_12 (by decide) rfl rfl dX6_undo_26 ?_
    obtain ⟨σ3, h2, ho⟩ := gb_some ho
    refine g_callv hW (g_runV (As := [.ref (ad 24)]) (rest := []) (i := 2) hC hW (c_X4_takeBack l D y ad g_air24 _ _ h2) ok_X6_376 ⟨rfl, rfl, Nat.le_of_ble_eq_true rfl, Nat.le_of_ble_eq_true rfl⟩ (by decide) rfl rfl rfl rfl hl.1 rfl (Nat.le_of_ble_eq_true rfl) dX6_undo_29 ⟨Nat.zero_le _, Nat.zero_le _⟩) (fun H locs hW => ?_)
    refine lv_aload_n hx hcd dX6_undo_32 rfl (lv_at hl 0 rfl) ?_
    refine g_getr hC hW (C := RX6) (T := TX6) (N := 11) (ci := 8) (k := 3) (index := 25) (i := 0) (r := 2) inGX6 rfl (by decide) fl_X6_25 (by decide) rfl rfl dX6_undo_33 ?_
    refine g_geti hC hW (C := RX4) (T := TX4) (N := 3) (ci := 6) (k := 2) (index := 371) (i := 2) inGX4 rfl (by decide) fl_X6_371 (by decide) rfl rfl dX6_undo_36 ?_
    exact g_iretX (Option.some.inj ho) hC hr hlk hsz hW dX6_undo_39
  · have ho := gif_p ho c1
    exact g_throwNW hfl (text := "no change is remembered") (Option.some.inj ho) hC hlk ht hZ hl.1 hW (List.mem_of_getElem? (i := 33) rfl) dX6_undo_10 dX6_undo_13 dX6_undo_14 dX6_undo_17 dX6_undo_20 ⟨Nat.le_of_ble_eq_true rfl, Nat.le_of_ble_eq_true rfl, Nat.le_of_ble_eq_true rfl, Nat.le_of_ble_eq_true rfl⟩
noncomputable def X6_restore (σ : gS) : Option ((String ⊕ Int32) × gS) :=
  if (σ 0 8) = 0 then (some (.inl "java/lang/IllegalStateException", σ)) else ((X0_copyFrom σ 24 48).bind fun σ3 => (X4_forgetAll σ3).bind fun σ5 => some (.inr (σ5 24 1), σ5))
set_option maxHeartbeats 4000000 in
set_option maxRecDepth 100000 in
theorem c_X6_restore (l : Launch) (hfl : l.stackTraces = false) (D : va_G) (y : ClassId × ClassId × ClassId) (ad : Nat → Nat) (σ : gS) (sz : Nat) {q : (String ⊕ Int32) × gS} (h : X6_restore σ = some q) : vx_Met l yX6_restore (Cond.code yX6_restore cX6_restore 1 (some .int) :: gl) ({ frames := 7, cells := 1, slots := 6, locals := 100 }) (g_PcX D y ad σ sz [.ref (ad 0)]) (g_QX D y ad sz q) (g_XX D y ad sz q) 1 6 (g_A ad sz) := by
  have ho := h
  unfold X6_restore at ho
  refine g_startX (by decide) (Nat.le_of_ble_eq_true rfl) (fun p e s m below meth c ls hC hr hlk hsz hW hl ht hZ => ?_)
  have hx := hC.1
  have hcd := hC.2.1
  have hl : lv_has ls 1 [(0, .ref (ad 0))] := hl
  refine lv_aload_n hx hcd dX6_restore_0 rfl (lv_at hl 0 rfl) ?_
  refine g_geti hC hW (C := RX6) (T := TX6) (N := 11) (ci := 8) (k := 8) (index := 54) (i := 0) inGX6 rfl (by decide) fl_X6_54 (by decide) rfl rfl dX6_restore_1 ?_
  refine lv_if_ne (tgt := 18) hx hcd dX6_restore_4 (by decide) (fun c1 => ?_) (fun c1 => ?_)
  · have ho := gif_n ho c1
    refine lv_aload_n hx hcd dX6_restore_18 rfl (lv_at hl 0 rfl) ?_
    refine g_getr hC hW (C := RX6) (T := TX6) (N := 11) (ci := 8) (k := 0) (index := 12) (i := 0) (r := 24) inGX6 rfl (by decide) fl_X6_12 (by decide) rfl rfl dX6_restore_19 ?_
    refine lv_aload_n hx hcd dX6_restore_22 rfl (lv_at hl 0 rfl) ?_
    refine g_getr hC hW (C := RX6) (T := TX6) (N := 11) (ci := 8) (k := 2) (index := 19) (i := 0) (r := 48) inGX6 rfl (by decide) fl_X6_19 (by decide) rfl rfl dX6_restore_23 ?_
    obtain ⟨σ3, h2, ho⟩ := gb_some ho
    refine g_callv hW (g_runV (As := [.ref (ad 48)]) (rest := []) (i := 24) hC hW (c_X0_copyFrom l D y ad g_air24 g_air48 _ _ h2) ok_X6_276 ⟨rfl, rfl, Nat.le_of_ble_eq_true rfl, Nat.le_of_ble_eq_true rfl⟩ (g_lt_air g_air24) (g_sh_air g_air24) rfl rfl rfl hl.1 rfl (Nat.le_of_ble_eq_true rfl) dX6_restore_26 ⟨Nat.zero_le _, Nat.zero_le _⟩) (fun H locs hW => ?_)
    refine lv_aload_n hx hcd dX6_restore_29 rfl (lv_at hl 0 rfl) ?_
    refine g_getr hC hW (C := RX6) (T := TX6) (N := 11) (ci := 8) (k := 3) (index := 25) (i := 0) (r := 2) inGX6 rfl (by decide) fl_X6_25 (by decide) rfl rfl dX6_restore_30 ?_
    obtain ⟨σ5, h4, ho⟩ := gb_some ho
    refine g_callv hW (g_runV (As := []) (rest := []) (i := 2) hC hW (c_X4_forgetAll l D y ad _ _ h4) ok_X6_71 ⟨rfl, rfl, Nat.le_of_ble_eq_true rfl, Nat.le_of_ble_eq_true rfl⟩ (by decide) rfl rfl rfl rfl hl.1 rfl (Nat.le_of_ble_eq_true rfl) dX6_restore_33 ⟨Nat.zero_le _, Nat.zero_le _⟩) (fun H locs hW => ?_)
    refine lv_aload_n hx hcd dX6_restore_36 rfl (lv_at hl 0 rfl) ?_
    refine g_getr hC hW (C := RX6) (T := TX6) (N := 11) (ci := 8) (k := 0) (index := 12) (i := 0) (r := 24) inGX6 rfl (by decide) fl_X6_12 (by decide) rfl rfl dX6_restore_37 ?_
    refine g_geti hC hW (C := RX0) (T := TX0) (N := 16) (ci := 2) (k := 1) (index := 65) (i := 24) inGX0 rfl (by decide) fl_X6_65 (g_lt_air g_air24) (g_sh_air g_air24) rfl dX6_restore_40 ?_
    exact g_iretX (Option.some.inj ho) hC hr hlk hsz hW dX6_restore_43
  · have ho := gif_p ho c1
    exact g_throwW hfl ox_IllegalStateException (text := "nothing was saved") (Option.some.inj ho) hC hlk ht hZ hl.1 hW (List.mem_of_getElem? (i := 34) rfl) dX6_restore_7 dX6_restore_10 dX6_restore_11 dX6_restore_14 dX6_restore_17 ⟨Nat.le_of_ble_eq_true rfl, Nat.le_of_ble_eq_true rfl, Nat.le_of_ble_eq_true rfl, Nat.le_of_ble_eq_true rfl⟩
