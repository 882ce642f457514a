noncomputable def X0_makeEmpty (σ : gS) (b : Nat) : Option (gS) :=
  lt_ (g_up σ b 0 0) fun σ1 => lt_ (g_up σ1 b 1 0) fun σ2 => lt_ (g_up σ2 b 2 15) fun σ3 => lt_ (g_up σ3 b 3 0) fun σ4 => lt_ (g_up σ4 b 4 0) fun σ5 => lt_ (g_fill σ5 (b + 11) 20 (-1)) fun σ6 => some σ6
set_option maxHeartbeats 4000000 in
set_option maxRecDepth 100000 in
theorem c_X0_makeEmpty (l : Launch) (D : va_G) (y : ClassId × ClassId × ClassId) (ad : Nat → Nat) {b : Nat} (hb : g_air b) (σ : gS) (sz : Nat) {q : gS} (h : X0_makeEmpty σ b = some q) : Met l yX0_makeEmpty (Cond.code yX0_makeEmpty cX0_makeEmpty 1 none :: gl) ({ frames := 1, cells := 0, slots := 0, locals := 23 }) (g_Pc D y ad σ sz [.ref (ad b)]) (g_Qv D y ad q sz) 0 0 (g_A ad sz) := by
  have ho := h
  unfold X0_makeEmpty at ho
  refine g_start (by decide) (Nat.le_of_ble_eq_true rfl) (fun p e s m below meth c ls hC hr hlk hsz hW hl => ?_)
  have hx := hC.1
  have hcd := hC.2.1
  have hl : lv_has ls 1 [(0, .ref (ad b))] := hl
  refine lv_aload_n hx hcd dX0_makeEmpty_0 rfl (lv_at hl 0 rfl) ?_
  refine lv_iconst (v := 0) hx hcd dX0_makeEmpty_1 (by decide) ?_
  obtain ⟨σ1, eσ1, ho⟩ := lt_ex ho
  refine g_puti hC hW (C := RX0) (T := TX0) (N := 16) (ci := 2) (k := 0) (index := 55) (i := b) inGX0 tyX0 tyX0_ok nmX0 rfl (by decide) fl_X0_55 rfl (g_lt_air hb) (g_sh_air hb) rfl rfl rfl dX0_makeEmpty_2 (fun H locs hW => ?_)
  rw [← eσ1] at hW
  refine lv_aload_n hx hcd dX0_makeEmpty_5 rfl (lv_at hl 0 rfl) ?_
  refine lv_iconst (v := 0) hx hcd dX0_makeEmpty_6 (by decide) ?_
  obtain ⟨σ2, eσ2, ho⟩ := lt_ex ho
  refine g_puti hC hW (C := RX0) (T := TX0) (N := 16) (ci := 2) (k := 1) (index := 58) (i := b) inGX0 tyX0 tyX0_ok nmX0 rfl (by decide) fl_X0_58 rfl (g_lt_air hb) (g_sh_air hb) rfl rfl rfl dX0_makeEmpty_7 (fun H locs hW => ?_)
  rw [← eσ2] at hW
  refine lv_aload_n hx hcd dX0_makeEmpty_10 rfl (lv_at hl 0 rfl) ?_
  refine lv_bipush (v := 15) hx hcd dX0_makeEmpty_11 (by decide) ?_
  obtain ⟨σ3, eσ3, ho⟩ := lt_ex ho
  refine g_puti hC hW (C := RX0) (T := TX0) (N := 16) (ci := 2) (k := 2) (index := 9) (i := b) inGX0 tyX0 tyX0_ok nmX0 rfl (by decide) fl_X0_9 rfl (g_lt_air hb) (g_sh_air hb) rfl rfl rfl dX0_makeEmpty_13 (fun H locs hW => ?_)
  rw [← eσ3] at hW
  refine lv_aload_n hx hcd dX0_makeEmpty_16 rfl (lv_at hl 0 rfl) ?_
  refine lv_iconst (v := 0) hx hcd dX0_makeEmpty_17 (by decide) ?_
  obtain ⟨σ4, eσ4, ho⟩ := lt_ex ho
  refine g_puti hC hW (C := RX0) (T := TX0) (N := 16) (ci := 2) (k := 3) (index := 61) (i := b) inGX0 tyX0 tyX0_ok nmX0 rfl (by decide) fl_X0_61 rfl (g_lt_air hb) (g_sh_air hb) rfl rfl rfl dX0_makeEmpty_18 (fun H locs hW => ?_)
  rw [← eσ4] at hW
  refine lv_aload_n hx hcd dX0_makeEmpty_21 rfl (lv_at hl 0 rfl) ?_
  refine lv_iconst (v := 0) hx hcd dX0_makeEmpty_22 (by decide) ?_
  obtain ⟨σ5, eσ5, ho⟩ := lt_ex ho
  refine g_puti hC hW (C := RX0) (T := TX0) (N := 16) (ci := 2) (k := 4) (index := 64) (i := b) inGX0 tyX0 tyX0_ok nmX0 rfl (by decide) fl_X0_64 rfl (g_lt_air hb) (g_sh_air hb) rfl rfl rfl dX0_makeEmpty_23 (fun H locs hW => ?_)
  rw [← eσ5] at hW
  refine lv_aload_n hx hcd dX0_makeEmpty_26 rfl (lv_at hl 0 rfl) ?_
  refine g_getr hC hW (C := RX0) (T := TX0) (N := 16) (ci := 2) (k := 15) (index := 46) (i := b) (r := (b + 11)) inGX0 rfl (by decide) fl_X0_46 (g_lt_air hb) (g_sh_air hb) rfl dX0_makeEmpty_27 ?_
  refine lv_iconst (v := (-1)) hx hcd dX0_makeEmpty_30 (by decide) ?_
  obtain ⟨σ6, eσ6, ho⟩ := lt_ex ho
  refine g_callv hW (g_runS (As := [.ref (ad (b + 11)), .int (-1)]) (rest := []) hC hW (c_fill l D y ad (g_lt_arr (j := 11) hb (by decide)) (g_sa11 hb) (by decide) (-1) _ _) ok_X0_49 ⟨rfl, rfl, Nat.le_of_ble_eq_true rfl, Nat.le_of_ble_eq_true rfl⟩ rfl hl.1 rfl (Nat.le_of_ble_eq_true rfl) dX0_makeEmpty_31 ⟨Nat.zero_le _, Nat.zero_le _⟩) (fun H locs hW => ?_)
  rw [← eσ6] at hW
  obtain rfl := Option.some.inj ho
  exact g_vret hC hr hlk hsz hW dX0_makeEmpty_34
noncomputable def X0_copyFrom (σ : gS) (b : Nat) (b2 : Nat) : Option (gS) :=
  lt_ (g_up σ b 0 (σ b2 0)) fun σ1 => lt_ (g_up σ1 b 1 (σ1 b2 1)) fun σ2 => lt_ (g_up σ2 b 2 (σ2 b2 2)) fun σ3 => lt_ (g_up σ3 b 3 (σ3 b2 3)) fun σ4 => lt_ (g_up σ4 b 4 (σ4 b2 4)) fun σ5 => lt_ (g_row σ5 (b + 1) (va_cpy (σ5 (b2 + 1)) (σ5 (b + 1)) (0 : Int32).toNatClampNeg (0 : Int32).toNatClampNeg (8 : Int32).toNatClampNeg)) fun σ6 => lt_ (g_row σ6 (b + 2) (va_cpy (σ6 (b2 + 2)) (σ6 (b + 2)) (0 : Int32).toNatClampNeg (0 : Int32).toNatClampNeg (8 : Int32).toNatClampNeg)) fun σ7 => lt_ (g_row σ7 (b + 3) (va_cpy (σ7 (b2 + 3)) (σ7 (b + 3)) (0 : Int32).toNatClampNeg (0 : Int32).toNatClampNeg (64 : Int32).toNatClampNeg)) fun σ8 => lt_ (g_row σ8 (b + 4) (va_cpy (σ8 (b2 + 4)) (σ8 (b + 4)) (0 : Int32).toNatClampNeg (0 : Int32).toNatClampNeg (10 : Int32).toNatClampNeg)) fun σ9 => lt_ (g_row σ9 (b + 5) (va_cpy (σ9 (b2 + 5)) (σ9 (b + 5)) (0 : Int32).toNatClampNeg (0 : Int32).toNatClampNeg (10 : Int32).toNatClampNeg)) fun σ10 => lt_ (g_row σ10 (b + 6) (va_cpy (σ10 (b2 + 6)) (σ10 (b + 6)) (0 : Int32).toNatClampNeg (0 : Int32).toNatClampNeg (10 : Int32).toNatClampNeg)) fun σ11 => lt_ (g_row σ11 (b + 7) (va_cpy (σ11 (b2 + 7)) (σ11 (b + 7)) (0 : Int32).toNatClampNeg (0 : Int32).toNatClampNeg (10 : Int32).toNatClampNeg)) fun σ12 => lt_ (g_row σ12 (b + 8) (va_cpy (σ12 (b2 + 8)) (σ12 (b + 8)) (0 : Int32).toNatClampNeg (0 : Int32).toNatClampNeg (10 : Int32).toNatClampNeg)) fun σ13 => lt_ (g_row σ13 (b + 9) (va_cpy (σ13 (b2 + 9)) (σ13 (b + 9)) (0 : Int32).toNatClampNeg (0 : Int32).toNatClampNeg (20 : Int32).toNatClampNeg)) fun σ14 => lt_ (g_row σ14 (b + 10) (va_cpy (σ14 (b2 + 10)) (σ14 (b + 10)) (0 : Int32).toNatClampNeg (0 : Int32).toNatClampNeg (20 : Int32).toNatClampNeg)) fun σ15 => lt_ (g_row σ15 (b + 11) (va_cpy (σ15 (b2 + 11)) (σ15 (b + 11)) (0 : Int32).toNatClampNeg (0 : Int32).toNatClampNeg (20 : Int32).toNatClampNeg)) fun σ16 => some σ16
set_option maxHeartbeats 4000000 in
set_option maxRecDepth 100000 in
theorem c_X0_copyFrom (l : Launch) (D : va_G) (y : ClassId × ClassId × ClassId) (ad : Nat → Nat) {b : Nat} (hb : g_air b) {b2 : Nat} (hb2 : g_air b2) (σ : gS) (sz : Nat) {q : gS} (h : X0_copyFrom σ b b2 = some q) : Met l yX0_copyFrom (Cond.code yX0_copyFrom cX0_copyFrom 2 none :: gl) ({ frames := 1, cells := 0, slots := 0, locals := 40 }) (g_Pc D y ad σ sz [.ref (ad b), .ref (ad b2)]) (g_Qv D y ad q sz) 0 0 (g_A ad sz) := by
  have ho := h
  unfold X0_copyFrom at ho
  refine g_start (by decide) (Nat.le_of_ble_eq_true rfl) (fun p e s m below meth c ls hC hr hlk hsz hW hl => ?_)
  have hx := hC.1
  have hcd := hC.2.1
  have hl : lv_has ls 2 [(0, .ref (ad b)), (1, .ref (ad b2))] := hl
  refine lv_aload_n hx hcd dX0_copyFrom_0 rfl (lv_at hl 0 rfl) ?_
  refine lv_aload_n hx hcd dX0_copyFrom_1 rfl (lv_at hl 1 rfl) ?_
  refine g_geti hC hW (C := RX0) (T := TX0) (N := 16) (ci := 2) (k := 0) (index := 55) (i := b2) inGX0 rfl (by decide) fl_X0_55 (g_lt_air hb2) (g_sh_air hb2) rfl dX0_copyFrom_2 ?_
  obtain ⟨σ1, eσ1, ho⟩ := lt_ex ho
  refine g_puti hC hW (C := RX0) (T := TX0) (N := 16) (ci := 2) (k := 0) (index := 55) (i := b) inGX0 tyX0 tyX0_ok nmX0 rfl (by decide) fl_X0_55 rfl (g_lt_air hb) (g_sh_air hb) rfl rfl rfl dX0_copyFrom_5 (fun H locs hW => ?_)
  rw [← eσ1] at hW
  refine lv_aload_n hx hcd dX0_copyFrom_8 rfl (lv_at hl 0 rfl) ?_
  refine lv_aload_n hx hcd dX0_copyFrom_9 rfl (lv_at hl 1 rfl) ?_
  refine g_geti hC hW (C := RX0) (T := TX0) (N := 16) (ci := 2) (k := 1) (index := 58) (i := b2) inGX0 rfl (by decide) fl_X0_58 (g_lt_air hb2) (g_sh_air hb2) rfl dX0_copyFrom_10 ?_
  obtain ⟨σ2, eσ2, ho⟩ := lt_ex ho
  refine g_puti hC hW (C := RX0) (T := TX0) (N := 16) (ci := 2) (k := 1) (index := 58) (i := b) inGX0 tyX0 tyX0_ok nmX0 rfl (by decide) fl_X0_58 rfl (g_lt_air hb) (g_sh_air hb) rfl rfl rfl dX0_copyFrom_13 (fun H locs hW => ?_)
  rw [← eσ2] at hW
  refine lv_aload_n hx hcd dX0_copyFrom_16 rfl (lv_at hl 0 rfl) ?_
  refine lv_aload_n hx hcd dX0_copyFrom_17 rfl (lv_at hl 1 rfl) ?_
  refine g_geti hC hW (C := RX0) (T := TX0) (N := 16) (ci := 2) (k := 2) (index := 9) (i := b2) inGX0 rfl (by decide) fl_X0_9 (g_lt_air hb2) (g_sh_air hb2) rfl dX0_copyFrom_18 ?_
  obtain ⟨σ3, eσ3, ho⟩ := lt_ex ho
  refine g_puti hC hW (C := RX0) (T := TX0) (N := 16) (ci := 2) (k := 2) (index := 9) (i := b) inGX0 tyX0 tyX0_ok nmX0 rfl (by decide) fl_X0_9 rfl (g_lt_air hb) (g_sh_air hb) rfl rfl rfl dX0_copyFrom_21 (fun H locs hW => ?_)
  rw [← eσ3] at hW
  refine lv_aload_n hx hcd dX0_copyFrom_24 rfl (lv_at hl 0 rfl) ?_
  refine lv_aload_n hx hcd dX0_copyFrom_25 rfl (lv_at hl 1 rfl) ?_
  refine g_geti hC hW (C := RX0) (T := TX0) (N := 16) (ci := 2) (k := 3) (index := 61) (i := b2) inGX0 rfl (by decide) fl_X0_61 (g_lt_air hb2) (g_sh_air hb2) rfl dX0_copyFrom_26 ?_
  obtain ⟨σ4, eσ4, ho⟩ := lt_ex ho
  refine g_puti hC hW (C := RX0) (T := TX0) (N := 16) (ci := 2) (k := 3) (index := 61) (i := b) inGX0 tyX0 tyX0_ok nmX0 rfl (by decide) fl_X0_61 rfl (g_lt_air hb) (g_sh_air hb) rfl rfl rfl dX0_copyFrom_29 (fun H locs hW => ?_)
  rw [← eσ4] at hW
  refine lv_aload_n hx hcd dX0_copyFrom_32 rfl (lv_at hl 0 rfl) ?_
  refine lv_aload_n hx hcd dX0_copyFrom_33 rfl (lv_at hl 1 rfl) ?_
  refine g_geti hC hW (C := RX0) (T := TX0) (N := 16) (ci := 2) (k := 4) (index := 64) (i := b2) inGX0 rfl (by decide) fl_X0_64 (g_lt_air hb2) (g_sh_air hb2) rfl dX0_copyFrom_34 ?_
  obtain ⟨σ5, eσ5, ho⟩ := lt_ex ho
  refine g_puti hC hW (C := RX0) (T := TX0) (N := 16) (ci := 2) (k := 4) (index := 64) (i := b) inGX0 tyX0 tyX0_ok nmX0 rfl (by decide) fl_X0_64 rfl (g_lt_air hb) (g_sh_air hb) rfl rfl rfl dX0_copyFrom_37 (fun H locs hW => ?_)
  rw [← eσ5] at hW
  refine lv_aload_n hx hcd dX0_copyFrom_40 rfl (lv_at hl 1 rfl) ?_
  refine g_getr hC hW (C := RX0) (T := TX0) (N := 16) (ci := 2) (k := 5) (index := 15) (i := b2) (r := (b2 + 1)) inGX0 rfl (by decide) fl_X0_15 (g_lt_air hb2) (g_sh_air hb2) rfl dX0_copyFrom_41 ?_
  refine lv_iconst (v := 0) hx hcd dX0_copyFrom_44 (by decide) ?_
  refine lv_aload_n hx hcd dX0_copyFrom_45 rfl (lv_at hl 0 rfl) ?_
  refine g_getr hC hW (C := RX0) (T := TX0) (N := 16) (ci := 2) (k := 5) (index := 15) (i := b) (r := (b + 1)) inGX0 rfl (by decide) fl_X0_15 (g_lt_air hb) (g_sh_air hb) rfl dX0_copyFrom_46 ?_
  refine lv_iconst (v := 0) hx hcd dX0_copyFrom_49 (by decide) ?_
  refine lv_bipush (v := 8) hx hcd dX0_copyFrom_50 (by decide) ?_
  obtain ⟨σ6, eσ6, ho⟩ := lt_ex ho
  refine g_copy hC hW hl.1 ml_X0_67 (i0 := (b2 + 1)) (i1 := (b + 1)) (n0 := 8) (n1 := 8) (g_lt_arr (j := 1) hb2 (by decide)) (g_lt_arr (j := 1) hb (by decide)) (g_sa1 hb2) (g_sa1 hb) (by decide +kernel) ac_w ⟨Nat.le_of_ble_eq_true rfl, Nat.le_of_ble_eq_true rfl⟩ dX0_copyFrom_52 (fun H locs hW => ?_)
  rw [← eσ6] at hW
  refine lv_aload_n hx hcd dX0_copyFrom_55 rfl (lv_at hl 1 rfl) ?_
  refine g_getr hC hW (C := RX0) (T := TX0) (N := 16) (ci := 2) (k := 6) (index := 19) (i := b2) (r := (b2 + 2)) inGX0 rfl (by decide) fl_X0_19 (g_lt_air hb2) (g_sh_air hb2) rfl dX0_copyFrom_56 ?_
  refine lv_iconst (v := 0) hx hcd dX0_copyFrom_59 (by decide) ?_
  refine lv_aload_n hx hcd dX0_copyFrom_60 rfl (lv_at hl 0 rfl) ?_
  refine g_getr hC hW (C := RX0) (T := TX0) (N := 16) (ci := 2) (k := 6) (index := 19) (i := b) (r := (b + 2)) inGX0 rfl (by decide) fl_X0_19 (g_lt_air hb) (g_sh_air hb) rfl dX0_copyFrom_61 ?_
  refine lv_iconst (v := 0) hx hcd dX0_copyFrom_64 (by decide) ?_
  refine lv_bipush (v := 8) hx hcd dX0_copyFrom_65 (by decide) ?_
  obtain ⟨σ7, eσ7, ho⟩ := lt_ex ho
  refine g_copy hC hW hl.1 ml_X0_67 (i0 := (b2 + 2)) (i1 := (b + 2)) (n0 := 8) (n1 := 8) (g_lt_arr (j := 2) hb2 (by decide)) (g_lt_arr (j := 2) hb (by decide)) (g_sa2 hb2) (g_sa2 hb) (by decide +kernel) ac_w ⟨Nat.le_of_ble_eq_true rfl, Nat.le_of_ble_eq_true rfl⟩ dX0_copyFrom_67 (fun H locs hW => ?_)
  rw [← eσ7] at hW
  refine lv_aload_n hx hcd dX0_copyFrom_70 rfl (lv_at hl 1 rfl) ?_
  refine g_getr hC hW (C := RX0) (T := TX0) (N := 16) (ci := 2) (k := 7) (index := 22) (i := b2) (r := (b2 + 3)) inGX0 rfl (by decide) fl_X0_22 (g_lt_air hb2) (g_sh_air hb2) rfl dX0_copyFrom_71 ?_
  refine lv_iconst (v := 0) hx hcd dX0_copyFrom_74 (by decide) ?_
  refine lv_aload_n hx hcd dX0_copyFrom_75 rfl (lv_at hl 0 rfl) ?_
  refine g_getr hC hW (C := RX0) (T := TX0) (N := 16) (ci := 2) (k := 7) (index := 22) (i := b) (r := (b + 3)) inGX0 rfl (by decide) fl_X0_22 (g_lt_air hb) (g_sh_air hb) rfl dX0_copyFrom_76 ?_
  refine lv_iconst (v := 0) hx hcd dX0_copyFrom_79 (by decide) ?_
  refine lv_bipush (v := 64) hx hcd dX0_copyFrom_80 (by decide) ?_
  obtain ⟨σ8, eσ8, ho⟩ := lt_ex ho
  refine g_copy hC hW hl.1 ml_X0_67 (i0 := (b2 + 3)) (i1 := (b + 3)) (n0 := 64) (n1 := 64) (g_lt_arr (j := 3) hb2 (by decide)) (g_lt_arr (j := 3) hb (by decide)) (g_sa3 hb2) (g_sa3 hb) (by decide +kernel) ac_w ⟨Nat.le_of_ble_eq_true rfl, Nat.le_of_ble_eq_true rfl⟩ dX0_copyFrom_82 (fun H locs hW => ?_)
  rw [← eσ8] at hW
  refine lv_aload_n hx hcd dX0_copyFrom_85 rfl (lv_at hl 1 rfl) ?_
  refine g_getr hC hW (C := RX0) (T := TX0) (N := 16) (ci := 2) (k := 8) (index := 25) (i := b2) (r := (b2 + 4)) inGX0 rfl (by decide) fl_X0_25 (g_lt_air hb2) (g_sh_air hb2) rfl dX0_copyFrom_86 ?_
  refine lv_iconst (v := 0) hx hcd dX0_copyFrom_89 (by decide) ?_
  refine lv_aload_n hx hcd dX0_copyFrom_90 rfl (lv_at hl 0 rfl) ?_
  refine g_getr hC hW (C := RX0) (T := TX0) (N := 16) (ci := 2) (k := 8) (index := 25) (i := b) (r := (b + 4)) inGX0 rfl (by decide) fl_X0_25 (g_lt_air hb) (g_sh_air hb) rfl dX0_copyFrom_91 ?_
  refine lv_iconst (v := 0) hx hcd dX0_copyFrom_94 (by decide) ?_
  refine lv_bipush (v := 10) hx hcd dX0_copyFrom_95 (by decide) ?_
  obtain ⟨σ9, eσ9, ho⟩ := lt_ex ho
  refine g_copy hC hW hl.1 ml_X0_67 (i0 := (b2 + 4)) (i1 := (b + 4)) (n0 := 10) (n1 := 10) (g_lt_arr (j := 4) hb2 (by decide)) (g_lt_arr (j := 4) hb (by decide)) (g_sa4 hb2) (g_sa4 hb) (by decide +kernel) ac_w ⟨Nat.le_of_ble_eq_true rfl, Nat.le_of_ble_eq_true rfl⟩ dX0_copyFrom_97 (fun H locs hW => ?_)
  rw [← eσ9] at hW
  refine lv_aload_n hx hcd dX0_copyFrom_100 rfl (lv_at hl 1 rfl) ?_
  refine g_getr hC hW (C := RX0) (T := TX0) (N := 16) (ci := 2) (k := 9) (index := 28) (i := b2) (r := (b2 + 5)) inGX0 rfl (by decide) fl_X0_28 (g_lt_air hb2) (g_sh_air hb2) rfl dX0_copyFrom_101 ?_
  refine lv_iconst (v := 0) hx hcd dX0_copyFrom_104 (by decide) ?_
  refine lv_aload_n hx hcd dX0_copyFrom_105 rfl (lv_at hl 0 rfl) ?_
  refine g_getr hC hW (C := RX0) (T := TX0) (N := 16) (ci := 2) (k := 9) (index := 28) (i := b) (r := (b + 5)) inGX0 rfl (by decide) fl_X0_28 (g_lt_air hb) (g_sh_air hb) rfl dX0_copyFrom_106 ?_
  refine lv_iconst (v := 0) hx hcd dX0_copyFrom_109 (by decide) ?_
  refine lv_bipush (v := 10) hx hcd dX0_copyFrom_110 (by decide) ?_
  obtain ⟨σ10, eσ10, ho⟩ := lt_ex ho
  refine g_copy hC hW hl.1 ml_X0_67 (i0 := (b2 + 5)) (i1 := (b + 5)) (n0 := 10) (n1 := 10) (g_lt_arr (j := 5) hb2 (by decide)) (g_lt_arr (j := 5) hb (by decide)) (g_sa5 hb2) (g_sa5 hb) (by decide +kernel) ac_w ⟨Nat.le_of_ble_eq_true rfl, Nat.le_of_ble_eq_true rfl⟩ dX0_copyFrom_112 (fun H locs hW => ?_)
  rw [← eσ10] at hW
  refine lv_aload_n hx hcd dX0_copyFrom_115 rfl (lv_at hl 1 rfl) ?_
  refine g_getr hC hW (C := RX0) (T := TX0) (N := 16) (ci := 2) (k := 10) (index := 31) (i := b2) (r := (b2 + 6)) inGX0 rfl (by decide) fl_X0_31 (g_lt_air hb2) (g_sh_air hb2) rfl dX0_copyFrom_116 ?_
  refine lv_iconst (v := 0) hx hcd dX0_copyFrom_119 (by decide) ?_
  refine lv_aload_n hx hcd dX0_copyFrom_120 rfl (lv_at hl 0 rfl) ?_
  refine g_getr hC hW (C := RX0) (T := TX0) (N := 16) (ci := 2) (k := 10) (index := 31) (i := b) (r := (b + 6)) inGX0 rfl (by decide) fl_X0_31 (g_lt_air hb) (g_sh_air hb) rfl dX0_copyFrom_121 ?_
  refine lv_iconst (v := 0) hx hcd dX0_copyFrom_124 (by decide) ?_
  refine lv_bipush (v := 10) hx hcd dX0_copyFrom_125 (by decide) ?_
  obtain ⟨σ11, eσ11, ho⟩ := lt_ex ho
  refine g_copy hC hW hl.1 ml_X0_67 (i0 := (b2 + 6)) (i1 := (b + 6)) (n0 := 10) (n1 := 10) (g_lt_arr (j := 6) hb2 (by decide)) (g_lt_arr (j := 6) hb (by decide)) (g_sa6 hb2) (g_sa6 hb) (by decide +kernel) ac_w ⟨Nat.le_of_ble_eq_true rfl, Nat.le_of_ble_eq_true rfl⟩ dX0_copyFrom_127 (fun H locs hW => ?_)
  rw [← eσ11] at hW
  refine lv_aload_n hx hcd dX0_copyFrom_130 rfl (lv_at hl 1 rfl) ?_
  refine g_getr hC hW (C := RX0) (T := TX0) (N := 16) (ci := 2) (k := 11) (index := 34) (i := b2) (r := (b2 + 7)) inGX0 rfl (by decide) fl_X0_34 (g_lt_air hb2) (g_sh_air hb2) rfl dX0_copyFrom_131 ?_
  refine lv_iconst (v := 0) hx hcd dX0_copyFrom_134 (by decide) ?_
  refine lv_aload_n hx hcd dX0_copyFrom_135 rfl (lv_at hl 0 rfl) ?_
  refine g_getr hC hW (C := RX0) (T := TX0) (N := 16) (ci := 2) (k := 11) (index := 34) (i := b) (r := (b + 7)) inGX0 rfl (by decide) fl_X0_34 (g_lt_air hb) (g_sh_air hb) rfl dX0_copyFrom_136 ?_
  refine lv_iconst (v := 0) hx hcd dX0_copyFrom_139 (by decide) ?_
  refine lv_bipush (v := 10) hx hcd dX0_copyFrom_140 (by decide) ?_
  obtain ⟨σ12, eσ12, ho⟩ := lt_ex ho
  refine g_copy hC hW hl.1 ml_X0_67 (i0 := (b2 + 7)) (i1 := (b + 7)) (n0 := 10) (n1 := 10) (g_lt_arr (j := 7) hb2 (by decide)) (g_lt_arr (j := 7) hb (by decide)) (g_sa7 hb2) (g_sa7 hb) (by decide +kernel) ac_w ⟨Nat.le_of_ble_eq_true rfl, Nat.le_of_ble_eq_true rfl⟩ dX0_copyFrom_142 (fun H locs hW => ?_)
  rw [← eσ12] at hW
  refine lv_aload_n hx hcd dX0_copyFrom_145 rfl (lv_at hl 1 rfl) ?_
  refine g_getr hC hW (C := RX0) (T := TX0) (N := 16) (ci := 2) (k := 12) (index := 37) (i := b2) (r := (b2 + 8)) inGX0 rfl (by decide) fl_X0_37 (g_lt_air hb2) (g_sh_air hb2) rfl dX0_copyFrom_146 ?_
  refine lv_iconst (v := 0) hx hcd dX0_copyFrom_149 (by decide) ?_
  refine lv_aload_n hx hcd dX0_copyFrom_150 rfl (lv_at hl 0 rfl) ?_
  refine g_getr hC hW (C := RX0) (T := TX0) (N := 16) (ci := 2) (k := 12) (index := 37) (i := b) (r := (b + 8)) inGX0 rfl (by decide) fl_X0_37 (g_lt_air hb) (g_sh_air hb) rfl dX0_copyFrom_151 ?_
  refine lv_iconst (v := 0) hx hcd dX0_copyFrom_154 (by decide) ?_
  refine lv_bipush (v := 10) hx hcd dX0_copyFrom_155 (by decide) ?_
  obtain ⟨σ13, eσ13, ho⟩ := lt_ex ho
  refine g_copy hC hW hl.1 ml_X0_67 (i0 := (b2 + 8)) (i1 := (b + 8)) (n0 := 10) (n1 := 10) (g_lt_arr (j := 8) hb2 (by decide)) (g_lt_arr (j := 8) hb (by decide)) (g_sa8 hb2) (g_sa8 hb) (by decide +kernel) ac_w ⟨Nat.le_of_ble_eq_true rfl, Nat.le_of_ble_eq_true rfl⟩ dX0_copyFrom_157 (fun H locs hW => ?_)
  rw [← eσ13] at hW
  refine lv_aload_n hx hcd dX0_copyFrom_160 rfl (lv_at hl 1 rfl) ?_
  refine g_getr hC hW (C := RX0) (T := TX0) (N := 16) (ci := 2) (k := 13) (index := 40) (i := b2) (r := (b2 + 9)) inGX0 rfl (by decide) fl_X0_40 (g_lt_air hb2) (g_sh_air hb2) rfl dX0_copyFrom_161 ?_
  refine lv_iconst (v := 0) hx hcd dX0_copyFrom_164 (by decide) ?_
  refine lv_aload_n hx hcd dX0_copyFrom_165 rfl (lv_at hl 0 rfl) ?_
  refine g_getr hC hW (C := RX0) (T := TX0) (N := 16) (ci := 2) (k := 13) (index := 40) (i := b) (r := (b + 9)) inGX0 rfl (by decide) fl_X0_40 (g_lt_air hb) (g_sh_air hb) rfl dX0_copyFrom_166 ?_
  refine lv_iconst (v := 0) hx hcd dX0_copyFrom_169 (by decide) ?_
  refine lv_bipush (v := 20) hx hcd dX0_copyFrom_170 (by decide) ?_
  obtain ⟨σ14, eσ14, ho⟩ := lt_ex ho
  refine g_copy hC hW hl.1 ml_X0_67 (i0 := (b2 + 9)) (i1 := (b + 9)) (n0 := 20) (n1 := 20) (g_lt_arr (j := 9) hb2 (by decide)) (g_lt_arr (j := 9) hb (by decide)) (g_sa9 hb2) (g_sa9 hb) (by decide +kernel) ac_w ⟨Nat.le_of_ble_eq_true rfl, Nat.le_of_ble_eq_true rfl⟩ dX0_copyFrom_172 (fun H locs hW => ?_)
  rw [← eσ14] at hW
  refine lv_aload_n hx hcd dX0_copyFrom_175 rfl (lv_at hl 1 rfl) ?_
  refine g_getr hC hW (C := RX0) (T := TX0) (N := 16) (ci := 2) (k := 14) (index := 43) (i := b2) (r := (b2 + 10)) inGX0 rfl (by decide) fl_X0_43 (g_lt_air hb2) (g_sh_air hb2) rfl dX0_copyFrom_176 ?_
  refine lv_iconst (v := 0) hx hcd dX0_copyFrom_179 (by decide) ?_
  refine lv_aload_n hx hcd dX0_copyFrom_180 rfl (lv_at hl 0 rfl) ?_
  refine g_getr hC hW (C := RX0) (T := TX0) (N := 16) (ci := 2) (k := 14) (index := 43) (i := b) (r := (b + 10)) inGX0 rfl (by decide) fl_X0_43 (g_lt_air hb) (g_sh_air hb) rfl dX0_copyFrom_181 ?_
  refine lv_iconst (v := 0) hx hcd dX0_copyFrom_184 (by decide) ?_
  refine lv_bipush (v := 20) hx hcd dX0_copyFrom_185 (by decide) ?_
  obtain ⟨σ15, eσ15, ho⟩ := lt_ex ho
  refine g_copy hC hW hl.1 ml_X0_67 (i0 := (b2 + 10)) (i1 := (b + 10)) (n0 := 20) (n1 := 20) (g_lt_arr (j := 10) hb2 (by decide)) (g_lt_arr (j := 10) hb (by decide)) (g_sa10 hb2) (g_sa10 hb) (by decide +kernel) ac_w ⟨Nat.le_of_ble_eq_true rfl, Nat.le_of_ble_eq_true rfl⟩ dX0_copyFrom_187 (fun H locs hW => ?_)
  rw [← eσ15] at hW
  refine lv_aload_n hx hcd dX0_copyFrom_190 rfl (lv_at hl 1 rfl) ?_
  refine g_getr hC hW (C := RX0) (T := TX0) (N := 16) (ci := 2) (k := 15) (index := 46) (i := b2) (r := (b2 + 11)) inGX0 rfl (by decide) fl_X0_46 (g_lt_air hb2) (g_sh_air hb2) rfl dX0_copyFrom_191 ?_
  refine lv_iconst (v := 0) hx hcd dX0_copyFrom_194 (by decide) ?_
  refine lv_aload_n hx hcd dX0_copyFrom_195 rfl (lv_at hl 0 rfl) ?_
  refine g_getr hC hW (C := RX0) (T := TX0) (N := 16) (ci := 2) (k := 15) (index := 46) (i := b) (r := (b + 11)) inGX0 rfl (by decide) fl_X0_46 (g_lt_air hb) (g_sh_air hb) rfl dX0_copyFrom_196 ?_
  refine lv_iconst (v := 0) hx hcd dX0_copyFrom_199 (by decide) ?_
  refine lv_bipush (v := 20) hx hcd dX0_copyFrom_200 (by decide) ?_
  obtain ⟨σ16, eσ16, ho⟩ := lt_ex ho
  refine g_copy hC hW hl.1 ml_X0_67 (i0 := (b2 + 11)) (i1 := (b + 11)) (n0 := 20) (n1 := 20) (g_lt_arr (j := 11) hb2 (by decide)) (g_lt_arr (j := 11) hb (by decide)) (g_sa11 hb2) (g_sa11 hb) (by decide +kernel) ac_w ⟨Nat.le_of_ble_eq_true rfl, Nat.le_of_ble_eq_true rfl⟩ dX0_copyFrom_202 (fun H locs hW => ?_)
  rw [← eσ16] at hW
  obtain rfl := Option.some.inj ho
  exact g_vret hC hr hlk hsz hW dX0_copyFrom_205
noncomputable def X0_hasStand (σ : gS) (b : Nat) (x1 : Int32) : Option (Int32) :=
  if x1 < 0 then (some 0) else (if (σ b 0) ≤ x1 then (some 0) else (if 8 ≤ x1 then (some 0) else (some 1)))
set_option maxHeartbeats 4000000 in
set_option maxRecDepth 100000 in
theorem c_X0_hasStand (l : Launch) (D : va_G) (y : ClassId × ClassId × ClassId) (ad : Nat → Nat) {b : Nat} (hb : g_air b) (x1 : Int32) (σ : gS) (sz : Nat) {q : Int32} (h : X0_hasStand σ b x1 = some q) : Met l yX0_hasStand (Cond.code yX0_hasStand cX0_hasStand 2 (some .boolean) :: gl) ({ frames := 0, cells := 0, slots := 0, locals := 0 }) (g_Pc D y ad σ sz [.ref (ad b), .int x1]) (g_Qi D y ad σ sz q) 0 0 (g_A ad sz) := by
  have ho := h
  unfold X0_hasStand at ho
  refine g_start (by decide) (Nat.le_of_ble_eq_true rfl) (fun p e s m below meth c ls hC hr hlk hsz hW hl => ?_)
  have hx := hC.1
  have hcd := hC.2.1
  have hl : lv_has ls 2 [(0, .ref (ad b)), (1, .int x1)] := hl
  refine lv_iload_n hx hcd dX0_hasStand_0 rfl (lv_at hl 1 rfl) ?_
  refine lv_if_lt (tgt := 22) hx hcd dX0_hasStand_1 (by decide) (fun c1 => ?_) (fun c1 => ?_)
  · have ho := gif_p ho c1
    refine lv_iconst (v := 0) hx hcd dX0_hasStand_22 (by decide) ?_
    obtain rfl := Option.some.inj ho
    exact g_zret (r := 0) hC hr hlk hsz hW (by decide) dX0_hasStand_23
  · have ho := gif_n ho c1
    refine lv_iload_n hx hcd dX0_hasStand_4 rfl (lv_at hl 1 rfl) ?_
    refine lv_aload_n hx hcd dX0_hasStand_5 rfl (lv_at hl 0 rfl) ?_
    refine g_geti hC hW (C := RX0) (T := TX0) (N := 16) (ci := 2) (k := 0) (index := 55) (i := b) inGX0 rfl (by decide) fl_X0_55 (g_lt_air hb) (g_sh_air hb) rfl dX0_hasStand_6 ?_
    refine lv_icmp_ge (tgt := 22) hx hcd dX0_hasStand_9 (by decide) (fun c2 => ?_) (fun c2 => ?_)
    · have ho := gif_p ho c2
      refine lv_iconst (v := 0) hx hcd dX0_hasStand_22 (by decide) ?_
      obtain rfl := Option.some.inj ho
      exact g_zret (r := 0) hC hr hlk hsz hW (by decide) dX0_hasStand_23
    · have ho := gif_n ho c2
      refine lv_iload_n hx hcd dX0_hasStand_12 rfl (lv_at hl 1 rfl) ?_
      refine lv_bipush (v := 8) hx hcd dX0_hasStand_13 (by decide) ?_
      refine lv_icmp_ge (tgt := 22) hx hcd dX0_hasStand_15 (by decide) (fun c3 => ?_) (fun c3 => ?_)
      · have ho := gif_p ho c3
        refine lv_iconst (v := 0) hx hcd dX0_hasStand_22 (by decide) ?_
        obtain rfl := Option.some.inj ho
        exact g_zret (r := 0) hC hr hlk hsz hW (by decide) dX0_hasStand_23
      · have ho := gif_n ho c3
        refine lv_iconst (v := 1) hx hcd dX0_hasStand_18 (by decide) ?_
        refine lv_goto (tgt := 23) hx hcd dX0_hasStand_19 (by decide) ?_
        obtain rfl := Option.some.inj ho
        exact g_zret (r := 1) hC hr hlk hsz hW (by decide) dX0_hasStand_23
noncomputable def X0_hasTurn (σ : gS) (b : Nat) (x1 : Int32) : Option (Int32) :=
  if x1 < 0 then (some 0) else (if (σ b 1) ≤ x1 then (some 0) else (if 10 ≤ x1 then (some 0) else (some 1)))
set_option maxHeartbeats 4000000 in
set_option maxRecDepth 100000 in
theorem c_X0_hasTurn (l : Launch) (D : va_G) (y : ClassId × ClassId × ClassId) (ad : Nat → Nat) {b : Nat} (hb : g_air b) (x1 : Int32) (σ : gS) (sz : Nat) {q : Int32} (h : X0_hasTurn σ b x1 = some q) : Met l yX0_hasTurn (Cond.code yX0_hasTurn cX0_hasTurn 2 (some .boolean) :: gl) ({ frames := 0, cells := 0, slots := 0, locals := 0 }) (g_Pc D y ad σ sz [.ref (ad b), .int x1]) (g_Qi D y ad σ sz q) 0 0 (g_A ad sz) := by
  have ho := h
  unfold X0_hasTurn at ho
  refine g_start (by decide) (Nat.le_of_ble_eq_true rfl) (fun p e s m below meth c ls hC hr hlk hsz hW hl => ?_)
  have hx := hC.1
  have hcd := hC.2.1
  have hl : lv_has ls 2 [(0, .ref (ad b)), (1, .int x1)] := hl
  refine lv_iload_n hx hcd dX0_hasTurn_0 rfl (lv_at hl 1 rfl) ?_
  refine lv_if_lt (tgt := 22) hx hcd dX0_hasTurn_1 (by decide) (fun c1 => ?_) (fun c1 => ?_)
  · have ho := gif_p ho c1
    refine lv_iconst (v := 0) hx hcd dX0_hasTurn_22 (by decide) ?_
    obtain rfl := Option.some.inj ho
    exact g_zret (r := 0) hC hr hlk hsz hW (by decide) dX0_hasTurn_23
  · have ho := gif_n ho c1
    refine lv_iload_n hx hcd dX0_hasTurn_4 rfl (lv_at hl 1 rfl) ?_
    refine lv_aload_n hx hcd dX0_hasTurn_5 rfl (lv_at hl 0 rfl) ?_
    refine g_geti hC hW (C := RX0) (T := TX0) (N := 16) (ci := 2) (k := 1) (index := 58) (i := b) inGX0 rfl (by decide) fl_X0_58 (g_lt_air hb) (g_sh_air hb) rfl dX0_hasTurn_6 ?_
    refine lv_icmp_ge (tgt := 22) hx hcd dX0_hasTurn_9 (by decide) (fun c2 => ?_) (fun c2 => ?_)
    · have ho := gif_p ho c2
      refine lv_iconst (v := 0) hx hcd dX0_hasTurn_22 (by decide) ?_
      obtain rfl := Option.some.inj ho
      exact g_zret (r := 0) hC hr hlk hsz hW (by decide) dX0_hasTurn_23
    · have ho := gif_n ho c2
      refine lv_iload_n hx hcd dX0_hasTurn_12 rfl (lv_at hl 1 rfl) ?_
      refine lv_bipush (v := 10) hx hcd dX0_hasTurn_13 (by decide) ?_
      refine lv_icmp_ge (tgt := 22) hx hcd dX0_hasTurn_15 (by decide) (fun c3 => ?_) (fun c3 => ?_)
      · have ho := gif_p ho c3
        refine lv_iconst (v := 0) hx hcd dX0_hasTurn_22 (by decide) ?_
        obtain rfl := Option.some.inj ho
        exact g_zret (r := 0) hC hr hlk hsz hW (by decide) dX0_hasTurn_23
      · have ho := gif_n ho c3
        refine lv_iconst (v := 1) hx hcd dX0_hasTurn_18 (by decide) ?_
        refine lv_goto (tgt := 23) hx hcd dX0_hasTurn_19 (by decide) ?_
        obtain rfl := Option.some.inj ho
        exact g_zret (r := 1) hC hr hlk hsz hW (by decide) dX0_hasTurn_23
noncomputable def X0_hasTow (σ : gS) (b : Nat) (x1 : Int32) : Option (Int32) :=
  gd (ib x1 10) <| if (σ (b + 8) x1.toNatClampNeg) < 0 then (some 0) else (some 1)
set_option maxHeartbeats 4000000 in
set_option maxRecDepth 100000 in
theorem c_X0_hasTow (l : Launch) (D : va_G) (y : ClassId × ClassId × ClassId) (ad : Nat → Nat) {b : Nat} (hb : g_air b) (x1 : Int32) (σ : gS) (sz : Nat) {q : Int32} (h : X0_hasTow σ b x1 = some q) : Met l yX0_hasTow (Cond.code yX0_hasTow cX0_hasTow 2 (some .boolean) :: gl) ({ frames := 0, cells := 0, slots := 0, locals := 0 }) (g_Pc D y ad σ sz [.ref (ad b), .int x1]) (g_Qi D y ad σ sz q) 0 0 (g_A ad sz) := by
  have ho := h
  unfold X0_hasTow at ho
  refine g_start (by decide) (Nat.le_of_ble_eq_true rfl) (fun p e s m below meth c ls hC hr hlk hsz hW hl => ?_)
  have hx := hC.1
  have hcd := hC.2.1
  have hl : lv_has ls 2 [(0, .ref (ad b)), (1, .int x1)] := hl
  refine lv_aload_n hx hcd dX0_hasTow_0 rfl (lv_at hl 0 rfl) ?_
  refine g_getr hC hW (C := RX0) (T := TX0) (N := 16) (ci := 2) (k := 12) (index := 37) (i := b) (r := (b + 8)) inGX0 rfl (by decide) fl_X0_37 (g_lt_air hb) (g_sh_air hb) rfl dX0_hasTow_1 ?_
  refine lv_iload_n hx hcd dX0_hasTow_4 rfl (lv_at hl 1 rfl) ?_
  obtain ⟨i1, ho⟩ := gd_some ho
  refine g_iald hC hW (i := (b + 8)) (g_lt_arr (j := 8) hb (by decide)) (g_sa8 hb) i1 dX0_hasTow_5 ?_
  refine lv_if_lt (tgt := 13) hx hcd dX0_hasTow_6 (by decide) (fun c2 => ?_) (fun c2 => ?_)
  · have ho := gif_p ho c2
    refine lv_iconst (v := 0) hx hcd dX0_hasTow_13 (by decide) ?_
    obtain rfl := Option.some.inj ho
    exact g_zret (r := 0) hC hr hlk hsz hW (by decide) dX0_hasTow_14
  · have ho := gif_n ho c2
    refine lv_iconst (v := 1) hx hcd dX0_hasTow_9 (by decide) ?_
    refine lv_goto (tgt := 14) hx hcd dX0_hasTow_10 (by decide) ?_
    obtain rfl := Option.some.inj ho
    exact g_zret (r := 1) hC hr hlk hsz hW (by decide) dX0_hasTow_14
noncomputable def X0_hasStay (σ : gS) (b : Nat) (x1 : Int32) (x2 : Int32) : Option (Int32) :=
  (X0_hasTurn σ b x1).bind fun r2 => if r2 = 0 then (some 0) else (if x2 = 0 then (some 1) else (if x2 = 1 then ((X0_hasTow σ b x1).bind fun r7 => if r7 = 0 then (some 0) else (some 1)) else (some 0)))
set_option maxHeartbeats 4000000 in
set_option maxRecDepth 100000 in
theorem c_X0_hasStay (l : Launch) (D : va_G) (y : ClassId × ClassId × ClassId) (ad : Nat → Nat) {b : Nat} (hb : g_air b) (x1 : Int32) (x2 : Int32) (σ : gS) (sz : Nat) {q : Int32} (h : X0_hasStay σ b x1 x2 = some q) : Met l yX0_hasStay (Cond.code yX0_hasStay cX0_hasStay 3 (some .boolean) :: gl) ({ frames := 1, cells := 0, slots := 0, locals := 21 }) (g_Pc D y ad σ sz [.ref (ad b), .int x1, .int x2]) (g_Qi D y ad σ sz q) 0 0 (g_A ad sz) := by
  have ho := h
  unfold X0_hasStay at ho
  refine g_start (by decide) (Nat.le_of_ble_eq_true rfl) (fun p e s m below meth c ls hC hr hlk hsz hW hl => ?_)
  have hx := hC.1
  have hcd := hC.2.1
  have hl : lv_has ls 3 [(0, .ref (ad b)), (1, .int x1), (2, .int x2)] := hl
  refine lv_aload_n hx hcd dX0_hasStay_0 rfl (lv_at hl 0 rfl) ?_
  refine lv_iload_n hx hcd dX0_hasStay_1 rfl (lv_at hl 1 rfl) ?_
  obtain ⟨r2, h1, ho⟩ := gb_some ho
  refine g_calli hW (g_runV (As := [.int x1]) (rest := []) (i := b) hC hW (c_X0_hasTurn l D y ad hb x1 _ _ h1) ok_X0_73 ⟨rfl, rfl, Nat.le_of_ble_eq_true rfl, Nat.le_of_ble_eq_true rfl⟩ (g_lt_air hb) (g_sh_air hb) rfl rfl rfl hl.1 rfl (Nat.le_of_ble_eq_true rfl) dX0_hasStay_2 ⟨Nat.zero_le _, Nat.zero_le _⟩) (fun H locs hW => ?_)
  refine lv_if_eq (tgt := 29) hx hcd dX0_hasStay_5 (by decide) (fun c3 => ?_) (fun c3 => ?_)
  · have ho := gif_p ho c3
    refine lv_iconst (v := 0) hx hcd dX0_hasStay_29 (by decide) ?_
    obtain rfl := Option.some.inj ho
    exact g_zret (r := 0) hC hr hlk hsz hW (by decide) dX0_hasStay_30
  · have ho := gif_n ho c3
    refine lv_iload_n hx hcd dX0_hasStay_8 rfl (lv_at hl 2 rfl) ?_
    refine lv_if_eq (tgt := 25) hx hcd dX0_hasStay_9 (by decide) (fun c4 => ?_) (fun c4 => ?_)
    · have ho := gif_p ho c4
      refine lv_iconst (v := 1) hx hcd dX0_hasStay_25 (by decide) ?_
      refine lv_goto (tgt := 30) hx hcd dX0_hasStay_26 (by decide) ?_
      obtain rfl := Option.some.inj ho
      exact g_zret (r := 1) hC hr hlk hsz hW (by decide) dX0_hasStay_30
    · have ho := gif_n ho c4
      refine lv_iload_n hx hcd dX0_hasStay_12 rfl (lv_at hl 2 rfl) ?_
      refine lv_iconst (v := 1) hx hcd dX0_hasStay_13 (by decide) ?_
      refine lv_icmp_ne (tgt := 29) hx hcd dX0_hasStay_14 (by decide) (fun c5 => ?_) (fun c5 => ?_)
      · have ho := gif_n ho c5
        refine lv_iconst (v := 0) hx hcd dX0_hasStay_29 (by decide) ?_
        obtain rfl := Option.some.inj ho
        exact g_zret (r := 0) hC hr hlk hsz hW (by decide) dX0_hasStay_30
      · have ho := gif_p ho c5
        refine lv_aload_n hx hcd dX0_hasStay_17 rfl (lv_at hl 0 rfl) ?_
        refine lv_iload_n hx hcd dX0_hasStay_18 rfl (lv_at hl 1 rfl) ?_
        obtain ⟨r7, h6, ho⟩ := gb_some ho
        refine g_calli hW (g_runV (As := [.int x1]) (rest := []) (i := b) hC hW (c_X0_hasTow l D y ad hb x1 _ _ h6) ok_X0_77 ⟨rfl, rfl, Nat.le_of_ble_eq_true rfl, Nat.le_of_ble_eq_true rfl⟩ (g_lt_air hb) (g_sh_air hb) rfl rfl rfl hl.1 rfl (Nat.le_of_ble_eq_true rfl) dX0_hasStay_19 ⟨Nat.zero_le _, Nat.zero_le _⟩) (fun H locs hW => ?_)
        refine lv_if_eq (tgt := 29) hx hcd dX0_hasStay_22 (by decide) (fun c8 => ?_) (fun c8 => ?_)
        · have ho := gif_p ho c8
          refine lv_iconst (v := 0) hx hcd dX0_hasStay_29 (by decide) ?_
          obtain rfl := Option.some.inj ho
          exact g_zret (r := 0) hC hr hlk hsz hW (by decide) dX0_hasStay_30
        · have ho := gif_n ho c8
          refine lv_iconst (v := 1) hx hcd dX0_hasStay_25 (by decide) ?_
          refine lv_goto (tgt := 30) hx hcd dX0_hasStay_26 (by decide) ?_
          obtain rfl := Option.some.inj ho
          exact g_zret (r := 1) hC hr hlk hsz hW (by decide) dX0_hasStay_30
noncomputable def X0_isOnStand (σ : gS) (b : Nat) (x1 : Int32) : Option (Int32) :=
  gd (ib x1 20) <| if (σ (b + 11) x1.toNatClampNeg) < 0 then (some 0) else (some 1)
set_option maxHeartbeats 4000000 in
set_option maxRecDepth 100000 in
theorem c_X0_isOnStand (l : Launch) (D : va_G) (y : ClassId × ClassId × ClassId) (ad : Nat → Nat) {b : Nat} (hb : g_air b) (x1 : Int32) (σ : gS) (sz : Nat) {q : Int32} (h : X0_isOnStand σ b x1 = some q) : Met l yX0_isOnStand (Cond.code yX0_isOnStand cX0_isOnStand 2 (some .boolean) :: gl) ({ frames := 0, cells := 0, slots := 0, locals := 0 }) (g_Pc D y ad σ sz [.ref (ad b), .int x1]) (g_Qi D y ad σ sz q) 0 0 (g_A ad sz) := by
  have ho := h
  unfold X0_isOnStand at ho
  refine g_start (by decide) (Nat.le_of_ble_eq_true rfl) (fun p e s m below meth c ls hC hr hlk hsz hW hl => ?_)
  have hx := hC.1
  have hcd := hC.2.1
  have hl : lv_has ls 2 [(0, .ref (ad b)), (1, .int x1)] := hl
  refine lv_aload_n hx hcd dX0_isOnStand_0 rfl (lv_at hl 0 rfl) ?_
  refine g_getr hC hW (C := RX0) (T := TX0) (N := 16) (ci := 2) (k := 15) (index := 46) (i := b) (r := (b + 11)) inGX0 rfl (by decide) fl_X0_46 (g_lt_air hb) (g_sh_air hb) rfl dX0_isOnStand_1 ?_
  refine lv_iload_n hx hcd dX0_isOnStand_4 rfl (lv_at hl 1 rfl) ?_
  obtain ⟨i1, ho⟩ := gd_some ho
  refine g_iald hC hW (i := (b + 11)) (g_lt_arr (j := 11) hb (by decide)) (g_sa11 hb) i1 dX0_isOnStand_5 ?_
  refine lv_if_lt (tgt := 13) hx hcd dX0_isOnStand_6 (by decide) (fun c2 => ?_) (fun c2 => ?_)
  · have ho := gif_p ho c2
    refine lv_iconst (v := 0) hx hcd dX0_isOnStand_13 (by decide) ?_
    obtain rfl := Option.some.inj ho
    exact g_zret (r := 0) hC hr hlk hsz hW (by decide) dX0_isOnStand_14
  · have ho := gif_n ho c2
    refine lv_iconst (v := 1) hx hcd dX0_isOnStand_9 (by decide) ?_
    refine lv_goto (tgt := 14) hx hcd dX0_isOnStand_10 (by decide) ?_
    obtain rfl := Option.some.inj ho
    exact g_zret (r := 1) hC hr hlk hsz hW (by decide) dX0_isOnStand_14
noncomputable def X0_newStand_k0 (σ : gS) (b : Nat) (x3 : Int32) (x4 : Int32) : Option ((Int32 × Int32 × gS) ⊕ (Int32 × gS)) :=
  if 8 ≤ x4 then (lt_ (g_up σ b 0 (x3 + (1 : Int32))) fun σ6 => some (.inr (x3, σ6))) else (gd (ib ((x3 * (8 : Int32)) + x4) 64) <| lt_ (g_up σ (b + 3) ((x3 * (8 : Int32)) + x4).toNatClampNeg (-1)) fun σ8 => gd (ib ((x4 * (8 : Int32)) + x3) 64) <| lt_ (g_up σ8 (b + 3) ((x4 * (8 : Int32)) + x3).toNatClampNeg (-1)) fun σ10 => some (.inl (x3, (x4 + 1), σ10)))
noncomputable def X0_newStand_s (b : Nat) (a : Int32 × Int32 × gS) : Option ((Int32 × Int32 × gS) ⊕ (Int32 × gS)) :=
  X0_newStand_k0 a.2.2 b a.1 a.2.1
noncomputable def X0_newStand (σ : gS) (b : Nat) (x1 : Int32) (x2 : Int32) : Option (Int32 × gS) :=
  gd (ib (σ b 0) 8) <| lt_ (g_up σ (b + 1) (σ b 0).toNatClampNeg x1) fun σ2 => lt_ (g_up σ2 (b + 2) (σ b 0).toNatClampNeg x2) fun σ3 => lt_ (g_up σ3 b 4 ((σ3 b 4) ||| ((1 : Int32) <<< ((σ b 0) &&& 31)))) fun σ4 => gr (X0_newStand_s b) ((σ b 0), 0, σ4)
set_option maxHeartbeats 4000000 in
set_option maxRecDepth 100000 in
theorem l_X0_newStand {p : Program} {e : Env} {s : State} {m : MethodId} {args : Array Value} {below : List Frame} {meth : Method} {c : Code} (l : Launch) (D : va_G) (y : ClassId × ClassId × ClassId) (ad : Nat → Nat) {b : Nat} (hb : g_air b) (sz : Nat) (hC : g_C p s m args c cX0_newStand 5 RX0 D y) (hr : meth.sig.returnType = (some .int)) (hlk : meth.locks = false) (hsz : s.heap.size = sz) {r0 : Int32 × gS} : ∀ a : Int32 × Int32 × gS, gr (X0_newStand_s b) a = some r0 → ∀ (H : Heap) (locs : List Loc) (ls : Array Slot), g_W (g_A ad sz) s.heap D y ad [] a.2.2 H locs → lv_has ls 5 [(0, .ref (ad b)), (3, .int a.1), (4, .int a.2.1)] → W p l e ({ frames := 0, cells := 0, slots := 0, locals := 0 }) s m args below meth c H locs 0 0 (MQ below (g_Qi D y ad r0.2 sz r0.1) args s 0 0 (g_A ad sz)) (F0 m 34 ls []) := by
  have hx := hC.1
  have hcd := hC.2.1
  refine gr_all (fun a o ho hret hjmp => ?_)
  obtain ⟨x3, x4, σ⟩ := a
  intro H locs ls hW hl
  have ho : X0_newStand_k0 σ b x3 x4 = some o := ho
  unfold X0_newStand_k0 at ho
  refine lv_iload hx hcd dX0_newStand_34 (lv_at hl 2 rfl) ?_
  refine lv_bipush (v := 8) hx hcd dX0_newStand_36 (by decide) ?_
  refine lv_icmp_ge (tgt := 73) hx hcd dX0_newStand_38 (by decide) (fun c5 => ?_) (fun c5 => ?_)
  · have ho := gif_p ho c5
    refine lv_aload_n hx hcd dX0_newStand_73 rfl (lv_at hl 0 rfl) ?_
    refine lv_iload_n hx hcd dX0_newStand_74 rfl (lv_at hl 1 rfl) ?_
    refine lv_iconst (v := 1) hx hcd dX0_newStand_75 (by decide) ?_
    refine lv_iadd hx hcd dX0_newStand_76 ?_
    obtain ⟨σ6, eσ6, ho⟩ := lt_ex ho
    refine g_puti hC hW (C := RX0) (T := TX0) (N := 16) (ci := 2) (k := 0) (index := 55) (i := b) inGX0 tyX0 tyX0_ok nmX0 rfl (by decide) fl_X0_55 rfl (g_lt_air hb) (g_sh_air hb) rfl rfl rfl dX0_newStand_77 (fun H locs hW => ?_)
    rw [← eσ6] at hW
    refine lv_iload_n hx hcd dX0_newStand_80 rfl (lv_at hl 1 rfl) ?_
    obtain rfl := hret _ (Option.some.inj ho).symm
    exact g_iret hC hr hlk hsz hW dX0_newStand_81
  · have ho := gif_n ho c5
    refine lv_aload_n hx hcd dX0_newStand_41 rfl (lv_at hl 0 rfl) ?_
    refine g_getr hC hW (C := RX0) (T := TX0) (N := 16) (ci := 2) (k := 7) (index := 22) (i := b) (r := (b + 3)) inGX0 rfl (by decide) fl_X0_22 (g_lt_air hb) (g_sh_air hb) rfl dX0_newStand_42 ?_
    refine lv_iload_n hx hcd dX0_newStand_45 rfl (lv_at hl 1 rfl) ?_
    refine lv_bipush (v := 8) hx hcd dX0_newStand_46 (by decide) ?_
    refine lv_imul hx hcd dX0_newStand_48 ?_
    refine lv_iload hx hcd dX0_newStand_49 (lv_at hl 2 rfl) ?_
    refine lv_iadd hx hcd dX0_newStand_51 ?_
    refine lv_iconst (v := (-1)) hx hcd dX0_newStand_52 (by decide) ?_
    obtain ⟨i7, ho⟩ := gd_some ho
    obtain ⟨σ8, eσ8, ho⟩ := lt_ex ho
    refine g_iast hC hW (i := (b + 3)) (g_lt_arr (j := 3) hb (by decide)) (g_sa3 hb) i7 dX0_newStand_53 (fun H locs hW => ?_)
    rw [← eσ8] at hW
    refine lv_aload_n hx hcd dX0_newStand_54 rfl (lv_at hl 0 rfl) ?_
    refine g_getr hC hW (C := RX0) (T := TX0) (N := 16) (ci := 2) (k := 7) (index := 22) (i := b) (r := (b + 3)) inGX0 rfl (by decide) fl_X0_22 (g_lt_air hb) (g_sh_air hb) rfl dX0_newStand_55 ?_
    refine lv_iload hx hcd dX0_newStand_58 (lv_at hl 2 rfl) ?_
    refine lv_bipush (v := 8) hx hcd dX0_newStand_60 (by decide) ?_
    refine lv_imul hx hcd dX0_newStand_62 ?_
    refine lv_iload_n hx hcd dX0_newStand_63 rfl (lv_at hl 1 rfl) ?_
    refine lv_iadd hx hcd dX0_newStand_64 ?_
    refine lv_iconst (v := (-1)) hx hcd dX0_newStand_65 (by decide) ?_
    obtain ⟨i9, ho⟩ := gd_some ho
    obtain ⟨σ10, eσ10, ho⟩ := lt_ex ho
    refine g_iast hC hW (i := (b + 3)) (g_lt_arr (j := 3) hb (by decide)) (g_sa3 hb) i9 dX0_newStand_66 (fun H locs hW => ?_)
    rw [← eσ10] at hW
    refine lv_iinc (v := x4 + 1) (lv' := [(4, .int (x4 + 1)), (0, .ref (ad b)), (3, .int x3)]) hx hcd dX0_newStand_67 hl (k := 2) rfl rfl (by decide) rfl (fun ls hl => ?_)
    refine lv_goto (tgt := 34) hx hcd dX0_newStand_70 (by decide) ?_
    exact hjmp _ (Option.some.inj ho).symm _ _ _ hW (lv_sub hl [1, 2, 0] rfl)
set_option maxHeartbeats 4000000 in
set_option maxRecDepth 100000 in
theorem c_X0_newStand (l : Launch) (D : va_G) (y : ClassId × ClassId × ClassId) (ad : Nat → Nat) {b : Nat} (hb : g_air b) (x1 : Int32) (x2 : Int32) (σ : gS) (sz : Nat) {q : Int32 × gS} (h : X0_newStand σ b x1 x2 = some q) : Met l yX0_newStand (Cond.code yX0_newStand cX0_newStand 5 (some .int) :: gl) ({ frames := 0, cells := 0, slots := 0, locals := 0 }) (g_Pc D y ad σ sz [.ref (ad b), .int x1, .int x2]) (g_Qi D y ad q.2 sz q.1) 0 0 (g_A ad sz) := by
  have ho := h
  unfold X0_newStand at ho
  refine g_start (by decide) (Nat.le_of_ble_eq_true rfl) (fun p e s m below meth c ls hC hr hlk hsz hW hl => ?_)
  have hx := hC.1
  have hcd := hC.2.1
  have hl : lv_has ls 5 [(0, .ref (ad b)), (1, .int x1), (2, .int x2)] := hl
  refine lv_aload_n hx hcd dX0_newStand_0 rfl (lv_at hl 0 rfl) ?_
  refine g_geti hC hW (C := RX0) (T := TX0) (N := 16) (ci := 2) (k := 0) (index := 55) (i := b) inGX0 rfl (by decide) fl_X0_55 (g_lt_air hb) (g_sh_air hb) rfl dX0_newStand_1 ?_
  refine lv_istore_n (lv' := [(3, .int (σ b 0)), (0, .ref (ad b)), (1, .int x1), (2, .int x2)]) hx hcd dX0_newStand_4 rfl hl (by decide) rfl (fun ls hl => ?_)
  refine lv_aload_n hx hcd dX0_newStand_5 rfl (lv_at hl 1 rfl) ?_
  refine g_getr hC hW (C := RX0) (T := TX0) (N := 16) (ci := 2) (k := 5) (index := 15) (i := b) (r := (b + 1)) inGX0 rfl (by decide) fl_X0_15 (g_lt_air hb) (g_sh_air hb) rfl dX0_newStand_6 ?_
  refine lv_iload_n hx hcd dX0_newStand_9 rfl (lv_at hl 0 rfl) ?_
  refine lv_iload_n hx hcd dX0_newStand_10 rfl (lv_at hl 2 rfl) ?_
  obtain ⟨i1, ho⟩ := gd_some ho
  obtain ⟨σ2, eσ2, ho⟩ := lt_ex ho
  refine g_iast hC hW (i := (b + 1)) (g_lt_arr (j := 1) hb (by decide)) (g_sa1 hb) i1 dX0_newStand_11 (fun H locs hW => ?_)
  rw [← eσ2] at hW
  refine lv_aload_n hx hcd dX0_newStand_12 rfl (lv_at hl 1 rfl) ?_
  refine g_getr hC hW (C := RX0) (T := TX0) (N := 16) (ci := 2) (k := 6) (index := 19) (i := b) (r := (b + 2)) inGX0 rfl (by decide) fl_X0_19 (g_lt_air hb) (g_sh_air hb) rfl dX0_newStand_13 ?_
  refine lv_iload_n hx hcd dX0_newStand_16 rfl (lv_at hl 0 rfl) ?_
  refine lv_iload_n hx hcd dX0_newStand_17 rfl (lv_at hl 3 rfl) ?_
  obtain ⟨σ3, eσ3, ho⟩ := lt_ex ho
  refine g_iast hC hW (i := (b + 2)) (g_lt_arr (j := 2) hb (by decide)) (g_sa2 hb) i1 dX0_newStand_18 (fun H locs hW => ?_)
  rw [← eσ3] at hW
  refine lv_aload_n hx hcd dX0_newStand_19 rfl (lv_at hl 1 rfl) ?_
  refine lv_dup hx hcd dX0_newStand_20 rfl ?_
  refine g_geti hC hW (C := RX0) (T := TX0) (N := 16) (ci := 2) (k := 4) (index := 64) (i := b) inGX0 rfl (by decide) fl_X0_64 (g_lt_air hb) (g_sh_air hb) rfl dX0_newStand_21 ?_
  refine lv_iconst (v := 1) hx hcd dX0_newStand_24 (by decide) ?_
  refine lv_iload_n hx hcd dX0_newStand_25 rfl (lv_at hl 0 rfl) ?_
  refine lv_ishl hx hcd dX0_newStand_26 ?_
  refine lv_ior hx hcd dX0_newStand_27 ?_
  obtain ⟨σ4, eσ4, ho⟩ := lt_ex ho
  refine g_puti hC hW (C := RX0) (T := TX0) (N := 16) (ci := 2) (k := 4) (index := 64) (i := b) inGX0 tyX0 tyX0_ok nmX0 rfl (by decide) fl_X0_64 rfl (g_lt_air hb) (g_sh_air hb) rfl rfl rfl dX0_newStand_28 (fun H locs hW => ?_)
  rw [← eσ4] at hW
  refine lv_iconst (v := 0) hx hcd dX0_newStand_31 (by decide) ?_
  refine lv_istore (lv' := [(4, .int 0), (3, .int (σ b 0)), (0, .ref (ad b)), (1, .int x1), (2, .int x2)]) hx hcd dX0_newStand_32 hl (by decide) rfl (fun ls hl => ?_)
  exact l_X0_newStand l D y ad hb sz hC hr hlk hsz _ ho _ _ _ hW (lv_sub hl [2, 1, 0] rfl)
noncomputable def X0_isOpened (σ : gS) (b : Nat) (x1 : Int32) : Option (Int32) :=
  if (((σ b 4) >>> (x1 &&& 31)) &&& (1 : Int32)) = 0 then (some 0) else (some 1)
set_option maxHeartbeats 4000000 in
set_option maxRecDepth 100000 in
theorem c_X0_isOpened (l : Launch) (D : va_G) (y : ClassId × ClassId × ClassId) (ad : Nat → Nat) {b : Nat} (hb : g_air b) (x1 : Int32) (σ : gS) (sz : Nat) {q : Int32} (h : X0_isOpened σ b x1 = some q) : Met l yX0_isOpened (Cond.code yX0_isOpened cX0_isOpened 2 (some .boolean) :: gl) ({ frames := 0, cells := 0, slots := 0, locals := 0 }) (g_Pc D y ad σ sz [.ref (ad b), .int x1]) (g_Qi D y ad σ sz q) 0 0 (g_A ad sz) := by
  have ho := h
  unfold X0_isOpened at ho
  refine g_start (by decide) (Nat.le_of_ble_eq_true rfl) (fun p e s m below meth c ls hC hr hlk hsz hW hl => ?_)
  have hx := hC.1
  have hcd := hC.2.1
  have hl : lv_has ls 2 [(0, .ref (ad b)), (1, .int x1)] := hl
  refine lv_aload_n hx hcd dX0_isOpened_0 rfl (lv_at hl 0 rfl) ?_
  refine g_geti hC hW (C := RX0) (T := TX0) (N := 16) (ci := 2) (k := 4) (index := 64) (i := b) inGX0 rfl (by decide) fl_X0_64 (g_lt_air hb) (g_sh_air hb) rfl dX0_isOpened_1 ?_
  refine lv_iload_n hx hcd dX0_isOpened_4 rfl (lv_at hl 1 rfl) ?_
  refine lv_ishr hx hcd dX0_isOpened_5 ?_
  refine lv_iconst (v := 1) hx hcd dX0_isOpened_6 (by decide) ?_
  refine lv_iand hx hcd dX0_isOpened_7 ?_
  refine lv_if_eq (tgt := 15) hx hcd dX0_isOpened_8 (by decide) (fun c1 => ?_) (fun c1 => ?_)
  · have ho := gif_p ho c1
    refine lv_iconst (v := 0) hx hcd dX0_isOpened_15 (by decide) ?_
    obtain rfl := Option.some.inj ho
    exact g_zret (r := 0) hC hr hlk hsz hW (by decide) dX0_isOpened_16
  · have ho := gif_n ho c1
    refine lv_iconst (v := 1) hx hcd dX0_isOpened_11 (by decide) ?_
    refine lv_goto (tgt := 16) hx hcd dX0_isOpened_12 (by decide) ?_
    obtain rfl := Option.some.inj ho
    exact g_zret (r := 1) hC hr hlk hsz hW (by decide) dX0_isOpened_16
noncomputable def X0_changeOpen (σ : gS) (b : Nat) (x1 : Int32) (x2 : Int32) : Option (Int32 × gS) :=
  (X0_isOpened σ b x1).bind fun r2 => if x2 = 0 then (lt_ (g_up σ b 4 ((σ b 4) &&& (((1 : Int32) <<< (x1 &&& 31)) ^^^ (-1 : Int32)))) fun σ4 => gd (bz r2) <| some (r2, σ4)) else (lt_ (g_up σ b 4 ((σ b 4) ||| ((1 : Int32) <<< (x1 &&& 31)))) fun σ6 => gd (bz r2) <| some (r2, σ6))
set_option maxHeartbeats 4000000 in
set_option maxRecDepth 100000 in
theorem c_X0_changeOpen (l : Launch) (D : va_G) (y : ClassId × ClassId × ClassId) (ad : Nat → Nat) {b : Nat} (hb : g_air b) (x1 : Int32) (x2 : Int32) (σ : gS) (sz : Nat) {q : Int32 × gS} (h : X0_changeOpen σ b x1 x2 = some q) : Met l yX0_changeOpen (Cond.code yX0_changeOpen cX0_changeOpen 4 (some .boolean) :: gl) ({ frames := 1, cells := 0, slots := 0, locals := 21 }) (g_Pc D y ad σ sz [.ref (ad b), .int x1, .int x2]) (g_Qi D y ad q.2 sz q.1) 0 0 (g_A ad sz) := by
  have ho := h
  unfold X0_changeOpen at ho
  refine g_start (by decide) (Nat.le_of_ble_eq_true rfl) (fun p e s m below meth c ls hC hr hlk hsz hW hl => ?_)
  have hx := hC.1
  have hcd := hC.2.1
  have hl : lv_has ls 4 [(0, .ref (ad b)), (1, .int x1), (2, .int x2)] := hl
  refine lv_aload_n hx hcd dX0_changeOpen_0 rfl (lv_at hl 0 rfl) ?_
  refine lv_iload_n hx hcd dX0_changeOpen_1 rfl (lv_at hl 1 rfl) ?_
  obtain ⟨r2, h1, ho⟩ := gb_some ho
  refine g_calli hW (g_runV (As := [.int x1]) (rest := []) (i := b) hC hW (c_X0_isOpened l D y ad hb x1 _ _ h1) ok_X0_80 ⟨rfl, rfl, Nat.le_of_ble_eq_true rfl, Nat.le_of_ble_eq_true rfl⟩ (g_lt_air hb) (g_sh_air hb) rfl rfl rfl hl.1 rfl (Nat.le_of_ble_eq_true rfl) dX0_changeOpen_2 ⟨Nat.zero_le _, Nat.zero_le _⟩) (fun H locs hW => ?_)
  refine lv_istore_n (lv' := [(3, .int r2), (0, .ref (ad b)), (1, .int x1), (2, .int x2)]) hx hcd dX0_changeOpen_5 rfl hl (by decide) rfl (fun ls hl => ?_)
  refine lv_aload_n hx hcd dX0_changeOpen_6 rfl (lv_at hl 1 rfl) ?_
  refine lv_iload_n hx hcd dX0_changeOpen_7 rfl (lv_at hl 3 rfl) ?_
  refine lv_if_eq (tgt := 22) hx hcd dX0_changeOpen_8 (by decide) (fun c3 => ?_) (fun c3 => ?_)
  · have ho := gif_p ho c3
    refine lv_aload_n hx hcd dX0_changeOpen_22 rfl (lv_at hl 1 rfl) ?_
    refine g_geti hC hW (C := RX0) (T := TX0) (N := 16) (ci := 2) (k := 4) (index := 64) (i := b) inGX0 rfl (by decide) fl_X0_64 (g_lt_air hb) (g_sh_air hb) rfl dX0_changeOpen_23 ?_
    refine lv_iconst (v := 1) hx hcd dX0_changeOpen_26 (by decide) ?_
    refine lv_iload_n hx hcd dX0_changeOpen_27 rfl (lv_at hl 2 rfl) ?_
    refine lv_ishl hx hcd dX0_changeOpen_28 ?_
    refine lv_iconst (v := (-1)) hx hcd dX0_changeOpen_29 (by decide) ?_
    refine lv_ixor hx hcd dX0_changeOpen_30 ?_
    refine lv_iand hx hcd dX0_changeOpen_31 ?_
    obtain ⟨σ4, eσ4, ho⟩ := lt_ex ho
    refine g_puti hC hW (C := RX0) (T := TX0) (N := 16) (ci := 2) (k := 4) (index := 64) (i := b) inGX0 tyX0 tyX0_ok nmX0 rfl (by decide) fl_X0_64 rfl (g_lt_air hb) (g_sh_air hb) rfl rfl rfl dX0_changeOpen_32 (fun H locs hW => ?_)
    rw [← eσ4] at hW
    refine lv_iload_n hx hcd dX0_changeOpen_35 rfl (lv_at hl 0 rfl) ?_
    obtain ⟨z5, ho⟩ := gd_some ho
    obtain rfl := Option.some.inj ho
    exact g_zret (r := r2) hC hr hlk hsz hW z5 dX0_changeOpen_36
  · have ho := gif_n ho c3
    refine lv_aload_n hx hcd dX0_changeOpen_11 rfl (lv_at hl 1 rfl) ?_
    refine g_geti hC hW (C := RX0) (T := TX0) (N := 16) (ci := 2) (k := 4) (index := 64) (i := b) inGX0 rfl (by decide) fl_X0_64 (g_lt_air hb) (g_sh_air hb) rfl dX0_changeOpen_12 ?_
    refine lv_iconst (v := 1) hx hcd dX0_changeOpen_15 (by decide) ?_
    refine lv_iload_n hx hcd dX0_changeOpen_16 rfl (lv_at hl 2 rfl) ?_
    refine lv_ishl hx hcd dX0_changeOpen_17 ?_
    refine lv_ior hx hcd dX0_changeOpen_18 ?_
    refine lv_goto (tgt := 32) hx hcd dX0_changeOpen_19 (by decide) ?_
    obtain ⟨σ6, eσ6, ho⟩ := lt_ex ho
    refine g_puti hC hW (C := RX0) (T := TX0) (N := 16) (ci := 2) (k := 4) (index := 64) (i := b) inGX0 tyX0 tyX0_ok nmX0 rfl (by decide) fl_X0_64 rfl (g_lt_air hb) (g_sh_air hb) rfl rfl rfl dX0_changeOpen_32 (fun H locs hW => ?_)
    rw [← eσ6] at hW
    refine lv_iload_n hx hcd dX0_changeOpen_35 rfl (lv_at hl 0 rfl) ?_
    obtain ⟨z7, ho⟩ := gd_some ho
    obtain rfl := Option.some.inj ho
    exact g_zret (r := r2) hC hr hlk hsz hW z7 dX0_changeOpen_36
noncomputable def X0_changeLimit (σ : gS) (b : Nat) (x1 : Int32) (x2 : Int32) (x3 : Int32) : Option (Int32 × gS) :=
  gd (ib ((x1 * (8 : Int32)) + x2) 64) <| lt_ (g_up σ (b + 3) ((x1 * (8 : Int32)) + x2).toNatClampNeg x3) fun σ2 => gd (ib ((x2 * (8 : Int32)) + x1) 64) <| lt_ (g_up σ2 (b + 3) ((x2 * (8 : Int32)) + x1).toNatClampNeg x3) fun σ4 => some ((σ (b + 3) ((x1 * (8 : Int32)) + x2).toNatClampNeg), σ4)
set_option maxHeartbeats 4000000 in
set_option maxRecDepth 100000 in
theorem c_X0_changeLimit (l : Launch) (D : va_G) (y : ClassId × ClassId × ClassId) (ad : Nat → Nat) {b : Nat} (hb : g_air b) (x1 : Int32) (x2 : Int32) (x3 : Int32) (σ : gS) (sz : Nat) {q : Int32 × gS} (h : X0_changeLimit σ b x1 x2 x3 = some q) : Met l yX0_changeLimit (Cond.code yX0_changeLimit cX0_changeLimit 5 (some .int) :: gl) ({ frames := 0, cells := 0, slots := 0, locals := 0 }) (g_Pc D y ad σ sz [.ref (ad b), .int x1, .int x2, .int x3]) (g_Qi D y ad q.2 sz q.1) 0 0 (g_A ad sz) := by
  have ho := h
  unfold X0_changeLimit at ho
  refine g_start (by decide) (Nat.le_of_ble_eq_true rfl) (fun p e s m below meth c ls hC hr hlk hsz hW hl => ?_)
  have hx := hC.1
  have hcd := hC.2.1
  have hl : lv_has ls 5 [(0, .ref (ad b)), (1, .int x1), (2, .int x2), (3, .int x3)] := hl
  refine lv_aload_n hx hcd dX0_changeLimit_0 rfl (lv_at hl 0 rfl) ?_
  refine g_getr hC hW (C := RX0) (T := TX0) (N := 16) (ci := 2) (k := 7) (index := 22) (i := b) (r := (b + 3)) inGX0 rfl (by decide) fl_X0_22 (g_lt_air hb) (g_sh_air hb) rfl dX0_changeLimit_1 ?_
  refine lv_iload_n hx hcd dX0_changeLimit_4 rfl (lv_at hl 1 rfl) ?_
  refine lv_bipush (v := 8) hx hcd dX0_changeLimit_5 (by decide) ?_
  refine lv_imul hx hcd dX0_changeLimit_7 ?_
  refine lv_iload_n hx hcd dX0_changeLimit_8 rfl (lv_at hl 2 rfl) ?_
  refine lv_iadd hx hcd dX0_changeLimit_9 ?_
  obtain ⟨i1, ho⟩ := gd_some ho
  refine g_iald hC hW (i := (b + 3)) (g_lt_arr (j := 3) hb (by decide)) (g_sa3 hb) i1 dX0_changeLimit_10 ?_
  refine lv_istore (lv' := [(4, .int (σ (b + 3) ((x1 * (8 : Int32)) + x2).toNatClampNeg)), (0, .ref (ad b)), (1, .int x1), (2, .int x2), (3, .int x3)]) hx hcd dX0_changeLimit_11 hl (by decide) rfl (fun ls hl => ?_)
  refine lv_aload_n hx hcd dX0_changeLimit_13 rfl (lv_at hl 1 rfl) ?_
  refine g_getr hC hW (C := RX0) (T := TX0) (N := 16) (ci := 2) (k := 7) (index := 22) (i := b) (r := (b + 3)) inGX0 rfl (by decide) fl_X0_22 (g_lt_air hb) (g_sh_air hb) rfl dX0_changeLimit_14 ?_
  refine lv_iload_n hx hcd dX0_changeLimit_17 rfl (lv_at hl 2 rfl) ?_
  refine lv_bipush (v := 8) hx hcd dX0_changeLimit_18 (by decide) ?_
  refine lv_imul hx hcd dX0_changeLimit_20 ?_
  refine lv_iload_n hx hcd dX0_changeLimit_21 rfl (lv_at hl 3 rfl) ?_
  refine lv_iadd hx hcd dX0_changeLimit_22 ?_
  refine lv_iload_n hx hcd dX0_changeLimit_23 rfl (lv_at hl 4 rfl) ?_
  obtain ⟨σ2, eσ2, ho⟩ := lt_ex ho
  refine g_iast hC hW (i := (b + 3)) (g_lt_arr (j := 3) hb (by decide)) (g_sa3 hb) i1 dX0_changeLimit_24 (fun H locs hW => ?_)
  rw [← eσ2] at hW
  refine lv_aload_n hx hcd dX0_changeLimit_25 rfl (lv_at hl 1 rfl) ?_
  refine g_getr hC hW (C := RX0) (T := TX0) (N := 16) (ci := 2) (k := 7) (index := 22) (i := b) (r := (b + 3)) inGX0 rfl (by decide) fl_X0_22 (g_lt_air hb) (g_sh_air hb) rfl dX0_changeLimit_26 ?_
  refine lv_iload_n hx hcd dX0_changeLimit_29 rfl (lv_at hl 3 rfl) ?_
  refine lv_bipush (v := 8) hx hcd dX0_changeLimit_30 (by decide) ?_
  refine lv_imul hx hcd dX0_changeLimit_32 ?_
  refine lv_iload_n hx hcd dX0_changeLimit_33 rfl (lv_at hl 2 rfl) ?_
  refine lv_iadd hx hcd dX0_changeLimit_34 ?_
  refine lv_iload_n hx hcd dX0_changeLimit_35 rfl (lv_at hl 4 rfl) ?_
  obtain ⟨i3, ho⟩ := gd_some ho
  obtain ⟨σ4, eσ4, ho⟩ := lt_ex ho
  refine g_iast hC hW (i := (b + 3)) (g_lt_arr (j := 3) hb (by decide)) (g_sa3 hb) i3 dX0_changeLimit_36 (fun H locs hW => ?_)
  rw [← eσ4] at hW
  refine lv_iload hx hcd dX0_changeLimit_37 (lv_at hl 0 rfl) ?_
  obtain rfl := Option.some.inj ho
  exact g_iret hC hr hlk hsz hW dX0_changeLimit_39
noncomputable def X0_setStays (σ : gS) (b : Nat) (x1 : Int32) : Option (gS) :=
  gd (ib x1 10) <| gd (ib ((2 : Int32) * x1) 20) <| lt_ (g_up σ (b + 9) ((2 : Int32) * x1).toNatClampNeg (σ (b + 5) x1.toNatClampNeg)) fun σ3 => (X0_hasTow σ3 b x1).bind fun r5 => if r5 = 0 then (lt_ (g_up σ3 (b + 10) ((2 : Int32) * x1).toNatClampNeg (σ (b + 6) x1.toNatClampNeg)) fun σ7 => (X0_hasTow σ7 b x1).bind fun r9 => if r9 = 0 then (gd (ib (((2 : Int32) * x1) + (1 : Int32)) 20) <| lt_ (g_up σ7 (b + 9) (((2 : Int32) * x1) + (1 : Int32)).toNatClampNeg (σ (b + 6) x1.toNatClampNeg)) fun σ12 => lt_ (g_up σ12 (b + 10) (((2 : Int32) * x1) + (1 : Int32)).toNatClampNeg (σ (b + 6) x1.toNatClampNeg)) fun σ13 => some σ13) else (gd (ib (((2 : Int32) * x1) + (1 : Int32)) 20) <| lt_ (g_up σ7 (b + 9) (((2 : Int32) * x1) + (1 : Int32)).toNatClampNeg ((σ7 (b + 8) x1.toNatClampNeg) + (10 : Int32))) fun σ15 => lt_ (g_up σ15 (b + 10) (((2 : Int32) * x1) + (1 : Int32)).toNatClampNeg (σ (b + 6) x1.toNatClampNeg)) fun σ16 => some σ16)) else (lt_ (g_up σ3 (b + 10) ((2 : Int32) * x1).toNatClampNeg (σ3 (b + 8) x1.toNatClampNeg)) fun σ17 => (X0_hasTow σ17 b x1).bind fun r19 => if r19 = 0 then (gd (ib (((2 : Int32) * x1) + (1 : Int32)) 20) <| lt_ (g_up σ17 (b + 9) (((2 : Int32) * x1) + (1 : Int32)).toNatClampNeg (σ (b + 6) x1.toNatClampNeg)) fun σ22 => lt_ (g_up σ22 (b + 10) (((2 : Int32) * x1) + (1 : Int32)).toNatClampNeg (σ (b + 6) x1.toNatClampNeg)) fun σ23 => some σ23) else (gd (ib (((2 : Int32) * x1) + (1 : Int32)) 20) <| lt_ (g_up σ17 (b + 9) (((2 : Int32) * x1) + (1 : Int32)).toNatClampNeg ((σ17 (b + 8) x1.toNatClampNeg) + (10 : Int32))) fun σ25 => lt_ (g_up σ25 (b + 10) (((2 : Int32) * x1) + (1 : Int32)).toNatClampNeg (σ (b + 6) x1.toNatClampNeg)) fun σ26 => some σ26))
set_option maxHeartbeats 4000000 in
set_option maxRecDepth 100000 in
theorem c_X0_setStays (l : Launch) (D : va_G) (y : ClassId × ClassId × ClassId) (ad : Nat → Nat) {b : Nat} (hb : g_air b) (x1 : Int32) (σ : gS) (sz : Nat) {q : gS} (h : X0_setStays σ b x1 = some q) : Met l yX0_setStays (Cond.code yX0_setStays cX0_setStays 4 none :: gl) ({ frames := 1, cells := 0, slots := 0, locals := 21 }) (g_Pc D y ad σ sz [.ref (ad b), .int x1]) (g_Qv D y ad q sz) 0 0 (g_A ad sz) := by
  have ho := h
  unfold X0_setStays at ho
  refine g_start (by decide) (Nat.le_of_ble_eq_true rfl) (fun p e s m below meth c ls hC hr hlk hsz hW hl => ?_)
  have hx := hC.1
  have hcd := hC.2.1
  have hl : lv_has ls 4 [(0, .ref (ad b)), (1, .int x1)] := hl
  refine lv_iconst (v := 2) hx hcd dX0_setStays_0 (by decide) ?_
  refine lv_iload_n hx hcd dX0_setStays_1 rfl (lv_at hl 1 rfl) ?_
  refine lv_imul hx hcd dX0_setStays_2 ?_
  refine lv_istore_n (lv' := [(2, .int ((2 : Int32) * x1)), (0, .ref (ad b)), (1, .int x1)]) hx hcd dX0_setStays_3 rfl hl (by decide) rfl (fun ls hl => ?_)
  refine lv_aload_n hx hcd dX0_setStays_4 rfl (lv_at hl 1 rfl) ?_
  refine g_getr hC hW (C := RX0) (T := TX0) (N := 16) (ci := 2) (k := 10) (index := 31) (i := b) (r := (b + 6)) inGX0 rfl (by decide) fl_X0_31 (g_lt_air hb) (g_sh_air hb) rfl dX0_setStays_5 ?_
  refine lv_iload_n hx hcd dX0_setStays_8 rfl (lv_at hl 2 rfl) ?_
  obtain ⟨i1, ho⟩ := gd_some ho
  refine g_iald hC hW (i := (b + 6)) (g_lt_arr (j := 6) hb (by decide)) (g_sa6 hb) i1 dX0_setStays_9 ?_
  refine lv_istore_n (lv' := [(3, .int (σ (b + 6) x1.toNatClampNeg)), (2, .int ((2 : Int32) * x1)), (0, .ref (ad b)), (1, .int x1)]) hx hcd dX0_setStays_10 rfl hl (by decide) rfl (fun ls hl => ?_)
  refine lv_aload_n hx hcd dX0_setStays_11 rfl (lv_at hl 2 rfl) ?_
  refine g_getr hC hW (C := RX0) (T := TX0) (N := 16) (ci := 2) (k := 13) (index := 40) (i := b) (r := (b + 9)) inGX0 rfl (by decide) fl_X0_40 (g_lt_air hb) (g_sh_air hb) rfl dX0_setStays_12 ?_
  refine lv_iload_n hx hcd dX0_setStays_15 rfl (lv_at hl 1 rfl) ?_
  refine lv_aload_n hx hcd dX0_setStays_16 rfl (lv_at hl 2 rfl) ?_
  refine g_getr hC hW (C := RX0) (T := TX0) (N := 16) (ci := 2) (k := 9) (index := 28) (i := b) (r := (b + 5)) inGX0 rfl (by decide) fl_X0_28 (g_lt_air hb) (g_sh_air hb) rfl dX0_setStays_17 ?_
  refine lv_iload_n hx hcd dX0_setStays_20 rfl (lv_at hl 3 rfl) ?_
  refine g_iald hC hW (i := (b + 5)) (g_lt_arr (j := 5) hb (by decide)) (g_sa5 hb) i1 dX0_setStays_21 ?_
  obtain ⟨i2, ho⟩ := gd_some ho
  obtain ⟨σ3, eσ3, ho⟩ := lt_ex ho
  refine g_iast hC hW (i := (b + 9)) (g_lt_arr (j := 9) hb (by decide)) (g_sa9 hb) i2 dX0_setStays_22 (fun H locs hW => ?_)
  rw [← eσ3] at hW
  refine lv_aload_n hx hcd dX0_setStays_23 rfl (lv_at hl 2 rfl) ?_
  refine g_getr hC hW (C := RX0) (T := TX0) (N := 16) (ci := 2) (k := 14) (index := 43) (i := b) (r := (b + 10)) inGX0 rfl (by decide) fl_X0_43 (g_lt_air hb) (g_sh_air hb) rfl dX0_setStays_24 ?_
  refine lv_iload_n hx hcd dX0_setStays_27 rfl (lv_at hl 1 rfl) ?_
  refine lv_aload_n hx hcd dX0_setStays_28 rfl (lv_at hl 2 rfl) ?_
  refine lv_iload_n hx hcd dX0_setStays_29 rfl (lv_at hl 3 rfl) ?_
  obtain ⟨r5, h4, ho⟩ := gb_some ho
  refine g_calli hW (g_runV (As := [.int x1]) (rest := [.int ((2 : Int32) * x1), .ref (ad (b + 10))]) (i := b) hC hW (c_X0_hasTow l D y ad hb x1 _ _ h4) ok_X0_77 ⟨rfl, rfl, Nat.le_of_ble_eq_true rfl, Nat.le_of_ble_eq_true rfl⟩ (g_lt_air hb) (g_sh_air hb) rfl rfl rfl hl.1 rfl (Nat.le_of_ble_eq_true rfl) dX0_setStays_30 ⟨Nat.zero_le _, Nat.zero_le _⟩) (fun H locs hW => ?_)
  refine lv_if_eq (tgt := 45) hx hcd dX0_setStays_33 (by decide) (fun c6 => ?_) (fun c6 => ?_)
  · have ho := gif_p ho c6
    refine lv_iload_n hx hcd dX0_setStays_45 rfl (lv_at hl 0 rfl) ?_
    obtain ⟨σ7, eσ7, ho⟩ := lt_ex ho
    refine g_iast hC hW (i := (b + 10)) (g_lt_arr (j := 10) hb (by decide)) (g_sa10 hb) i2 dX0_setStays_46 (fun H locs hW => ?_)
    rw [← eσ7] at hW
    refine lv_aload_n hx hcd dX0_setStays_47 rfl (lv_at hl 2 rfl) ?_
    refine g_getr hC hW (C := RX0) (T := TX0) (N := 16) (ci := 2) (k := 13) (index := 40) (i := b) (r := (b + 9)) inGX0 rfl (by decide) fl_X0_40 (g_lt_air hb) (g_sh_air hb) rfl dX0_setStays_48 ?_
    refine lv_iload_n hx hcd dX0_setStays_51 rfl (lv_at hl 1 rfl) ?_
    refine lv_iconst (v := 1) hx hcd dX0_setStays_52 (by decide) ?_
    refine lv_iadd hx hcd dX0_setStays_53 ?_
    refine lv_aload_n hx hcd dX0_setStays_54 rfl (lv_at hl 2 rfl) ?_
    refine lv_iload_n hx hcd dX0_setStays_55 rfl (lv_at hl 3 rfl) ?_
    obtain ⟨r9, h8, ho⟩ := gb_some ho
    refine g_calli hW (g_runV (As := [.int x1]) (rest := [.int (((2 : Int32) * x1) + (1 : Int32)), .ref (ad (b + 9))]) (i := b) hC hW (c_X0_hasTow l D y ad hb x1 _ _ h8) ok_X0_77 ⟨rfl, rfl, Nat.le_of_ble_eq_true rfl, Nat.le_of_ble_eq_true rfl⟩ (g_lt_air hb) (g_sh_air hb) rfl rfl rfl hl.1 rfl (Nat.le_of_ble_eq_true rfl) dX0_setStays_56 ⟨Nat.zero_le _, Nat.zero_le _⟩) (fun H locs hW => ?_)
    refine lv_if_eq (tgt := 74) hx hcd dX0_setStays_59 (by decide) (fun c10 => ?_) (fun c10 => ?_)
    · have ho := gif_p ho c10
      refine lv_iload_n hx hcd dX0_setStays_74 rfl (lv_at hl 0 rfl) ?_
      obtain ⟨i11, ho⟩ := gd_some ho
      obtain ⟨σ12, eσ12, ho⟩ := lt_ex ho
      refine g_iast hC hW (i := (b + 9)) (g_lt_arr (j := 9) hb (by decide)) (g_sa9 hb) i11 dX0_setStays_75 (fun H locs hW => ?_)
      rw [← eσ12] at hW
      refine lv_aload_n hx hcd dX0_setStays_76 rfl (lv_at hl 2 rfl) ?_
      refine g_getr hC hW (C := RX0) (T := TX0) (N := 16) (ci := 2) (k := 14) (index := 43) (i := b) (r := (b + 10)) inGX0 rfl (by decide) fl_X0_43 (g_lt_air hb) (g_sh_air hb) rfl dX0_setStays_77 ?_
      refine lv_iload_n hx hcd dX0_setStays_80 rfl (lv_at hl 1 rfl) ?_
      refine lv_iconst (v := 1) hx hcd dX0_setStays_81 (by decide) ?_
      refine lv_iadd hx hcd dX0_setStays_82 ?_
      refine lv_iload_n hx hcd dX0_setStays_83 rfl (lv_at hl 0 rfl) ?_
      obtain ⟨σ13, eσ13, ho⟩ := lt_ex ho
      refine g_iast hC hW (i := (b + 10)) (g_lt_arr (j := 10) hb (by decide)) (g_sa10 hb) i11 dX0_setStays_84 (fun H locs hW => ?_)
      rw [← eσ13] at hW
      obtain rfl := Option.some.inj ho
      exact g_vret hC hr hlk hsz hW dX0_setStays_85
    · have ho := gif_n ho c10
      refine lv_aload_n hx hcd dX0_setStays_62 rfl (lv_at hl 2 rfl) ?_
      refine g_getr hC hW (C := RX0) (T := TX0) (N := 16) (ci := 2) (k := 12) (index := 37) (i := b) (r := (b + 8)) inGX0 rfl (by decide) fl_X0_37 (g_lt_air hb) (g_sh_air hb) rfl dX0_setStays_63 ?_
      refine lv_iload_n hx hcd dX0_setStays_66 rfl (lv_at hl 3 rfl) ?_
      refine g_iald hC hW (i := (b + 8)) (g_lt_arr (j := 8) hb (by decide)) (g_sa8 hb) i1 dX0_setStays_67 ?_
      refine lv_bipush (v := 10) hx hcd dX0_setStays_68 (by decide) ?_
      refine lv_iadd hx hcd dX0_setStays_70 ?_
      refine lv_goto (tgt := 75) hx hcd dX0_setStays_71 (by decide) ?_
      obtain ⟨i14, ho⟩ := gd_some ho
      obtain ⟨σ15, eσ15, ho⟩ := lt_ex ho
      refine g_iast hC hW (i := (b + 9)) (g_lt_arr (j := 9) hb (by decide)) (g_sa9 hb) i14 dX0_setStays_75 (fun H locs hW => ?_)
      rw [← eσ15] at hW
      refine lv_aload_n hx hcd dX0_setStays_76 rfl (lv_at hl 2 rfl) ?_
      refine g_getr hC hW (C := RX0) (T := TX0) (N := 16) (ci := 2) (k := 14) (index := 43) (i := b) (r := (b + 10)) inGX0 rfl (by decide) fl_X0_43 (g_lt_air hb) (g_sh_air hb) rfl dX0_setStays_77 ?_
      refine lv_iload_n hx hcd dX0_setStays_80 rfl (lv_at hl 1 rfl) ?_
      refine lv_iconst (v := 1) hx hcd dX0_setStays_81 (by decide) ?_
      refine lv_iadd hx hcd dX0_setStays_82 ?_
      refine lv_iload_n hx hcd dX0_setStays_83 rfl (lv_at hl 0 rfl) ?_
      obtain ⟨σ16, eσ16, ho⟩ := lt_ex ho
      refine g_iast hC hW (i := (b + 10)) (g_lt_arr (j := 10) hb (by decide)) (g_sa10 hb) i14 dX0_setStays_84 (fun H locs hW => ?_)
      rw [← eσ16] at hW
      obtain rfl := Option.some.inj ho
      exact g_vret hC hr hlk hsz hW dX0_setStays_85
  · have ho := gif_n ho c6
    refine lv_aload_n hx hcd dX0_setStays_36 rfl (lv_at hl 2 rfl) ?_
    refine g_getr hC hW (C := RX0) (T := TX0) (N := 16) (ci := 2) (k := 12) (index := 37) (i := b) (r := (b + 8)) inGX0 rfl (by decide) fl_X0_37 (g_lt_air hb) (g_sh_air hb) rfl dX0_setStays_37 ?_
    refine lv_iload_n hx hcd dX0_setStays_40 rfl (lv_at hl 3 rfl) ?_
    refine g_iald hC hW (i := (b + 8)) (g_lt_arr (j := 8) hb (by decide)) (g_sa8 hb) i1 dX0_setStays_41 ?_
    refine lv_goto (tgt := 46) hx hcd dX0_setStays_42 (by decide) ?_
    obtain ⟨σ17, eσ17, ho⟩ := lt_ex ho
    refine g_iast hC hW (i := (b + 10)) (g_lt_arr (j := 10) hb (by decide)) (g_sa10 hb) i2 dX0_setStays_46 (fun H locs hW => ?_)
    rw [← eσ17] at hW
    refine lv_aload_n hx hcd dX0_setStays_47 rfl (lv_at hl 2 rfl) ?_
    refine g_getr hC hW (C := RX0) (T := TX0) (N := 16) (ci := 2) (k := 13) (index := 40) (i := b) (r := (b + 9)) inGX0 rfl (by decide) fl_X0_40 (g_lt_air hb) (g_sh_air hb) rfl dX0_setStays_48 ?_
    refine lv_iload_n hx hcd dX0_setStays_51 rfl (lv_at hl 1 rfl) ?_
    refine lv_iconst (v := 1) hx hcd dX0_setStays_52 (by decide) ?_
    refine lv_iadd hx hcd dX0_setStays_53 ?_
    refine lv_aload_n hx hcd dX0_setStays_54 rfl (lv_at hl 2 rfl) ?_
    refine lv_iload_n hx hcd dX0_setStays_55 rfl (lv_at hl 3 rfl) ?_
    obtain ⟨r19, h18, ho⟩ := gb_some ho
    refine g_calli hW (g_runV (As := [.int x1]) (rest := [.int (((2 : Int32) * x1) + (1 : Int32)), .ref (ad (b + 9))]) (i := b) hC hW (c_X0_hasTow l D y ad hb x1 _ _ h18) ok_X0_77 ⟨rfl, rfl, Nat.le_of_ble_eq_true rfl, Nat.le_of_ble_eq_true rfl⟩ (g_lt_air hb) (g_sh_air hb) rfl rfl rfl hl.1 rfl (Nat.le_of_ble_eq_true rfl) dX0_setStays_56 ⟨Nat.zero_le _, Nat.zero_le _⟩) (fun H locs hW => ?_)
    refine lv_if_eq (tgt := 74) hx hcd dX0_setStays_59 (by decide) (fun c20 => ?_) (fun c20 => ?_)
    · have ho := gif_p ho c20
      refine lv_iload_n hx hcd dX0_setStays_74 rfl (lv_at hl 0 rfl) ?_
      obtain ⟨i21, ho⟩ := gd_some ho
      obtain ⟨σ22, eσ22, ho⟩ := lt_ex ho
      refine g_iast hC hW (i := (b + 9)) (g_lt_arr (j := 9) hb (by decide)) (g_sa9 hb) i21 dX0_setStays_75 (fun H locs hW => ?_)
      rw [← eσ22] at hW
      refine lv_aload_n hx hcd dX0_setStays_76 rfl (lv_at hl 2 rfl) ?_
      refine g_getr hC hW (C := RX0) (T := TX0) (N := 16) (ci := 2) (k := 14) (index := 43) (i := b) (r := (b + 10)) inGX0 rfl (by decide) fl_X0_43 (g_lt_air hb) (g_sh_air hb) rfl dX0_setStays_77 ?_
      refine lv_iload_n hx hcd dX0_setStays_80 rfl (lv_at hl 1 rfl) ?_
      refine lv_iconst (v := 1) hx hcd dX0_setStays_81 (by decide) ?_
      refine lv_iadd hx hcd dX0_setStays_82 ?_
      refine lv_iload_n hx hcd dX0_setStays_83 rfl (lv_at hl 0 rfl) ?_
      obtain ⟨σ23, eσ23, ho⟩ := lt_ex ho
      refine g_iast hC hW (i := (b + 10)) (g_lt_arr (j := 10) hb (by decide)) (g_sa10 hb) i21 dX0_setStays_84 (fun H locs hW => ?_)
      rw [← eσ23] at hW
      obtain rfl := Option.some.inj ho
      exact g_vret hC hr hlk hsz hW dX0_setStays_85
    · have ho := gif_n ho c20
      refine lv_aload_n hx hcd dX0_setStays_62 rfl (lv_at hl 2 rfl) ?_
      refine g_getr hC hW (C := RX0) (T := TX0) (N := 16) (ci := 2) (k := 12) (index := 37) (i := b) (r := (b + 8)) inGX0 rfl (by decide) fl_X0_37 (g_lt_air hb) (g_sh_air hb) rfl dX0_setStays_63 ?_
      refine lv_iload_n hx hcd dX0_setStays_66 rfl (lv_at hl 3 rfl) ?_
      refine g_iald hC hW (i := (b + 8)) (g_lt_arr (j := 8) hb (by decide)) (g_sa8 hb) i1 dX0_setStays_67 ?_
      refine lv_bipush (v := 10) hx hcd dX0_setStays_68 (by decide) ?_
      refine lv_iadd hx hcd dX0_setStays_70 ?_
      refine lv_goto (tgt := 75) hx hcd dX0_setStays_71 (by decide) ?_
      obtain ⟨i24, ho⟩ := gd_some ho
      obtain ⟨σ25, eσ25, ho⟩ := lt_ex ho
      refine g_iast hC hW (i := (b + 9)) (g_lt_arr (j := 9) hb (by decide)) (g_sa9 hb) i24 dX0_setStays_75 (fun H locs hW => ?_)
      rw [← eσ25] at hW
      refine lv_aload_n hx hcd dX0_setStays_76 rfl (lv_at hl 2 rfl) ?_
      refine g_getr hC hW (C := RX0) (T := TX0) (N := 16) (ci := 2) (k := 14) (index := 43) (i := b) (r := (b + 10)) inGX0 rfl (by decide) fl_X0_43 (g_lt_air hb) (g_sh_air hb) rfl dX0_setStays_77 ?_
      refine lv_iload_n hx hcd dX0_setStays_80 rfl (lv_at hl 1 rfl) ?_
      refine lv_iconst (v := 1) hx hcd dX0_setStays_81 (by decide) ?_
      refine lv_iadd hx hcd dX0_setStays_82 ?_
      refine lv_iload_n hx hcd dX0_setStays_83 rfl (lv_at hl 0 rfl) ?_
      obtain ⟨σ26, eσ26, ho⟩ := lt_ex ho
      refine g_iast hC hW (i := (b + 10)) (g_lt_arr (j := 10) hb (by decide)) (g_sa10 hb) i24 dX0_setStays_84 (fun H locs hW => ?_)
      rw [← eσ26] at hW
      obtain rfl := Option.some.inj ho
      exact g_vret hC hr hlk hsz hW dX0_setStays_85
noncomputable def X0_newTurn (σ : gS) (b : Nat) (x1 : Int32) (x2 : Int32) (x3 : Int32) (x4 : Int32) : Option (Int32 × gS) :=
  gd (ib (σ b 1) 10) <| lt_ (g_up σ (b + 4) (σ b 1).toNatClampNeg x1) fun σ2 => lt_ (g_up σ2 (b + 5) (σ b 1).toNatClampNeg x2) fun σ3 => lt_ (g_up σ3 (b + 6) (σ b 1).toNatClampNeg x3) fun σ4 => lt_ (g_up σ4 (b + 7) (σ b 1).toNatClampNeg x4) fun σ5 => lt_ (g_up σ5 (b + 8) (σ b 1).toNatClampNeg (-1)) fun σ6 => (X0_setStays σ6 b (σ b 1)).bind fun σ8 => lt_ (g_up σ8 b 1 ((σ b 1) + (1 : Int32))) fun σ9 => some ((σ b 1), σ9)
set_option maxHeartbeats 4000000 in
set_option maxRecDepth 100000 in
theorem c_X0_newTurn (l : Launch) (D : va_G) (y : ClassId × ClassId × ClassId) (ad : Nat → Nat) {b : Nat} (hb : g_air b) (x1 : Int32) (x2 : Int32) (x3 : Int32) (x4 : Int32) (σ : gS) (sz : Nat) {q : Int32 × gS} (h : X0_newTurn σ b x1 x2 x3 x4 = some q) : Met l yX0_newTurn (Cond.code yX0_newTurn cX0_newTurn 6 (some .int) :: gl) ({ frames := 2, cells := 0, slots := 0, locals := 44 }) (g_Pc D y ad σ sz [.ref (ad b), .int x1, .int x2, .int x3, .int x4]) (g_Qi D y ad q.2 sz q.1) 0 0 (g_A ad sz) := by
  have ho := h
  unfold X0_newTurn at ho
  refine g_start (by decide) (Nat.le_of_ble_eq_true rfl) (fun p e s m below meth c ls hC hr hlk hsz hW hl => ?_)
  have hx := hC.1
  have hcd := hC.2.1
  have hl : lv_has ls 6 [(0, .ref (ad b)), (1, .int x1), (2, .int x2), (3, .int x3), (4, .int x4)] := hl
  refine lv_aload_n hx hcd dX0_newTurn_0 rfl (lv_at hl 0 rfl) ?_
  refine g_geti hC hW (C := RX0) (T := TX0) (N := 16) (ci := 2) (k := 1) (index := 58) (i := b) inGX0 rfl (by decide) fl_X0_58 (g_lt_air hb) (g_sh_air hb) rfl dX0_newTurn_1 ?_
  refine lv_istore (lv' := [(5, .int (σ b 1)), (0, .ref (ad b)), (1, .int x1), (2, .int x2), (3, .int x3), (4, .int x4)]) hx hcd dX0_newTurn_4 hl (by decide) rfl (fun ls hl => ?_)
  refine lv_aload_n hx hcd dX0_newTurn_6 rfl (lv_at hl 1 rfl) ?_
  refine g_getr hC hW (C := RX0) (T := TX0) (N := 16) (ci := 2) (k := 8) (index := 25) (i := b) (r := (b + 4)) inGX0 rfl (by decide) fl_X0_25 (g_lt_air hb) (g_sh_air hb) rfl dX0_newTurn_7 ?_
  refine lv_iload hx hcd dX0_newTurn_10 (lv_at hl 0 rfl) ?_
  refine lv_iload_n hx hcd dX0_newTurn_12 rfl (lv_at hl 2 rfl) ?_
  obtain ⟨i1, ho⟩ := gd_some ho
  obtain ⟨σ2, eσ2, ho⟩ := lt_ex ho
  refine g_iast hC hW (i := (b + 4)) (g_lt_arr (j := 4) hb (by decide)) (g_sa4 hb) i1 dX0_newTurn_13 (fun H locs hW => ?_)
  rw [← eσ2] at hW
  refine lv_aload_n hx hcd dX0_newTurn_14 rfl (lv_at hl 1 rfl) ?_
  refine g_getr hC hW (C := RX0) (T := TX0) (N := 16) (ci := 2) (k := 9) (index := 28) (i := b) (r := (b + 5)) inGX0 rfl (by decide) fl_X0_28 (g_lt_air hb) (g_sh_air hb) rfl dX0_newTurn_15 ?_
  refine lv_iload hx hcd dX0_newTurn_18 (lv_at hl 0 rfl) ?_
  refine lv_iload_n hx hcd dX0_newTurn_20 rfl (lv_at hl 3 rfl) ?_
  obtain ⟨σ3, eσ3, ho⟩ := lt_ex ho
  refine g_iast hC hW (i := (b + 5)) (g_lt_arr (j := 5) hb (by decide)) (g_sa5 hb) i1 dX0_newTurn_21 (fun H locs hW => ?_)
  rw [← eσ3] at hW
  refine lv_aload_n hx hcd dX0_newTurn_22 rfl (lv_at hl 1 rfl) ?_
  refine g_getr hC hW (C := RX0) (T := TX0) (N := 16) (ci := 2) (k := 10) (index := 31) (i := b) (r := (b + 6)) inGX0 rfl (by decide) fl_X0_31 (g_lt_air hb) (g_sh_air hb) rfl dX0_newTurn_23 ?_
  refine lv_iload hx hcd dX0_newTurn_26 (lv_at hl 0 rfl) ?_
  refine lv_iload_n hx hcd dX0_newTurn_28 rfl (lv_at hl 4 rfl) ?_
  obtain ⟨σ4, eσ4, ho⟩ := lt_ex ho
  refine g_iast hC hW (i := (b + 6)) (g_lt_arr (j := 6) hb (by decide)) (g_sa6 hb) i1 dX0_newTurn_29 (fun H locs hW => ?_)
  rw [← eσ4] at hW
  refine lv_aload_n hx hcd dX0_newTurn_30 rfl (lv_at hl 1 rfl) ?_
  refine g_getr hC hW (C := RX0) (T := TX0) (N := 16) (ci := 2) (k := 11) (index := 34) (i := b) (r := (b + 7)) inGX0 rfl (by decide) fl_X0_34 (g_lt_air hb) (g_sh_air hb) rfl dX0_newTurn_31 ?_
  refine lv_iload hx hcd dX0_newTurn_34 (lv_at hl 0 rfl) ?_
  refine lv_iload hx hcd dX0_newTurn_36 (lv_at hl 5 rfl) ?_
  obtain ⟨σ5, eσ5, ho⟩ := lt_ex ho
  refine g_iast hC hW (i := (b + 7)) (g_lt_arr (j := 7) hb (by decide)) (g_sa7 hb) i1 dX0_newTurn_38 (fun H locs hW => ?_)
  rw [← eσ5] at hW
  refine lv_aload_n hx hcd dX0_newTurn_39 rfl (lv_at hl 1 rfl) ?_
  refine g_getr hC hW (C := RX0) (T := TX0) (N := 16) (ci := 2) (k := 12) (index := 37) (i := b) (r := (b + 8)) inGX0 rfl (by decide) fl_X0_37 (g_lt_air hb) (g_sh_air hb) rfl dX0_newTurn_40 ?_
  refine lv_iload hx hcd dX0_newTurn_43 (lv_at hl 0 rfl) ?_
  refine lv_iconst (v := (-1)) hx hcd dX0_newTurn_45 (by decide) ?_
  obtain ⟨σ6, eσ6, ho⟩ := lt_ex ho
  refine g_iast hC hW (i := (b + 8)) (g_lt_arr (j := 8) hb (by decide)) (g_sa8 hb) i1 dX0_newTurn_46 (fun H locs hW => ?_)
  rw [← eσ6] at hW
  refine lv_aload_n hx hcd dX0_newTurn_47 rfl (lv_at hl 1 rfl) ?_
  refine lv_iload hx hcd dX0_newTurn_48 (lv_at hl 0 rfl) ?_
  obtain ⟨σ8, h7, ho⟩ := gb_some ho
  refine g_callv hW (g_runV (As := [.int (σ b 1)]) (rest := []) (i := b) hC hW (c_X0_setStays l D y ad hb (σ b 1) _ _ h7) ok_X0_83 ⟨rfl, rfl, Nat.le_of_ble_eq_true rfl, Nat.le_of_ble_eq_true rfl⟩ (g_lt_air hb) (g_sh_air hb) rfl rfl rfl hl.1 rfl (Nat.le_of_ble_eq_true rfl) dX0_newTurn_50 ⟨Nat.zero_le _, Nat.zero_le _⟩) (fun H locs hW => ?_)
  refine lv_aload_n hx hcd dX0_newTurn_53 rfl (lv_at hl 1 rfl) ?_
  refine lv_iload hx hcd dX0_newTurn_54 (lv_at hl 0 rfl) ?_
  refine lv_iconst (v := 1) hx hcd dX0_newTurn_56 (by decide) ?_
  refine lv_iadd hx hcd dX0_newTurn_57 ?_
  obtain ⟨σ9, eσ9, ho⟩ := lt_ex ho
  refine g_puti hC hW (C := RX0) (T := TX0) (N := 16) (ci := 2) (k := 1) (index := 58) (i := b) inGX0 tyX0 tyX0_ok nmX0 rfl (by decide) fl_X0_58 rfl (g_lt_air hb) (g_sh_air hb) rfl rfl rfl dX0_newTurn_58 (fun H locs hW => ?_)
  rw [← eσ9] at hW
  refine lv_iload hx hcd dX0_newTurn_61 (lv_at hl 0 rfl) ?_
  obtain rfl := Option.some.inj ho
  exact g_iret hC hr hlk hsz hW dX0_newTurn_63
noncomputable def X0_isTowMinute (σ : gS) (b : Nat) (x1 : Int32) (x2 : Int32) : Option (Int32) :=
  gd (ib x1 10) <| if x2 < ((σ (b + 5) x1.toNatClampNeg) + (10 : Int32)) then (some 0) else (if ((σ (b + 6) x1.toNatClampNeg) - (20 : Int32)) < x2 then (some 0) else (some 1))
set_option maxHeartbeats 4000000 in
set_option maxRecDepth 100000 in
theorem c_X0_isTowMinute (l : Launch) (D : va_G) (y : ClassId × ClassId × ClassId) (ad : Nat → Nat) {b : Nat} (hb : g_air b) (x1 : Int32) (x2 : Int32) (σ : gS) (sz : Nat) {q : Int32} (h : X0_isTowMinute σ b x1 x2 = some q) : Met l yX0_isTowMinute (Cond.code yX0_isTowMinute cX0_isTowMinute 3 (some .boolean) :: gl) ({ frames := 0, cells := 0, slots := 0, locals := 0 }) (g_Pc D y ad σ sz [.ref (ad b), .int x1, .int x2]) (g_Qi D y ad σ sz q) 0 0 (g_A ad sz) := by
  have ho := h
  unfold X0_isTowMinute at ho
  refine g_start (by decide) (Nat.le_of_ble_eq_true rfl) (fun p e s m below meth c ls hC hr hlk hsz hW hl => ?_)
  have hx := hC.1
  have hcd := hC.2.1
  have hl : lv_has ls 3 [(0, .ref (ad b)), (1, .int x1), (2, .int x2)] := hl
  refine lv_iload_n hx hcd dX0_isTowMinute_0 rfl (lv_at hl 2 rfl) ?_
  refine lv_aload_n hx hcd dX0_isTowMinute_1 rfl (lv_at hl 0 rfl) ?_
  refine g_getr hC hW (C := RX0) (T := TX0) (N := 16) (ci := 2) (k := 9) (index := 28) (i := b) (r := (b + 5)) inGX0 rfl (by decide) fl_X0_28 (g_lt_air hb) (g_sh_air hb) rfl dX0_isTowMinute_2 ?_
  refine lv_iload_n hx hcd dX0_isTowMinute_5 rfl (lv_at hl 1 rfl) ?_
  obtain ⟨i1, ho⟩ := gd_some ho
  refine g_iald hC hW (i := (b + 5)) (g_lt_arr (j := 5) hb (by decide)) (g_sa5 hb) i1 dX0_isTowMinute_6 ?_
  refine lv_bipush (v := 10) hx hcd dX0_isTowMinute_7 (by decide) ?_
  refine lv_iadd hx hcd dX0_isTowMinute_9 ?_
  refine lv_icmp_lt (tgt := 30) hx hcd dX0_isTowMinute_10 (by decide) (fun c2 => ?_) (fun c2 => ?_)
  · have ho := gif_p ho c2
    refine lv_iconst (v := 0) hx hcd dX0_isTowMinute_30 (by decide) ?_
    obtain rfl := Option.some.inj ho
    exact g_zret (r := 0) hC hr hlk hsz hW (by decide) dX0_isTowMinute_31
  · have ho := gif_n ho c2
    refine lv_iload_n hx hcd dX0_isTowMinute_13 rfl (lv_at hl 2 rfl) ?_
    refine lv_aload_n hx hcd dX0_isTowMinute_14 rfl (lv_at hl 0 rfl) ?_
    refine g_getr hC hW (C := RX0) (T := TX0) (N := 16) (ci := 2) (k := 10) (index := 31) (i := b) (r := (b + 6)) inGX0 rfl (by decide) fl_X0_31 (g_lt_air hb) (g_sh_air hb) rfl dX0_isTowMinute_15 ?_
    refine lv_iload_n hx hcd dX0_isTowMinute_18 rfl (lv_at hl 1 rfl) ?_
    refine g_iald hC hW (i := (b + 6)) (g_lt_arr (j := 6) hb (by decide)) (g_sa6 hb) i1 dX0_isTowMinute_19 ?_
    refine lv_bipush (v := 20) hx hcd dX0_isTowMinute_20 (by decide) ?_
    refine lv_isub hx hcd dX0_isTowMinute_22 ?_
    refine lv_icmp_gt (tgt := 30) hx hcd dX0_isTowMinute_23 (by decide) (fun c3 => ?_) (fun c3 => ?_)
    · have ho := gif_p ho c3
      refine lv_iconst (v := 0) hx hcd dX0_isTowMinute_30 (by decide) ?_
      obtain rfl := Option.some.inj ho
      exact g_zret (r := 0) hC hr hlk hsz hW (by decide) dX0_isTowMinute_31
    · have ho := gif_n ho c3
      refine lv_iconst (v := 1) hx hcd dX0_isTowMinute_26 (by decide) ?_
      refine lv_goto (tgt := 31) hx hcd dX0_isTowMinute_27 (by decide) ?_
      obtain rfl := Option.some.inj ho
      exact g_zret (r := 1) hC hr hlk hsz hW (by decide) dX0_isTowMinute_31
noncomputable def X0_divide (σ : gS) (b : Nat) (x1 : Int32) (x2 : Int32) : Option (Int32 × gS) :=
  gd (ib x1 10) <| lt_ (g_up σ (b + 8) x1.toNatClampNeg x2) fun σ2 => (X0_setStays σ2 b x1).bind fun σ4 => gd (ib (((2 : Int32) * x1) + (1 : Int32)) 20) <| some (((σ4 (b + 10) (((2 : Int32) * x1) + (1 : Int32)).toNatClampNeg) - (σ4 (b + 9) (((2 : Int32) * x1) + (1 : Int32)).toNatClampNeg)), σ4)
set_option maxHeartbeats 4000000 in
set_option maxRecDepth 100000 in
theorem c_X0_divide (l : Launch) (D : va_G) (y : ClassId × ClassId × ClassId) (ad : Nat → Nat) {b : Nat} (hb : g_air b) (x1 : Int32) (x2 : Int32) (σ : gS) (sz : Nat) {q : Int32 × gS} (h : X0_divide σ b x1 x2 = some q) : Met l yX0_divide (Cond.code yX0_divide cX0_divide 3 (some .int) :: gl) ({ frames := 2, cells := 0, slots := 0, locals := 44 }) (g_Pc D y ad σ sz [.ref (ad b), .int x1, .int x2]) (g_Qi D y ad q.2 sz q.1) 0 0 (g_A ad sz) := by
  have ho := h
  unfold X0_divide at ho
  refine g_start (by decide) (Nat.le_of_ble_eq_true rfl) (fun p e s m below meth c ls hC hr hlk hsz hW hl => ?_)
  have hx := hC.1
  have hcd := hC.2.1
  have hl : lv_has ls 3 [(0, .ref (ad b)), (1, .int x1), (2, .int x2)] := hl
  refine lv_aload_n hx hcd dX0_divide_0 rfl (lv_at hl 0 rfl) ?_
  refine g_getr hC hW (C := RX0) (T := TX0) (N := 16) (ci := 2) (k := 12) (index := 37) (i := b) (r := (b + 8)) inGX0 rfl (by decide) fl_X0_37 (g_lt_air hb) (g_sh_air hb) rfl dX0_divide_1 ?_
  refine lv_iload_n hx hcd dX0_divide_4 rfl (lv_at hl 1 rfl) ?_
  refine lv_iload_n hx hcd dX0_divide_5 rfl (lv_at hl 2 rfl) ?_
  obtain ⟨i1, ho⟩ := gd_some ho
  obtain ⟨σ2, eσ2, ho⟩ := lt_ex ho
  refine g_iast hC hW (i := (b + 8)) (g_lt_arr (j := 8) hb (by decide)) (g_sa8 hb) i1 dX0_divide_6 (fun H locs hW => ?_)
  rw [← eσ2] at hW
  refine lv_aload_n hx hcd dX0_divide_7 rfl (lv_at hl 0 rfl) ?_
  refine lv_iload_n hx hcd dX0_divide_8 rfl (lv_at hl 1 rfl) ?_
  obtain ⟨σ4, h3, ho⟩ := gb_some ho
  refine g_callv hW (g_runV (As := [.int x1]) (rest := []) (i := b) hC hW (c_X0_setStays l D y ad hb x1 _ _ h3) ok_X0_83 ⟨rfl, rfl, Nat.le_of_ble_eq_true rfl, Nat.le_of_ble_eq_true rfl⟩ (g_lt_air hb) (g_sh_air hb) rfl rfl rfl hl.1 rfl (Nat.le_of_ble_eq_true rfl) dX0_divide_9 ⟨Nat.zero_le _, Nat.zero_le _⟩) (fun H locs hW => ?_)
  refine lv_aload_n hx hcd dX0_divide_12 rfl (lv_at hl 0 rfl) ?_
  refine g_getr hC hW (C := RX0) (T := TX0) (N := 16) (ci := 2) (k := 14) (index := 43) (i := b) (r := (b + 10)) inGX0 rfl (by decide) fl_X0_43 (g_lt_air hb) (g_sh_air hb) rfl dX0_divide_13 ?_
  refine lv_iconst (v := 2) hx hcd dX0_divide_16 (by decide) ?_
  refine lv_iload_n hx hcd dX0_divide_17 rfl (lv_at hl 1 rfl) ?_
  refine lv_imul hx hcd dX0_divide_18 ?_
  refine lv_iconst (v := 1) hx hcd dX0_divide_19 (by decide) ?_
  refine lv_iadd hx hcd dX0_divide_20 ?_
  obtain ⟨i5, ho⟩ := gd_some ho
  refine g_iald hC hW (i := (b + 10)) (g_lt_arr (j := 10) hb (by decide)) (g_sa10 hb) i5 dX0_divide_21 ?_
  refine lv_aload_n hx hcd dX0_divide_22 rfl (lv_at hl 0 rfl) ?_
  refine g_getr hC hW (C := RX0) (T := TX0) (N := 16) (ci := 2) (k := 13) (index := 40) (i := b) (r := (b + 9)) inGX0 rfl (by decide) fl_X0_40 (g_lt_air hb) (g_sh_air hb) rfl dX0_divide_23 ?_
  refine lv_iconst (v := 2) hx hcd dX0_divide_26 (by decide) ?_
  refine lv_iload_n hx hcd dX0_divide_27 rfl (lv_at hl 1 rfl) ?_
  refine lv_imul hx hcd dX0_divide_28 ?_
  refine lv_iconst (v := 1) hx hcd dX0_divide_29 (by decide) ?_
  refine lv_iadd hx hcd dX0_divide_30 ?_
  refine g_iald hC hW (i := (b + 9)) (g_lt_arr (j := 9) hb (by decide)) (g_sa9 hb) i5 dX0_divide_31 ?_
  refine lv_isub hx hcd dX0_divide_32 ?_
  obtain rfl := Option.some.inj ho
  exact g_iret hC hr hlk hsz hW dX0_divide_33
noncomputable def X0_join (σ : gS) (b : Nat) (x1 : Int32) : Option (Int32 × gS) :=
  gd (ib (((2 : Int32) * x1) + (1 : Int32)) 20) <| gd (ib x1 10) <| lt_ (g_up σ (b + 8) x1.toNatClampNeg (-1)) fun σ3 => lt_ (g_up σ3 (b + 11) (((2 : Int32) * x1) + (1 : Int32)).toNatClampNeg (-1)) fun σ4 => (X0_setStays σ4 b x1).bind fun σ6 => some ((σ (b + 11) (((2 : Int32) * x1) + (1 : Int32)).toNatClampNeg), σ6)
set_option maxHeartbeats 4000000 in
set_option maxRecDepth 100000 in
theorem c_X0_join (l : Launch) (D : va_G) (y : ClassId × ClassId × ClassId) (ad : Nat → Nat) {b : Nat} (hb : g_air b) (x1 : Int32) (σ : gS) (sz : Nat) {q : Int32 × gS} (h : X0_join σ b x1 = some q) : Met l yX0_join (Cond.code yX0_join cX0_join 3 (some .int) :: gl) ({ frames := 2, cells := 0, slots := 0, locals := 44 }) (g_Pc D y ad σ sz [.ref (ad b), .int x1]) (g_Qi D y ad q.2 sz q.1) 0 0 (g_A ad sz) := by
  have ho := h
  unfold X0_join at ho
  refine g_start (by decide) (Nat.le_of_ble_eq_true rfl) (fun p e s m below meth c ls hC hr hlk hsz hW hl => ?_)
  have hx := hC.1
  have hcd := hC.2.1
  have hl : lv_has ls 3 [(0, .ref (ad b)), (1, .int x1)] := hl
  refine lv_aload_n hx hcd dX0_join_0 rfl (lv_at hl 0 rfl) ?_
  refine g_getr hC hW (C := RX0) (T := TX0) (N := 16) (ci := 2) (k := 15) (index := 46) (i := b) (r := (b + 11)) inGX0 rfl (by decide) fl_X0_46 (g_lt_air hb) (g_sh_air hb) rfl dX0_join_1 ?_
  refine lv_iconst (v := 2) hx hcd dX0_join_4 (by decide) ?_
  refine lv_iload_n hx hcd dX0_join_5 rfl (lv_at hl 1 rfl) ?_
  refine lv_imul hx hcd dX0_join_6 ?_
  refine lv_iconst (v := 1) hx hcd dX0_join_7 (by decide) ?_
  refine lv_iadd hx hcd dX0_join_8 ?_
  obtain ⟨i1, ho⟩ := gd_some ho
  refine g_iald hC hW (i := (b + 11)) (g_lt_arr (j := 11) hb (by decide)) (g_sa11 hb) i1 dX0_join_9 ?_
  refine lv_istore_n (lv' := [(2, .int (σ (b + 11) (((2 : Int32) * x1) + (1 : Int32)).toNatClampNeg)), (0, .ref (ad b)), (1, .int x1)]) hx hcd dX0_join_10 rfl hl (by decide) rfl (fun ls hl => ?_)
  refine lv_aload_n hx hcd dX0_join_11 rfl (lv_at hl 1 rfl) ?_
  refine g_getr hC hW (C := RX0) (T := TX0) (N := 16) (ci := 2) (k := 12) (index := 37) (i := b) (r := (b + 8)) inGX0 rfl (by decide) fl_X0_37 (g_lt_air hb) (g_sh_air hb) rfl dX0_join_12 ?_
  refine lv_iload_n hx hcd dX0_join_15 rfl (lv_at hl 2 rfl) ?_
  refine lv_iconst (v := (-1)) hx hcd dX0_join_16 (by decide) ?_
  obtain ⟨i2, ho⟩ := gd_some ho
  obtain ⟨σ3, eσ3, ho⟩ := lt_ex ho
  refine g_iast hC hW (i := (b + 8)) (g_lt_arr (j := 8) hb (by decide)) (g_sa8 hb) i2 dX0_join_17 (fun H locs hW => ?_)
  rw [← eσ3] at hW
  refine lv_aload_n hx hcd dX0_join_18 rfl (lv_at hl 1 rfl) ?_
  refine g_getr hC hW (C := RX0) (T := TX0) (N := 16) (ci := 2) (k := 15) (index := 46) (i := b) (r := (b + 11)) inGX0 rfl (by decide) fl_X0_46 (g_lt_air hb) (g_sh_air hb) rfl dX0_join_19 ?_
  refine lv_iconst (v := 2) hx hcd dX0_join_22 (by decide) ?_
  refine lv_iload_n hx hcd dX0_join_23 rfl (lv_at hl 2 rfl) ?_
  refine lv_imul hx hcd dX0_join_24 ?_
  refine lv_iconst (v := 1) hx hcd dX0_join_25 (by decide) ?_
  refine lv_iadd hx hcd dX0_join_26 ?_
  refine lv_iconst (v := (-1)) hx hcd dX0_join_27 (by decide) ?_
  obtain ⟨σ4, eσ4, ho⟩ := lt_ex ho
  refine g_iast hC hW (i := (b + 11)) (g_lt_arr (j := 11) hb (by decide)) (g_sa11 hb) i1 dX0_join_28 (fun H locs hW => ?_)
  rw [← eσ4] at hW
  refine lv_aload_n hx hcd dX0_join_29 rfl (lv_at hl 1 rfl) ?_
  refine lv_iload_n hx hcd dX0_join_30 rfl (lv_at hl 2 rfl) ?_
  obtain ⟨σ6, h5, ho⟩ := gb_some ho
  refine g_callv hW (g_runV (As := [.int x1]) (rest := []) (i := b) hC hW (c_X0_setStays l D y ad hb x1 _ _ h5) ok_X0_83 ⟨rfl, rfl, Nat.le_of_ble_eq_true rfl, Nat.le_of_ble_eq_true rfl⟩ (g_lt_air hb) (g_sh_air hb) rfl rfl rfl hl.1 rfl (Nat.le_of_ble_eq_true rfl) dX0_join_31 ⟨Nat.zero_le _, Nat.zero_le _⟩) (fun H locs hW => ?_)
  refine lv_iload_n hx hcd dX0_join_34 rfl (lv_at hl 0 rfl) ?_
  obtain rfl := Option.some.inj ho
  exact g_iret hC hr hlk hsz hW dX0_join_35
noncomputable def X0_towAfter (σ : gS) (b : Nat) (x1 : Int32) (x2 : Int32) : Option (Int32) :=
  gd (ib x1 10) <| some (if (σ (b + 8) x1.toNatClampNeg) < (((σ (b + 5) x1.toNatClampNeg) + x2) + (10 : Int32)) then (((σ (b + 5) x1.toNatClampNeg) + x2) + (10 : Int32)) else (σ (b + 8) x1.toNatClampNeg))
set_option maxHeartbeats 4000000 in
set_option maxRecDepth 100000 in
theorem c_X0_towAfter (l : Launch) (D : va_G) (y : ClassId × ClassId × ClassId) (ad : Nat → Nat) {b : Nat} (hb : g_air b) (x1 : Int32) (x2 : Int32) (σ : gS) (sz : Nat) {q : Int32} (h : X0_towAfter σ b x1 x2 = some q) : Met l yX0_towAfter (Cond.code yX0_towAfter cX0_towAfter 3 (some .int) :: gl) ({ frames := 1, cells := 0, slots := 0, locals := 24 }) (g_Pc D y ad σ sz [.ref (ad b), .int x1, .int x2]) (g_Qi D y ad σ sz q) 0 0 (g_A ad sz) := by
  have ho := h
  unfold X0_towAfter at ho
  refine g_start (by decide) (Nat.le_of_ble_eq_true rfl) (fun p e s m below meth c ls hC hr hlk hsz hW hl => ?_)
  have hx := hC.1
  have hcd := hC.2.1
  have hl : lv_has ls 3 [(0, .ref (ad b)), (1, .int x1), (2, .int x2)] := hl
  refine lv_aload_n hx hcd dX0_towAfter_0 rfl (lv_at hl 0 rfl) ?_
  refine g_getr hC hW (C := RX0) (T := TX0) (N := 16) (ci := 2) (k := 12) (index := 37) (i := b) (r := (b + 8)) inGX0 rfl (by decide) fl_X0_37 (g_lt_air hb) (g_sh_air hb) rfl dX0_towAfter_1 ?_
  refine lv_iload_n hx hcd dX0_towAfter_4 rfl (lv_at hl 1 rfl) ?_
  obtain ⟨i1, ho⟩ := gd_some ho
  refine g_iald hC hW (i := (b + 8)) (g_lt_arr (j := 8) hb (by decide)) (g_sa8 hb) i1 dX0_towAfter_5 ?_
  refine lv_aload_n hx hcd dX0_towAfter_6 rfl (lv_at hl 0 rfl) ?_
  refine g_getr hC hW (C := RX0) (T := TX0) (N := 16) (ci := 2) (k := 9) (index := 28) (i := b) (r := (b + 5)) inGX0 rfl (by decide) fl_X0_28 (g_lt_air hb) (g_sh_air hb) rfl dX0_towAfter_7 ?_
  refine lv_iload_n hx hcd dX0_towAfter_10 rfl (lv_at hl 1 rfl) ?_
  refine g_iald hC hW (i := (b + 5)) (g_lt_arr (j := 5) hb (by decide)) (g_sa5 hb) i1 dX0_towAfter_11 ?_
  refine lv_iload_n hx hcd dX0_towAfter_12 rfl (lv_at hl 2 rfl) ?_
  refine lv_iadd hx hcd dX0_towAfter_13 ?_
  refine lv_bipush (v := 10) hx hcd dX0_towAfter_14 (by decide) ?_
  refine lv_iadd hx hcd dX0_towAfter_16 ?_
  refine va_mmax hx hcd (hC.2.2.1.trans hl.1.symm) hC.2.2.2.1 (hC.2.2.2.2.1 _ ml_X0_87) (hC.2.2.2.2.1 _ mt_J9_max_7cf53) (hC.2.2.2.2.1 _ ii_J9) (hC.2.2.2.2.1 _ mc_J9_max_7cf53) (Nat.le_of_ble_eq_true rfl) (Nat.le_of_ble_eq_true rfl) (Nat.zero_le _) (Nat.zero_le _) dX0_towAfter_17 ?_
  obtain rfl := Option.some.inj ho
  exact g_iret hC hr hlk hsz hW dX0_towAfter_20
noncomputable def X0_departureAfter (σ : gS) (b : Nat) (x1 : Int32) (x2 : Int32) : Option (Int32) :=
  gd (ib x1 10) <| lt_ ((if (σ (b + 6) x1.toNatClampNeg) < (((σ (b + 5) x1.toNatClampNeg) + x2) + (30 : Int32)) then (((σ (b + 5) x1.toNatClampNeg) + x2) + (30 : Int32)) else (σ (b + 6) x1.toNatClampNeg))) fun v2 => (X0_hasTow σ b x1).bind fun r4 => if r4 = 0 then (some v2) else ((X0_towAfter σ b x1 x2).bind fun r7 => some (if v2 < (r7 + (20 : Int32)) then (r7 + (20 : Int32)) else v2))
set_option maxHeartbeats 4000000 in
set_option maxRecDepth 100000 in
theorem c_X0_departureAfter (l : Launch) (D : va_G) (y : ClassId × ClassId × ClassId) (ad : Nat → Nat) {b : Nat} (hb : g_air b) (x1 : Int32) (x2 : Int32) (σ : gS) (sz : Nat) {q : Int32} (h : X0_departureAfter σ b x1 x2 = some q) : Met l yX0_departureAfter (Cond.code yX0_departureAfter cX0_departureAfter 4 (some .int) :: gl) ({ frames := 2, cells := 0, slots := 0, locals := 46 }) (g_Pc D y ad σ sz [.ref (ad b), .int x1, .int x2]) (g_Qi D y ad σ sz q) 0 0 (g_A ad sz) := by
  have ho := h
  unfold X0_departureAfter at ho
  refine g_start (by decide) (Nat.le_of_ble_eq_true rfl) (fun p e s m below meth c ls hC hr hlk hsz hW hl => ?_)
  have hx := hC.1
  have hcd := hC.2.1
  have hl : lv_has ls 4 [(0, .ref (ad b)), (1, .int x1), (2, .int x2)] := hl
  refine lv_aload_n hx hcd dX0_departureAfter_0 rfl (lv_at hl 0 rfl) ?_
  refine g_getr hC hW (C := RX0) (T := TX0) (N := 16) (ci := 2) (k := 10) (index := 31) (i := b) (r := (b + 6)) inGX0 rfl (by decide) fl_X0_31 (g_lt_air hb) (g_sh_air hb) rfl dX0_departureAfter_1 ?_
  refine lv_iload_n hx hcd dX0_departureAfter_4 rfl (lv_at hl 1 rfl) ?_
  obtain ⟨i1, ho⟩ := gd_some ho
  refine g_iald hC hW (i := (b + 6)) (g_lt_arr (j := 6) hb (by decide)) (g_sa6 hb) i1 dX0_departureAfter_5 ?_
  refine lv_aload_n hx hcd dX0_departureAfter_6 rfl (lv_at hl 0 rfl) ?_
  refine g_getr hC hW (C := RX0) (T := TX0) (N := 16) (ci := 2) (k := 9) (index := 28) (i := b) (r := (b + 5)) inGX0 rfl (by decide) fl_X0_28 (g_lt_air hb) (g_sh_air hb) rfl dX0_departureAfter_7 ?_
  refine lv_iload_n hx hcd dX0_departureAfter_10 rfl (lv_at hl 1 rfl) ?_
  refine g_iald hC hW (i := (b + 5)) (g_lt_arr (j := 5) hb (by decide)) (g_sa5 hb) i1 dX0_departureAfter_11 ?_
  refine lv_iload_n hx hcd dX0_departureAfter_12 rfl (lv_at hl 2 rfl) ?_
  refine lv_iadd hx hcd dX0_departureAfter_13 ?_
  refine lv_bipush (v := 30) hx hcd dX0_departureAfter_14 (by decide) ?_
  refine lv_iadd hx hcd dX0_departureAfter_16 ?_
  refine va_mmax hx hcd (hC.2.2.1.trans hl.1.symm) hC.2.2.2.1 (hC.2.2.2.2.1 _ ml_X0_87) (hC.2.2.2.2.1 _ mt_J9_max_7cf53) (hC.2.2.2.2.1 _ ii_J9) (hC.2.2.2.2.1 _ mc_J9_max_7cf53) (Nat.le_of_ble_eq_true rfl) (Nat.le_of_ble_eq_true rfl) (Nat.zero_le _) (Nat.zero_le _) dX0_departureAfter_17 ?_
  obtain ⟨v2, ev2, ho⟩ := lt_ex ho
  rw [← ev2]
  refine lv_istore_n (lv' := [(3, .int v2), (0, .ref (ad b)), (1, .int x1), (2, .int x2)]) hx hcd dX0_departureAfter_20 rfl hl (by decide) rfl (fun ls hl => ?_)
  refine lv_aload_n hx hcd dX0_departureAfter_21 rfl (lv_at hl 1 rfl) ?_
  refine lv_iload_n hx hcd dX0_departureAfter_22 rfl (lv_at hl 2 rfl) ?_
  obtain ⟨r4, h3, ho⟩ := gb_some ho
  refine g_calli hW (g_runV (As := [.int x1]) (rest := []) (i := b) hC hW (c_X0_hasTow l D y ad hb x1 _ _ h3) ok_X0_77 ⟨rfl, rfl, Nat.le_of_ble_eq_true rfl, Nat.le_of_ble_eq_true rfl⟩ (g_lt_air hb) (g_sh_air hb) rfl rfl rfl hl.1 rfl (Nat.le_of_ble_eq_true rfl) dX0_departureAfter_23 ⟨Nat.zero_le _, Nat.zero_le _⟩) (fun H locs hW => ?_)
  refine lv_if_eq (tgt := 45) hx hcd dX0_departureAfter_26 (by decide) (fun c5 => ?_) (fun c5 => ?_)
  · have ho := gif_p ho c5
    refine lv_iload_n hx hcd dX0_departureAfter_45 rfl (lv_at hl 0 rfl) ?_
    obtain rfl := Option.some.inj ho
    exact g_iret hC hr hlk hsz hW dX0_departureAfter_46
  · have ho := gif_n ho c5
    refine lv_iload_n hx hcd dX0_departureAfter_29 rfl (lv_at hl 0 rfl) ?_
    refine lv_aload_n hx hcd dX0_departureAfter_30 rfl (lv_at hl 1 rfl) ?_
    refine lv_iload_n hx hcd dX0_departureAfter_31 rfl (lv_at hl 2 rfl) ?_
    refine lv_iload_n hx hcd dX0_departureAfter_32 rfl (lv_at hl 3 rfl) ?_
    obtain ⟨r7, h6, ho⟩ := gb_some ho
    refine g_calli hW (g_runV (As := [.int x1, .int x2]) (rest := [.int v2]) (i := b) hC hW (c_X0_towAfter l D y ad hb x1 x2 _ _ h6) ok_X0_93 ⟨rfl, rfl, Nat.le_of_ble_eq_true rfl, Nat.le_of_ble_eq_true rfl⟩ (g_lt_air hb) (g_sh_air hb) rfl rfl rfl hl.1 rfl (Nat.le_of_ble_eq_true rfl) dX0_departureAfter_33 ⟨Nat.zero_le _, Nat.zero_le _⟩) (fun H locs hW => ?_)
    refine lv_bipush (v := 20) hx hcd dX0_departureAfter_36 (by decide) ?_
    refine lv_iadd hx hcd dX0_departureAfter_38 ?_
    refine va_mmax hx hcd (hC.2.2.1.trans hl.1.symm) hC.2.2.2.1 (hC.2.2.2.2.1 _ ml_X0_87) (hC.2.2.2.2.1 _ mt_J9_max_7cf53) (hC.2.2.2.2.1 _ ii_J9) (hC.2.2.2.2.1 _ mc_J9_max_7cf53) (Nat.le_of_ble_eq_true rfl) (Nat.le_of_ble_eq_true rfl) (Nat.zero_le _) (Nat.zero_le _) dX0_departureAfter_39 ?_
    refine lv_goto (tgt := 46) hx hcd dX0_departureAfter_42 (by decide) ?_
    obtain rfl := Option.some.inj ho
    exact g_iret hC hr hlk hsz hW dX0_departureAfter_46
noncomputable def X0_postpone (σ : gS) (b : Nat) (x1 : Int32) (x2 : Int32) : Option (Int32 × gS) :=
  gd (ib x1 10) <| (X0_departureAfter σ b x1 x2).bind fun r3 => lt_ (g_up σ (b + 6) x1.toNatClampNeg r3) fun σ4 => (X0_hasTow σ4 b x1).bind fun r6 => if r6 = 0 then (lt_ (g_up σ4 (b + 5) x1.toNatClampNeg ((σ4 (b + 5) x1.toNatClampNeg) + x2)) fun σ8 => (X0_setStays σ8 b x1).bind fun σ10 => some (((σ10 (b + 6) x1.toNatClampNeg) - (σ (b + 6) x1.toNatClampNeg)), σ10)) else ((X0_towAfter σ4 b x1 x2).bind fun r12 => lt_ (g_up σ4 (b + 8) x1.toNatClampNeg r12) fun σ13 => lt_ (g_up σ13 (b + 5) x1.toNatClampNeg ((σ13 (b + 5) x1.toNatClampNeg) + x2)) fun σ14 => (X0_setStays σ14 b x1).bind fun σ16 => some (((σ16 (b + 6) x1.toNatClampNeg) - (σ (b + 6) x1.toNatClampNeg)), σ16))
set_option maxHeartbeats 4000000 in
set_option maxRecDepth 100000 in
theorem c_X0_postpone (l : Launch) (D : va_G) (y : ClassId × ClassId × ClassId) (ad : Nat → Nat) {b : Nat} (hb : g_air b) (x1 : Int32) (x2 : Int32) (σ : gS) (sz : Nat) {q : Int32 × gS} (h : X0_postpone σ b x1 x2 = some q) : Met l yX0_postpone (Cond.code yX0_postpone cX0_postpone 4 (some .int) :: gl) ({ frames := 3, cells := 0, slots := 0, locals := 69 }) (g_Pc D y ad σ sz [.ref (ad b), .int x1, .int x2]) (g_Qi D y ad q.2 sz q.1) 0 0 (g_A ad sz) := by
  have ho := h
  unfold X0_postpone at ho
  refine g_start (by decide) (Nat.le_of_ble_eq_true rfl) (fun p e s m below meth c ls hC hr hlk hsz hW hl => ?_)
  have hx := hC.1
  have hcd := hC.2.1
  have hl : lv_has ls 4 [(0, .ref (ad b)), (1, .int x1), (2, .int x2)] := hl
  refine lv_aload_n hx hcd dX0_postpone_0 rfl (lv_at hl 0 rfl) ?_
  refine g_getr hC hW (C := RX0) (T := TX0) (N := 16) (ci := 2) (k := 10) (index := 31) (i := b) (r := (b + 6)) inGX0 rfl (by decide) fl_X0_31 (g_lt_air hb) (g_sh_air hb) rfl dX0_postpone_1 ?_
  refine lv_iload_n hx hcd dX0_postpone_4 rfl (lv_at hl 1 rfl) ?_
  obtain ⟨i1, ho⟩ := gd_some ho
  refine g_iald hC hW (i := (b + 6)) (g_lt_arr (j := 6) hb (by decide)) (g_sa6 hb) i1 dX0_postpone_5 ?_
  refine lv_istore_n (lv' := [(3, .int (σ (b + 6) x1.toNatClampNeg)), (0, .ref (ad b)), (1, .int x1), (2, .int x2)]) hx hcd dX0_postpone_6 rfl hl (by decide) rfl (fun ls hl => ?_)
  refine lv_aload_n hx hcd dX0_postpone_7 rfl (lv_at hl 1 rfl) ?_
  refine g_getr hC hW (C := RX0) (T := TX0) (N := 16) (ci := 2) (k := 10) (index := 31) (i := b) (r := (b + 6)) inGX0 rfl (by decide) fl_X0_31 (g_lt_air hb) (g_sh_air hb) rfl dX0_postpone_8 ?_
  refine lv_iload_n hx hcd dX0_postpone_11 rfl (lv_at hl 2 rfl) ?_
  refine lv_aload_n hx hcd dX0_postpone_12 rfl (lv_at hl 1 rfl) ?_
  refine lv_iload_n hx hcd dX0_postpone_13 rfl (lv_at hl 2 rfl) ?_
  refine lv_iload_n hx hcd dX0_postpone_14 rfl (lv_at hl 3 rfl) ?_
  obtain ⟨r3, h2, ho⟩ := gb_some ho
  refine g_calli hW (g_runV (As := [.int x1, .int x2]) (rest := [.int x1, .ref (ad (b + 6))]) (i := b) hC hW (c_X0_departureAfter l D y ad hb x1 x2 _ _ h2) ok_X0_96 ⟨rfl, rfl, Nat.le_of_ble_eq_true rfl, Nat.le_of_ble_eq_true rfl⟩ (g_lt_air hb) (g_sh_air hb) rfl rfl rfl hl.1 rfl (Nat.le_of_ble_eq_true rfl) dX0_postpone_15 ⟨Nat.zero_le _, Nat.zero_le _⟩) (fun H locs hW => ?_)
  obtain ⟨σ4, eσ4, ho⟩ := lt_ex ho
  refine g_iast hC hW (i := (b + 6)) (g_lt_arr (j := 6) hb (by decide)) (g_sa6 hb) i1 dX0_postpone_18 (fun H locs hW => ?_)
  rw [← eσ4] at hW
  refine lv_aload_n hx hcd dX0_postpone_19 rfl (lv_at hl 1 rfl) ?_
  refine lv_iload_n hx hcd dX0_postpone_20 rfl (lv_at hl 2 rfl) ?_
  obtain ⟨r6, h5, ho⟩ := gb_some ho
  refine g_calli hW (g_runV (As := [.int x1]) (rest := []) (i := b) hC hW (c_X0_hasTow l D y ad hb x1 _ _ h5) ok_X0_77 ⟨rfl, rfl, Nat.le_of_ble_eq_true rfl, Nat.le_of_ble_eq_true rfl⟩ (g_lt_air hb) (g_sh_air hb) rfl rfl rfl hl.1 rfl (Nat.le_of_ble_eq_true rfl) dX0_postpone_21 ⟨Nat.zero_le _, Nat.zero_le _⟩) (fun H locs hW => ?_)
  refine lv_if_eq (tgt := 39) hx hcd dX0_postpone_24 (by decide) (fun c7 => ?_) (fun c7 => ?_)
  · have ho := gif_p ho c7
    refine lv_aload_n hx hcd dX0_postpone_39 rfl (lv_at hl 1 rfl) ?_
    refine g_getr hC hW (C := RX0) (T := TX0) (N := 16) (ci := 2) (k := 9) (index := 28) (i := b) (r := (b + 5)) inGX0 rfl (by decide) fl_X0_28 (g_lt_air hb) (g_sh_air hb) rfl dX0_postpone_40 ?_
    refine lv_iload_n hx hcd dX0_postpone_43 rfl (lv_at hl 2 rfl) ?_
    refine lv_dup2_11 hx hcd dX0_postpone_44 rfl rfl ?_
    refine g_iald hC hW (i := (b + 5)) (g_lt_arr (j := 5) hb (by decide)) (g_sa5 hb) i1 dX0_postpone_45 ?_
    refine lv_iload_n hx hcd dX0_postpone_46 rfl (lv_at hl 3 rfl) ?_
    refine lv_iadd hx hcd dX0_postpone_47 ?_
    obtain ⟨σ8, eσ8, ho⟩ := lt_ex ho
    refine g_iast hC hW (i := (b + 5)) (g_lt_arr (j := 5) hb (by decide)) (g_sa5 hb) i1 dX0_postpone_48 (fun H locs hW => ?_)
    rw [← eσ8] at hW
    refine lv_aload_n hx hcd dX0_postpone_49 rfl (lv_at hl 1 rfl) ?_
    refine lv_iload_n hx hcd dX0_postpone_50 rfl (lv_at hl 2 rfl) ?_
    obtain ⟨σ10, h9, ho⟩ := gb_some ho
    refine g_callv hW (g_runV (As := [.int x1]) (rest := []) (i := b) hC hW (c_X0_setStays l D y ad hb x1 _ _ h9) ok_X0_83 ⟨rfl, rfl, Nat.le_of_ble_eq_true rfl, Nat.le_of_ble_eq_true rfl⟩ (g_lt_air hb) (g_sh_air hb) rfl rfl rfl hl.1 rfl (Nat.le_of_ble_eq_true rfl) dX0_postpone_51 ⟨Nat.zero_le _, Nat.zero_le _⟩) (fun H locs hW => ?_)
    refine lv_aload_n hx hcd dX0_postpone_54 rfl (lv_at hl 1 rfl) ?_
    refine g_getr hC hW (C := RX0) (T := TX0) (N := 16) (ci := 2) (k := 10) (index := 31) (i := b) (r := (b + 6)) inGX0 rfl (by decide) fl_X0_31 (g_lt_air hb) (g_sh_air hb) rfl dX0_postpone_55 ?_
    refine lv_iload_n hx hcd dX0_postpone_58 rfl (lv_at hl 2 rfl) ?_
    refine g_iald hC hW (i := (b + 6)) (g_lt_arr (j := 6) hb (by decide)) (g_sa6 hb) i1 dX0_postpone_59 ?_
    refine lv_iload_n hx hcd dX0_postpone_60 rfl (lv_at hl 0 rfl) ?_
    refine lv_isub hx hcd dX0_postpone_61 ?_
    obtain rfl := Option.some.inj ho
    exact g_iret hC hr hlk hsz hW dX0_postpone_62
  · have ho := gif_n ho c7
    refine lv_aload_n hx hcd dX0_postpone_27 rfl (lv_at hl 1 rfl) ?_
    refine g_getr hC hW (C := RX0) (T := TX0) (N := 16) (ci := 2) (k := 12) (index := 37) (i := b) (r := (b + 8)) inGX0 rfl (by decide) fl_X0_37 (g_lt_air hb) (g_sh_air hb) rfl dX0_postpone_28 ?_
    refine lv_iload_n hx hcd dX0_postpone_31 rfl (lv_at hl 2 rfl) ?_
    refine lv_aload_n hx hcd dX0_postpone_32 rfl (lv_at hl 1 rfl) ?_
    refine lv_iload_n hx hcd dX0_postpone_33 rfl (lv_at hl 2 rfl) ?_
    refine lv_iload_n hx hcd dX0_postpone_34 rfl (lv_at hl 3 rfl) ?_
    obtain ⟨r12, h11, ho⟩ := gb_some ho
    refine g_calli hW (g_runV (As := [.int x1, .int x2]) (rest := [.int x1, .ref (ad (b + 8))]) (i := b) hC hW (c_X0_towAfter l D y ad hb x1 x2 _ _ h11) ok_X0_93 ⟨rfl, rfl, Nat.le_of_ble_eq_true rfl, Nat.le_of_ble_eq_true rfl⟩ (g_lt_air hb) (g_sh_air hb) rfl rfl rfl hl.1 rfl (Nat.le_of_ble_eq_true rfl) dX0_postpone_35 ⟨Nat.zero_le _, Nat.zero_le _⟩) (fun H locs hW => ?_)
    obtain ⟨σ13, eσ13, ho⟩ := lt_ex ho
    refine g_iast hC hW (i := (b + 8)) (g_lt_arr (j := 8) hb (by decide)) (g_sa8 hb) i1 dX0_postpone_38 (fun H locs hW => ?_)
    rw [← eσ13] at hW
    refine lv_aload_n hx hcd dX0_postpone_39 rfl (lv_at hl 1 rfl) ?_
    refine g_getr hC hW (C := RX0) (T := TX0) (N := 16) (ci := 2) (k := 9) (index := 28) (i := b) (r := (b + 5)) inGX0 rfl (by decide) fl_X0_28 (g_lt_air hb) (g_sh_air hb) rfl dX0_postpone_40 ?_
    refine lv_iload_n hx hcd dX0_postpone_43 rfl (lv_at hl 2 rfl) ?_
    refine lv_dup2_11 hx hcd dX0_postpone_44 rfl rfl ?_
    refine g_iald hC hW (i := (b + 5)) (g_lt_arr (j := 5) hb (by decide)) (g_sa5 hb) i1 dX0_postpone_45 ?_
    refine lv_iload_n hx hcd dX0_postpone_46 rfl (lv_at hl 3 rfl) ?_
    refine lv_iadd hx hcd dX0_postpone_47 ?_
    obtain ⟨σ14, eσ14, ho⟩ := lt_ex ho
    refine g_iast hC hW (i := (b + 5)) (g_lt_arr (j := 5) hb (by decide)) (g_sa5 hb) i1 dX0_postpone_48 (fun H locs hW => ?_)
    rw [← eσ14] at hW
    refine lv_aload_n hx hcd dX0_postpone_49 rfl (lv_at hl 1 rfl) ?_
    refine lv_iload_n hx hcd dX0_postpone_50 rfl (lv_at hl 2 rfl) ?_
    obtain ⟨σ16, h15, ho⟩ := gb_some ho
    refine g_callv hW (g_runV (As := [.int x1]) (rest := []) (i := b) hC hW (c_X0_setStays l D y ad hb x1 _ _ h15) ok_X0_83 ⟨rfl, rfl, Nat.le_of_ble_eq_true rfl, Nat.le_of_ble_eq_true rfl⟩ (g_lt_air hb) (g_sh_air hb) rfl rfl rfl hl.1 rfl (Nat.le_of_ble_eq_true rfl) dX0_postpone_51 ⟨Nat.zero_le _, Nat.zero_le _⟩) (fun H locs hW => ?_)
    refine lv_aload_n hx hcd dX0_postpone_54 rfl (lv_at hl 1 rfl) ?_
    refine g_getr hC hW (C := RX0) (T := TX0) (N := 16) (ci := 2) (k := 10) (index := 31) (i := b) (r := (b + 6)) inGX0 rfl (by decide) fl_X0_31 (g_lt_air hb) (g_sh_air hb) rfl dX0_postpone_55 ?_
    refine lv_iload_n hx hcd dX0_postpone_58 rfl (lv_at hl 2 rfl) ?_
    refine g_iald hC hW (i := (b + 6)) (g_lt_arr (j := 6) hb (by decide)) (g_sa6 hb) i1 dX0_postpone_59 ?_
    refine lv_iload_n hx hcd dX0_postpone_60 rfl (lv_at hl 0 rfl) ?_
    refine lv_isub hx hcd dX0_postpone_61 ?_
    obtain rfl := Option.some.inj ho
    exact g_iret hC hr hlk hsz hW dX0_postpone_62
noncomputable def X0_isThere (σ : gS) (b : Nat) (x1 : Int32) (x2 : Int32) : Option (Int32) :=
  gd (ib x1 20) <| if x2 < (σ (b + 9) x1.toNatClampNeg) then (some 0) else (if (σ (b + 10) x1.toNatClampNeg) ≤ x2 then (some 0) else (some 1))
set_option maxHeartbeats 4000000 in
set_option maxRecDepth 100000 in
theorem c_X0_isThere (l : Launch) (D : va_G) (y : ClassId × ClassId × ClassId) (ad : Nat → Nat) {b : Nat} (hb : g_air b) (x1 : Int32) (x2 : Int32) (σ : gS) (sz : Nat) {q : Int32} (h : X0_isThere σ b x1 x2 = some q) : Met l yX0_isThere (Cond.code yX0_isThere cX0_isThere 3 (some .boolean) :: gl) ({ frames := 0, cells := 0, slots := 0, locals := 0 }) (g_Pc D y ad σ sz [.ref (ad b), .int x1, .int x2]) (g_Qi D y ad σ sz q) 0 0 (g_A ad sz) := by
  have ho := h
  unfold X0_isThere at ho
  refine g_start (by decide) (Nat.le_of_ble_eq_true rfl) (fun p e s m below meth c ls hC hr hlk hsz hW hl => ?_)
  have hx := hC.1
  have hcd := hC.2.1
  have hl : lv_has ls 3 [(0, .ref (ad b)), (1, .int x1), (2, .int x2)] := hl
  refine lv_aload_n hx hcd dX0_isThere_0 rfl (lv_at hl 0 rfl) ?_
  refine g_getr hC hW (C := RX0) (T := TX0) (N := 16) (ci := 2) (k := 13) (index := 40) (i := b) (r := (b + 9)) inGX0 rfl (by decide) fl_X0_40 (g_lt_air hb) (g_sh_air hb) rfl dX0_isThere_1 ?_
  refine lv_iload_n hx hcd dX0_isThere_4 rfl (lv_at hl 1 rfl) ?_
  obtain ⟨i1, ho⟩ := gd_some ho
  refine g_iald hC hW (i := (b + 9)) (g_lt_arr (j := 9) hb (by decide)) (g_sa9 hb) i1 dX0_isThere_5 ?_
  refine lv_iload_n hx hcd dX0_isThere_6 rfl (lv_at hl 2 rfl) ?_
  refine lv_icmp_gt (tgt := 24) hx hcd dX0_isThere_7 (by decide) (fun c2 => ?_) (fun c2 => ?_)
  · have ho := gif_p ho c2
    refine lv_iconst (v := 0) hx hcd dX0_isThere_24 (by decide) ?_
    obtain rfl := Option.some.inj ho
    exact g_zret (r := 0) hC hr hlk hsz hW (by decide) dX0_isThere_25
  · have ho := gif_n ho c2
    refine lv_iload_n hx hcd dX0_isThere_10 rfl (lv_at hl 2 rfl) ?_
    refine lv_aload_n hx hcd dX0_isThere_11 rfl (lv_at hl 0 rfl) ?_
    refine g_getr hC hW (C := RX0) (T := TX0) (N := 16) (ci := 2) (k := 14) (index := 43) (i := b) (r := (b + 10)) inGX0 rfl (by decide) fl_X0_43 (g_lt_air hb) (g_sh_air hb) rfl dX0_isThere_12 ?_
    refine lv_iload_n hx hcd dX0_isThere_15 rfl (lv_at hl 1 rfl) ?_
    refine g_iald hC hW (i := (b + 10)) (g_lt_arr (j := 10) hb (by decide)) (g_sa10 hb) i1 dX0_isThere_16 ?_
    refine lv_icmp_ge (tgt := 24) hx hcd dX0_isThere_17 (by decide) (fun c3 => ?_) (fun c3 => ?_)
    · have ho := gif_p ho c3
      refine lv_iconst (v := 0) hx hcd dX0_isThere_24 (by decide) ?_
      obtain rfl := Option.some.inj ho
      exact g_zret (r := 0) hC hr hlk hsz hW (by decide) dX0_isThere_25
    · have ho := gif_n ho c3
      refine lv_iconst (v := 1) hx hcd dX0_isThere_20 (by decide) ?_
      refine lv_goto (tgt := 25) hx hcd dX0_isThere_21 (by decide) ?_
      obtain rfl := Option.some.inj ho
      exact g_zret (r := 1) hC hr hlk hsz hW (by decide) dX0_isThere_25
noncomputable def X0_allStays_k0 (σ : gS) (b : Nat) (x1 : Int32) (x2 : Int32) : Option ((Int32 × Int32) ⊕ (Int32)) :=
  if (σ b 1) ≤ x2 then (some (.inr x1)) else ((X0_hasTow σ b x2).bind fun r3 => if r3 = 0 then (some (.inl ((x1 ||| ((1 : Int32) <<< (((2 : Int32) * x2) &&& 31))), (x2 + 1)))) else (some (.inl ((x1 ||| ((3 : Int32) <<< (((2 : Int32) * x2) &&& 31))), (x2 + 1)))))
noncomputable def X0_allStays_s (σ : gS) (b : Nat) (a : Int32 × Int32) : Option ((Int32 × Int32) ⊕ (Int32)) :=
  X0_allStays_k0 σ b a.1 a.2
noncomputable def X0_allStays (σ : gS) (b : Nat) : Option (Int32) :=
  gr (X0_allStays_s σ b) (0, 0)
set_option maxHeartbeats 4000000 in
set_option maxRecDepth 100000 in
theorem l_X0_allStays {p : Program} {e : Env} {s : State} {m : MethodId} {args : Array Value} {below : List Frame} {meth : Method} {c : Code} (l : Launch) (D : va_G) (y : ClassId × ClassId × ClassId) (ad : Nat → Nat) {b : Nat} (hb : g_air b) (σ : gS) (sz : Nat) (hC : g_C p s m args c cX0_allStays 3 RX0 D y) (hr : meth.sig.returnType = (some .int)) (hlk : meth.locks = false) (hsz : s.heap.size = sz) {r0 : Int32} : ∀ a : Int32 × Int32, gr (X0_allStays_s σ b) a = some r0 → ∀ (H : Heap) (locs : List Loc) (ls : Array Slot), g_W (g_A ad sz) s.heap D y ad [] σ H locs → lv_has ls 3 [(0, .ref (ad b)), (1, .int a.1), (2, .int a.2)] → W p l e ({ frames := 1, cells := 0, slots := 0, locals := 21 }) s m args below meth c H locs 0 0 (MQ below (g_Qi D y ad σ sz r0) args s 0 0 (g_A ad sz)) (F0 m 4 ls []) := by
  have hx := hC.1
  have hcd := hC.2.1
  refine gr_all (fun a o ho hret hjmp => ?_)
  obtain ⟨x1, x2⟩ := a
  intro H locs ls hW hl
  have ho : X0_allStays_k0 σ b x1 x2 = some o := ho
  unfold X0_allStays_k0 at ho
  refine lv_iload_n hx hcd dX0_allStays_4 rfl (lv_at hl 2 rfl) ?_
  refine lv_aload_n hx hcd dX0_allStays_5 rfl (lv_at hl 0 rfl) ?_
  refine g_geti hC hW (C := RX0) (T := TX0) (N := 16) (ci := 2) (k := 1) (index := 58) (i := b) inGX0 rfl (by decide) fl_X0_58 (g_lt_air hb) (g_sh_air hb) rfl dX0_allStays_6 ?_
  refine lv_icmp_ge (tgt := 38) hx hcd dX0_allStays_9 (by decide) (fun c1 => ?_) (fun c1 => ?_)
  · have ho := gif_p ho c1
    refine lv_iload_n hx hcd dX0_allStays_38 rfl (lv_at hl 1 rfl) ?_
    obtain rfl := hret _ (Option.some.inj ho).symm
    exact g_iret hC hr hlk hsz hW dX0_allStays_39
  · have ho := gif_n ho c1
    refine lv_iload_n hx hcd dX0_allStays_12 rfl (lv_at hl 1 rfl) ?_
    refine lv_aload_n hx hcd dX0_allStays_13 rfl (lv_at hl 0 rfl) ?_
    refine lv_iload_n hx hcd dX0_allStays_14 rfl (lv_at hl 2 rfl) ?_
    obtain ⟨r3, h2, ho⟩ := gb_some ho
    refine g_calli hW (g_runV (As := [.int x2]) (rest := [.int x1]) (i := b) hC hW (c_X0_hasTow l D y ad hb x2 _ _ h2) ok_X0_77 ⟨rfl, rfl, Nat.le_of_ble_eq_true rfl, Nat.le_of_ble_eq_true rfl⟩ (g_lt_air hb) (g_sh_air hb) rfl rfl rfl hl.1 rfl (Nat.le_of_ble_eq_true rfl) dX0_allStays_15 ⟨Nat.zero_le _, Nat.zero_le _⟩) (fun H locs hW => ?_)
    refine lv_if_eq (tgt := 25) hx hcd dX0_allStays_18 (by decide) (fun c4 => ?_) (fun c4 => ?_)
    · have ho := gif_p ho c4
      refine lv_iconst (v := 1) hx hcd dX0_allStays_25 (by decide) ?_
      refine lv_iconst (v := 2) hx hcd dX0_allStays_26 (by decide) ?_
      refine lv_iload_n hx hcd dX0_allStays_27 rfl (lv_at hl 2 rfl) ?_
      refine lv_imul hx hcd dX0_allStays_28 ?_
      refine lv_ishl hx hcd dX0_allStays_29 ?_
      refine lv_ior hx hcd dX0_allStays_30 ?_
      refine lv_istore_n (lv' := [(1, .int (x1 ||| ((1 : Int32) <<< (((2 : Int32) * x2) &&& 31)))), (0, .ref (ad b)), (2, .int x2)]) hx hcd dX0_allStays_31 rfl hl (by decide) rfl (fun ls hl => ?_)
      refine lv_iinc (v := x2 + 1) (lv' := [(2, .int (x2 + 1)), (1, .int (x1 ||| ((1 : Int32) <<< (((2 : Int32) * x2) &&& 31)))), (0, .ref (ad b))]) hx hcd dX0_allStays_32 hl (k := 2) rfl rfl (by decide) rfl (fun ls hl => ?_)
      refine lv_goto (tgt := 4) hx hcd dX0_allStays_35 (by decide) ?_
      exact hjmp _ (Option.some.inj ho).symm _ _ _ hW (lv_sub hl [2, 1, 0] rfl)
    · have ho := gif_n ho c4
      refine lv_iconst (v := 3) hx hcd dX0_allStays_21 (by decide) ?_
      refine lv_goto (tgt := 26) hx hcd dX0_allStays_22 (by decide) ?_
      refine lv_iconst (v := 2) hx hcd dX0_allStays_26 (by decide) ?_
      refine lv_iload_n hx hcd dX0_allStays_27 rfl (lv_at hl 2 rfl) ?_
      refine lv_imul hx hcd dX0_allStays_28 ?_
      refine lv_ishl hx hcd dX0_allStays_29 ?_
      refine lv_ior hx hcd dX0_allStays_30 ?_
      refine lv_istore_n (lv' := [(1, .int (x1 ||| ((3 : Int32) <<< (((2 : Int32) * x2) &&& 31)))), (0, .ref (ad b)), (2, .int x2)]) hx hcd dX0_allStays_31 rfl hl (by decide) rfl (fun ls hl => ?_)
      refine lv_iinc (v := x2 + 1) (lv' := [(2, .int (x2 + 1)), (1, .int (x1 ||| ((3 : Int32) <<< (((2 : Int32) * x2) &&& 31)))), (0, .ref (ad b))]) hx hcd dX0_allStays_32 hl (k := 2) rfl rfl (by decide) rfl (fun ls hl => ?_)
      refine lv_goto (tgt := 4) hx hcd dX0_allStays_35 (by decide) ?_
      exact hjmp _ (Option.some.inj ho).symm _ _ _ hW (lv_sub hl [2, 1, 0] rfl)
set_option maxHeartbeats 4000000 in
set_option maxRecDepth 100000 in
theorem c_X0_allStays (l : Launch) (D : va_G) (y : ClassId × ClassId × ClassId) (ad : Nat → Nat) {b : Nat} (hb : g_air b) (σ : gS) (sz : Nat) {q : Int32} (h : X0_allStays σ b = some q) : Met l yX0_allStays (Cond.code yX0_allStays cX0_allStays 3 (some .int) :: gl) ({ frames := 1, cells := 0, slots := 0, locals := 21 }) (g_Pc D y ad σ sz [.ref (ad b)]) (g_Qi D y ad σ sz q) 0 0 (g_A ad sz) := by
  have ho := h
  unfold X0_allStays at ho
  refine g_start (by decide) (Nat.le_of_ble_eq_true rfl) (fun p e s m below meth c ls hC hr hlk hsz hW hl => ?_)
  have hx := hC.1
  have hcd := hC.2.1
  have hl : lv_has ls 3 [(0, .ref (ad b))] := hl
  refine lv_iconst (v := 0) hx hcd dX0_allStays_0 (by decide) ?_
  refine lv_istore_n (lv' := [(1, .int 0), (0, .ref (ad b))]) hx hcd dX0_allStays_1 rfl hl (by decide) rfl (fun ls hl => ?_)
  refine lv_iconst (v := 0) hx hcd dX0_allStays_2 (by decide) ?_
  refine lv_istore_n (lv' := [(2, .int 0), (1, .int 0), (0, .ref (ad b))]) hx hcd dX0_allStays_3 rfl hl (by decide) rfl (fun ls hl => ?_)
  exact l_X0_allStays l D y ad hb σ sz hC hr hlk hsz _ ho _ _ _ hW (lv_sub hl [2, 1, 0] rfl)
noncomputable def X0_staysOnStands_k0 (σ : gS) (b : Nat) (x1 : Int32) (x2 : Int32) : Option ((Int32 × Int32) ⊕ (Int32)) :=
  if 20 ≤ x2 then (some (.inr x1)) else ((X0_isOnStand σ b x2).bind fun r3 => if r3 = 0 then (some (.inl (x1, (x2 + 1)))) else (some (.inl ((x1 ||| ((1 : Int32) <<< (x2 &&& 31))), (x2 + 1)))))
noncomputable def X0_staysOnStands_s (σ : gS) (b : Nat) (a : Int32 × Int32) : Option ((Int32 × Int32) ⊕ (Int32)) :=
  X0_staysOnStands_k0 σ b a.1 a.2
noncomputable def X0_staysOnStands (σ : gS) (b : Nat) : Option (Int32) :=
  gr (X0_staysOnStands_s σ b) (0, 0)
set_option maxHeartbeats 4000000 in
set_option maxRecDepth 100000 in
theorem l_X0_staysOnStands {p : Program} {e : Env} {s : State} {m : MethodId} {args : Array Value} {below : List Frame} {meth : Method} {c : Code} (l : Launch) (D : va_G) (y : ClassId × ClassId × ClassId) (ad : Nat → Nat) {b : Nat} (hb : g_air b) (σ : gS) (sz : Nat) (hC : g_C p s m args c cX0_staysOnStands 3 RX0 D y) (hr : meth.sig.returnType = (some .int)) (hlk : meth.locks = false) (hsz : s.heap.size = sz) {r0 : Int32} : ∀ a : Int32 × Int32, gr (X0_staysOnStands_s σ b) a = some r0 → ∀ (H : Heap) (locs : List Loc) (ls : Array Slot), g_W (g_A ad sz) s.heap D y ad [] σ H locs → lv_has ls 3 [(0, .ref (ad b)), (1, .int a.1), (2, .int a.2)] → W p l e ({ frames := 1, cells := 0, slots := 0, locals := 21 }) s m args below meth c H locs 0 0 (MQ below (g_Qi D y ad σ sz r0) args s 0 0 (g_A ad sz)) (F0 m 4 ls []) := by
  have hx := hC.1
  have hcd := hC.2.1
  refine gr_all (fun a o ho hret hjmp => ?_)
  obtain ⟨x1, x2⟩ := a
  intro H locs ls hW hl
  have ho : X0_staysOnStands_k0 σ b x1 x2 = some o := ho
  unfold X0_staysOnStands_k0 at ho
  refine lv_iload_n hx hcd dX0_staysOnStands_4 rfl (lv_at hl 2 rfl) ?_
  refine lv_bipush (v := 20) hx hcd dX0_staysOnStands_5 (by decide) ?_
  refine lv_icmp_ge (tgt := 30) hx hcd dX0_staysOnStands_7 (by decide) (fun c1 => ?_) (fun c1 => ?_)
  · have ho := gif_p ho c1
    refine lv_iload_n hx hcd dX0_staysOnStands_30 rfl (lv_at hl 1 rfl) ?_
    obtain rfl := hret _ (Option.some.inj ho).symm
    exact g_iret hC hr hlk hsz hW dX0_staysOnStands_31
  · have ho := gif_n ho c1
    refine lv_aload_n hx hcd dX0_staysOnStands_10 rfl (lv_at hl 0 rfl) ?_
    refine lv_iload_n hx hcd dX0_staysOnStands_11 rfl (lv_at hl 2 rfl) ?_
    obtain ⟨r3, h2, ho⟩ := gb_some ho
    refine g_calli hW (g_runV (As := [.int x2]) (rest := []) (i := b) hC hW (c_X0_isOnStand l D y ad hb x2 _ _ h2) ok_X0_99 ⟨rfl, rfl, Nat.le_of_ble_eq_true rfl, Nat.le_of_ble_eq_true rfl⟩ (g_lt_air hb) (g_sh_air hb) rfl rfl rfl hl.1 rfl (Nat.le_of_ble_eq_true rfl) dX0_staysOnStands_12 ⟨Nat.zero_le _, Nat.zero_le _⟩) (fun H locs hW => ?_)
    refine lv_if_eq (tgt := 24) hx hcd dX0_staysOnStands_15 (by decide) (fun c4 => ?_) (fun c4 => ?_)
    · have ho := gif_p ho c4
      refine lv_iinc (v := x2 + 1) (lv' := [(2, .int (x2 + 1)), (0, .ref (ad b)), (1, .int x1)]) hx hcd dX0_staysOnStands_24 hl (k := 2) rfl rfl (by decide) rfl (fun ls hl => ?_)
      refine lv_goto (tgt := 4) hx hcd dX0_staysOnStands_27 (by decide) ?_
      exact hjmp _ (Option.some.inj ho).symm _ _ _ hW (lv_sub hl [1, 2, 0] rfl)
    · have ho := gif_n ho c4
      refine lv_iload_n hx hcd dX0_staysOnStands_18 rfl (lv_at hl 1 rfl) ?_
      refine lv_iconst (v := 1) hx hcd dX0_staysOnStands_19 (by decide) ?_
      refine lv_iload_n hx hcd dX0_staysOnStands_20 rfl (lv_at hl 2 rfl) ?_
      refine lv_ishl hx hcd dX0_staysOnStands_21 ?_
      refine lv_ior hx hcd dX0_staysOnStands_22 ?_
      refine lv_istore_n (lv' := [(1, .int (x1 ||| ((1 : Int32) <<< (x2 &&& 31)))), (0, .ref (ad b)), (2, .int x2)]) hx hcd dX0_staysOnStands_23 rfl hl (by decide) rfl (fun ls hl => ?_)
      refine lv_iinc (v := x2 + 1) (lv' := [(2, .int (x2 + 1)), (1, .int (x1 ||| ((1 : Int32) <<< (x2 &&& 31)))), (0, .ref (ad b))]) hx hcd dX0_staysOnStands_24 hl (k := 2) rfl rfl (by decide) rfl (fun ls hl => ?_)
      refine lv_goto (tgt := 4) hx hcd dX0_staysOnStands_27 (by decide) ?_
      exact hjmp _ (Option.some.inj ho).symm _ _ _ hW (lv_sub hl [2, 1, 0] rfl)
set_option maxHeartbeats 4000000 in
set_option maxRecDepth 100000 in
theorem c_X0_staysOnStands (l : Launch) (D : va_G) (y : ClassId × ClassId × ClassId) (ad : Nat → Nat) {b : Nat} (hb : g_air b) (σ : gS) (sz : Nat) {q : Int32} (h : X0_staysOnStands σ b = some q) : Met l yX0_staysOnStands (Cond.code yX0_staysOnStands cX0_staysOnStands 3 (some .int) :: gl) ({ frames := 1, cells := 0, slots := 0, locals := 21 }) (g_Pc D y ad σ sz [.ref (ad b)]) (g_Qi D y ad σ sz q) 0 0 (g_A ad sz) := by
  have ho := h
  unfold X0_staysOnStands at ho
  refine g_start (by decide) (Nat.le_of_ble_eq_true rfl) (fun p e s m below meth c ls hC hr hlk hsz hW hl => ?_)
  have hx := hC.1
  have hcd := hC.2.1
  have hl : lv_has ls 3 [(0, .ref (ad b))] := hl
  refine lv_iconst (v := 0) hx hcd dX0_staysOnStands_0 (by decide) ?_
  refine lv_istore_n (lv' := [(1, .int 0), (0, .ref (ad b))]) hx hcd dX0_staysOnStands_1 rfl hl (by decide) rfl (fun ls hl => ?_)
  refine lv_iconst (v := 0) hx hcd dX0_staysOnStands_2 (by decide) ?_
  refine lv_istore_n (lv' := [(2, .int 0), (1, .int 0), (0, .ref (ad b))]) hx hcd dX0_staysOnStands_3 rfl hl (by decide) rfl (fun ls hl => ?_)
  exact l_X0_staysOnStands l D y ad hb σ sz hC hr hlk hsz _ ho _ _ _ hW (lv_sub hl [2, 1, 0] rfl)
noncomputable def X0_staysOn_k0 (σ : gS) (b : Nat) (x1 : Int32) (x2 : Int32) (x3 : Int32) : Option ((Int32 × Int32 × Int32) ⊕ (Int32)) :=
  if 20 ≤ x3 then (some (.inr x2)) else (gd (ib x3 20) <| if (σ (b + 11) x3.toNatClampNeg) = x1 then (some (.inl (x1, (x2 ||| ((1 : Int32) <<< (x3 &&& 31))), (x3 + 1)))) else (some (.inl (x1, x2, (x3 + 1)))))
noncomputable def X0_staysOn_s (σ : gS) (b : Nat) (a : Int32 × Int32 × Int32) : Option ((Int32 × Int32 × Int32) ⊕ (Int32)) :=
  X0_staysOn_k0 σ b a.1 a.2.1 a.2.2
noncomputable def X0_staysOn (σ : gS) (b : Nat) (x1 : Int32) : Option (Int32) :=
  gr (X0_staysOn_s σ b) (x1, 0, 0)
set_option maxHeartbeats 4000000 in
set_option maxRecDepth 100000 in
theorem l_X0_staysOn {p : Program} {e : Env} {s : State} {m : MethodId} {args : Array Value} {below : List Frame} {meth : Method} {c : Code} (l : Launch) (D : va_G) (y : ClassId × ClassId × ClassId) (ad : Nat → Nat) {b : Nat} (hb : g_air b) (σ : gS) (sz : Nat) (hC : g_C p s m args c cX0_staysOn 4 RX0 D y) (hr : meth.sig.returnType = (some .int)) (hlk : meth.locks = false) (hsz : s.heap.size = sz) {r0 : Int32} : ∀ a : Int32 × Int32 × Int32, gr (X0_staysOn_s σ b) a = some r0 → ∀ (H : Heap) (locs : List Loc) (ls : Array Slot), g_W (g_A ad sz) s.heap D y ad [] σ H locs → lv_has ls 4 [(0, .ref (ad b)), (1, .int a.1), (2, .int a.2.1), (3, .int a.2.2)] → W p l e ({ frames := 0, cells := 0, slots := 0, locals := 0 }) s m args below meth c H locs 0 0 (MQ below (g_Qi D y ad σ sz r0) args s 0 0 (g_A ad sz)) (F0 m 4 ls []) := by
  have hx := hC.1
  have hcd := hC.2.1
  refine gr_all (fun a o ho hret hjmp => ?_)
  obtain ⟨x1, x2, x3⟩ := a
  intro H locs ls hW hl
  have ho : X0_staysOn_k0 σ b x1 x2 x3 = some o := ho
  unfold X0_staysOn_k0 at ho
  refine lv_iload_n hx hcd dX0_staysOn_4 rfl (lv_at hl 3 rfl) ?_
  refine lv_bipush (v := 20) hx hcd dX0_staysOn_5 (by decide) ?_
  refine lv_icmp_ge (tgt := 32) hx hcd dX0_staysOn_7 (by decide) (fun c1 => ?_) (fun c1 => ?_)
  · have ho := gif_p ho c1
    refine lv_iload_n hx hcd dX0_staysOn_32 rfl (lv_at hl 2 rfl) ?_
    obtain rfl := hret _ (Option.some.inj ho).symm
    exact g_iret hC hr hlk hsz hW dX0_staysOn_33
  · have ho := gif_n ho c1
    refine lv_aload_n hx hcd dX0_staysOn_10 rfl (lv_at hl 0 rfl) ?_
    refine g_getr hC hW (C := RX0) (T := TX0) (N := 16) (ci := 2) (k := 15) (index := 46) (i := b) (r := (b + 11)) inGX0 rfl (by decide) fl_X0_46 (g_lt_air hb) (g_sh_air hb) rfl dX0_staysOn_11 ?_
    refine lv_iload_n hx hcd dX0_staysOn_14 rfl (lv_at hl 3 rfl) ?_
    obtain ⟨i2, ho⟩ := gd_some ho
    refine g_iald hC hW (i := (b + 11)) (g_lt_arr (j := 11) hb (by decide)) (g_sa11 hb) i2 dX0_staysOn_15 ?_
    refine lv_iload_n hx hcd dX0_staysOn_16 rfl (lv_at hl 1 rfl) ?_
    refine lv_icmp_ne (tgt := 26) hx hcd dX0_staysOn_17 (by decide) (fun c3 => ?_) (fun c3 => ?_)
    · have ho := gif_n ho c3
      refine lv_iinc (v := x3 + 1) (lv' := [(3, .int (x3 + 1)), (0, .ref (ad b)), (1, .int x1), (2, .int x2)]) hx hcd dX0_staysOn_26 hl (k := 3) rfl rfl (by decide) rfl (fun ls hl => ?_)
      refine lv_goto (tgt := 4) hx hcd dX0_staysOn_29 (by decide) ?_
      exact hjmp _ (Option.some.inj ho).symm _ _ _ hW (lv_sub hl [1, 2, 3, 0] rfl)
    · have ho := gif_p ho c3
      refine lv_iload_n hx hcd dX0_staysOn_20 rfl (lv_at hl 2 rfl) ?_
      refine lv_iconst (v := 1) hx hcd dX0_staysOn_21 (by decide) ?_
      refine lv_iload_n hx hcd dX0_staysOn_22 rfl (lv_at hl 3 rfl) ?_
      refine lv_ishl hx hcd dX0_staysOn_23 ?_
      refine lv_ior hx hcd dX0_staysOn_24 ?_
      refine lv_istore_n (lv' := [(2, .int (x2 ||| ((1 : Int32) <<< (x3 &&& 31)))), (0, .ref (ad b)), (1, .int x1), (3, .int x3)]) hx hcd dX0_staysOn_25 rfl hl (by decide) rfl (fun ls hl => ?_)
      refine lv_iinc (v := x3 + 1) (lv' := [(3, .int (x3 + 1)), (2, .int (x2 ||| ((1 : Int32) <<< (x3 &&& 31)))), (0, .ref (ad b)), (1, .int x1)]) hx hcd dX0_staysOn_26 hl (k := 3) rfl rfl (by decide) rfl (fun ls hl => ?_)
      refine lv_goto (tgt := 4) hx hcd dX0_staysOn_29 (by decide) ?_
      exact hjmp _ (Option.some.inj ho).symm _ _ _ hW (lv_sub hl [2, 3, 1, 0] rfl)
set_option maxHeartbeats 4000000 in
set_option maxRecDepth 100000 in
theorem c_X0_staysOn (l : Launch) (D : va_G) (y : ClassId × ClassId × ClassId) (ad : Nat → Nat) {b : Nat} (hb : g_air b) (x1 : Int32) (σ : gS) (sz : Nat) {q : Int32} (h : X0_staysOn σ b x1 = some q) : Met l yX0_staysOn (Cond.code yX0_staysOn cX0_staysOn 4 (some .int) :: gl) ({ frames := 0, cells := 0, slots := 0, locals := 0 }) (g_Pc D y ad σ sz [.ref (ad b), .int x1]) (g_Qi D y ad σ sz q) 0 0 (g_A ad sz) := by
  have ho := h
  unfold X0_staysOn at ho
  refine g_start (by decide) (Nat.le_of_ble_eq_true rfl) (fun p e s m below meth c ls hC hr hlk hsz hW hl => ?_)
  have hx := hC.1
  have hcd := hC.2.1
  have hl : lv_has ls 4 [(0, .ref (ad b)), (1, .int x1)] := hl
  refine lv_iconst (v := 0) hx hcd dX0_staysOn_0 (by decide) ?_
  refine lv_istore_n (lv' := [(2, .int 0), (0, .ref (ad b)), (1, .int x1)]) hx hcd dX0_staysOn_1 rfl hl (by decide) rfl (fun ls hl => ?_)
  refine lv_iconst (v := 0) hx hcd dX0_staysOn_2 (by decide) ?_
  refine lv_istore_n (lv' := [(3, .int 0), (2, .int 0), (0, .ref (ad b)), (1, .int x1)]) hx hcd dX0_staysOn_3 rfl hl (by decide) rfl (fun ls hl => ?_)
  exact l_X0_staysOn l D y ad hb σ sz hC hr hlk hsz _ ho _ _ _ hW (lv_sub hl [2, 3, 1, 0] rfl)
noncomputable def X0_isLargeEnough (σ : gS) (b : Nat) (x1 : Int32) (x2 : Int32) : Option (Int32) :=
  gd (ib x1 8) <| gd (ib (x2 >>> ((1 : Int32) &&& 31)) 10) <| if (σ (b + 2) x1.toNatClampNeg) < (σ (b + 4) (x2 >>> ((1 : Int32) &&& 31)).toNatClampNeg) then (some 0) else (some 1)
set_option maxHeartbeats 4000000 in
set_option maxRecDepth 100000 in
theorem c_X0_isLargeEnough (l : Launch) (D : va_G) (y : ClassId × ClassId × ClassId) (ad : Nat → Nat) {b : Nat} (hb : g_air b) (x1 : Int32) (x2 : Int32) (σ : gS) (sz : Nat) {q : Int32} (h : X0_isLargeEnough σ b x1 x2 = some q) : Met l yX0_isLargeEnough (Cond.code yX0_isLargeEnough cX0_isLargeEnough 3 (some .boolean) :: gl) ({ frames := 0, cells := 0, slots := 0, locals := 0 }) (g_Pc D y ad σ sz [.ref (ad b), .int x1, .int x2]) (g_Qi D y ad σ sz q) 0 0 (g_A ad sz) := by
  have ho := h
  unfold X0_isLargeEnough at ho
  refine g_start (by decide) (Nat.le_of_ble_eq_true rfl) (fun p e s m below meth c ls hC hr hlk hsz hW hl => ?_)
  have hx := hC.1
  have hcd := hC.2.1
  have hl : lv_has ls 3 [(0, .ref (ad b)), (1, .int x1), (2, .int x2)] := hl
  refine lv_aload_n hx hcd dX0_isLargeEnough_0 rfl (lv_at hl 0 rfl) ?_
  refine g_getr hC hW (C := RX0) (T := TX0) (N := 16) (ci := 2) (k := 6) (index := 19) (i := b) (r := (b + 2)) inGX0 rfl (by decide) fl_X0_19 (g_lt_air hb) (g_sh_air hb) rfl dX0_isLargeEnough_1 ?_
  refine lv_iload_n hx hcd dX0_isLargeEnough_4 rfl (lv_at hl 1 rfl) ?_
  obtain ⟨i1, ho⟩ := gd_some ho
  refine g_iald hC hW (i := (b + 2)) (g_lt_arr (j := 2) hb (by decide)) (g_sa2 hb) i1 dX0_isLargeEnough_5 ?_
  refine lv_aload_n hx hcd dX0_isLargeEnough_6 rfl (lv_at hl 0 rfl) ?_
  refine g_getr hC hW (C := RX0) (T := TX0) (N := 16) (ci := 2) (k := 8) (index := 25) (i := b) (r := (b + 4)) inGX0 rfl (by decide) fl_X0_25 (g_lt_air hb) (g_sh_air hb) rfl dX0_isLargeEnough_7 ?_
  refine lv_iload_n hx hcd dX0_isLargeEnough_10 rfl (lv_at hl 2 rfl) ?_
  refine lv_iconst (v := 1) hx hcd dX0_isLargeEnough_11 (by decide) ?_
  refine lv_ishr hx hcd dX0_isLargeEnough_12 ?_
  obtain ⟨i2, ho⟩ := gd_some ho
  refine g_iald hC hW (i := (b + 4)) (g_lt_arr (j := 4) hb (by decide)) (g_sa4 hb) i2 dX0_isLargeEnough_13 ?_
  refine lv_icmp_lt (tgt := 21) hx hcd dX0_isLargeEnough_14 (by decide) (fun c3 => ?_) (fun c3 => ?_)
  · have ho := gif_p ho c3
    refine lv_iconst (v := 0) hx hcd dX0_isLargeEnough_21 (by decide) ?_
    obtain rfl := Option.some.inj ho
    exact g_zret (r := 0) hC hr hlk hsz hW (by decide) dX0_isLargeEnough_22
  · have ho := gif_n ho c3
    refine lv_iconst (v := 1) hx hcd dX0_isLargeEnough_17 (by decide) ?_
    refine lv_goto (tgt := 22) hx hcd dX0_isLargeEnough_18 (by decide) ?_
    obtain rfl := Option.some.inj ho
    exact g_zret (r := 1) hC hr hlk hsz hW (by decide) dX0_isLargeEnough_22
noncomputable def X0_isHindered (σ : gS) (b : Nat) (x1 : Int32) : Option (Int32) :=
  (X0_isOnStand σ b x1).bind fun r2 => if r2 = 0 then (some 0) else (gd (ib x1 20) <| (X0_isOpened σ b (σ (b + 11) x1.toNatClampNeg)).bind fun r6 => if r6 = 0 then (some 1) else ((X0_isLargeEnough σ b (σ (b + 11) x1.toNatClampNeg) x1).bind fun r9 => if r9 = 0 then (some 1) else (some 0)))
set_option maxHeartbeats 4000000 in
set_option maxRecDepth 100000 in
theorem c_X0_isHindered (l : Launch) (D : va_G) (y : ClassId × ClassId × ClassId) (ad : Nat → Nat) {b : Nat} (hb : g_air b) (x1 : Int32) (σ : gS) (sz : Nat) {q : Int32} (h : X0_isHindered σ b x1 = some q) : Met l yX0_isHindered (Cond.code yX0_isHindered cX0_isHindered 3 (some .boolean) :: gl) ({ frames := 1, cells := 0, slots := 0, locals := 22 }) (g_Pc D y ad σ sz [.ref (ad b), .int x1]) (g_Qi D y ad σ sz q) 0 0 (g_A ad sz) := by
  have ho := h
  unfold X0_isHindered at ho
  refine g_start (by decide) (Nat.le_of_ble_eq_true rfl) (fun p e s m below meth c ls hC hr hlk hsz hW hl => ?_)
  have hx := hC.1
  have hcd := hC.2.1
  have hl : lv_has ls 3 [(0, .ref (ad b)), (1, .int x1)] := hl
  refine lv_aload_n hx hcd dX0_isHindered_0 rfl (lv_at hl 0 rfl) ?_
  refine lv_iload_n hx hcd dX0_isHindered_1 rfl (lv_at hl 1 rfl) ?_
  obtain ⟨r2, h1, ho⟩ := gb_some ho
  refine g_calli hW (g_runV (As := [.int x1]) (rest := []) (i := b) hC hW (c_X0_isOnStand l D y ad hb x1 _ _ h1) ok_X0_99 ⟨rfl, rfl, Nat.le_of_ble_eq_true rfl, Nat.le_of_ble_eq_true rfl⟩ (g_lt_air hb) (g_sh_air hb) rfl rfl rfl hl.1 rfl (Nat.le_of_ble_eq_true rfl) dX0_isHindered_2 ⟨Nat.zero_le _, Nat.zero_le _⟩) (fun H locs hW => ?_)
  refine lv_if_ne (tgt := 10) hx hcd dX0_isHindered_5 (by decide) (fun c3 => ?_) (fun c3 => ?_)
  · have ho := gif_n ho c3
    refine lv_aload_n hx hcd dX0_isHindered_10 rfl (lv_at hl 0 rfl) ?_
    refine g_getr hC hW (C := RX0) (T := TX0) (N := 16) (ci := 2) (k := 15) (index := 46) (i := b) (r := (b + 11)) inGX0 rfl (by decide) fl_X0_46 (g_lt_air hb) (g_sh_air hb) rfl dX0_isHindered_11 ?_
    refine lv_iload_n hx hcd dX0_isHindered_14 rfl (lv_at hl 1 rfl) ?_
    obtain ⟨i4, ho⟩ := gd_some ho
    refine g_iald hC hW (i := (b + 11)) (g_lt_arr (j := 11) hb (by decide)) (g_sa11 hb) i4 dX0_isHindered_15 ?_
    refine lv_istore_n (lv' := [(2, .int (σ (b + 11) x1.toNatClampNeg)), (0, .ref (ad b)), (1, .int x1)]) hx hcd dX0_isHindered_16 rfl hl (by decide) rfl (fun ls hl => ?_)
    refine lv_aload_n hx hcd dX0_isHindered_17 rfl (lv_at hl 1 rfl) ?_
    refine lv_iload_n hx hcd dX0_isHindered_18 rfl (lv_at hl 0 rfl) ?_
    obtain ⟨r6, h5, ho⟩ := gb_some ho
    refine g_calli hW (g_runV (As := [.int (σ (b + 11) x1.toNatClampNeg)]) (rest := []) (i := b) hC hW (c_X0_isOpened l D y ad hb (σ (b + 11) x1.toNatClampNeg) _ _ h5) ok_X0_80 ⟨rfl, rfl, Nat.le_of_ble_eq_true rfl, Nat.le_of_ble_eq_true rfl⟩ (g_lt_air hb) (g_sh_air hb) rfl rfl rfl hl.1 rfl (Nat.le_of_ble_eq_true rfl) dX0_isHindered_19 ⟨Nat.zero_le _, Nat.zero_le _⟩) (fun H locs hW => ?_)
    refine lv_if_eq (tgt := 34) hx hcd dX0_isHindered_22 (by decide) (fun c7 => ?_) (fun c7 => ?_)
    · have ho := gif_p ho c7
      refine lv_iconst (v := 1) hx hcd dX0_isHindered_34 (by decide) ?_
      refine lv_goto (tgt := 39) hx hcd dX0_isHindered_35 (by decide) ?_
      obtain rfl := Option.some.inj ho
      exact g_zret (r := 1) hC hr hlk hsz hW (by decide) dX0_isHindered_39
    · have ho := gif_n ho c7
      refine lv_aload_n hx hcd dX0_isHindered_25 rfl (lv_at hl 1 rfl) ?_
      refine lv_iload_n hx hcd dX0_isHindered_26 rfl (lv_at hl 0 rfl) ?_
      refine lv_iload_n hx hcd dX0_isHindered_27 rfl (lv_at hl 2 rfl) ?_
      obtain ⟨r9, h8, ho⟩ := gb_some ho
      refine g_calli hW (g_runV (As := [.int (σ (b + 11) x1.toNatClampNeg), .int x1]) (rest := []) (i := b) hC hW (c_X0_isLargeEnough l D y ad hb (σ (b + 11) x1.toNatClampNeg) x1 _ _ h8) ok_X0_118 ⟨rfl, rfl, Nat.le_of_ble_eq_true rfl, Nat.le_of_ble_eq_true rfl⟩ (g_lt_air hb) (g_sh_air hb) rfl rfl rfl hl.1 rfl (Nat.le_of_ble_eq_true rfl) dX0_isHindered_28 ⟨Nat.zero_le _, Nat.zero_le _⟩) (fun H locs hW => ?_)
      refine lv_if_ne (tgt := 38) hx hcd dX0_isHindered_31 (by decide) (fun c10 => ?_) (fun c10 => ?_)
      · have ho := gif_n ho c10
        refine lv_iconst (v := 0) hx hcd dX0_isHindered_38 (by decide) ?_
        obtain rfl := Option.some.inj ho
        exact g_zret (r := 0) hC hr hlk hsz hW (by decide) dX0_isHindered_39
      · have ho := gif_p ho c10
        refine lv_iconst (v := 1) hx hcd dX0_isHindered_34 (by decide) ?_
        refine lv_goto (tgt := 39) hx hcd dX0_isHindered_35 (by decide) ?_
        obtain rfl := Option.some.inj ho
        exact g_zret (r := 1) hC hr hlk hsz hW (by decide) dX0_isHindered_39
  · have ho := gif_p ho c3
    refine lv_iconst (v := 0) hx hcd dX0_isHindered_8 (by decide) ?_
    obtain rfl := Option.some.inj ho
    exact g_zret (r := 0) hC hr hlk hsz hW (by decide) dX0_isHindered_9
noncomputable def X0_hinderedStays_k0 (σ : gS) (b : Nat) (x1 : Int32) (x2 : Int32) : Option ((Int32 × Int32) ⊕ (Int32)) :=
  if 20 ≤ x2 then (some (.inr x1)) else ((X0_isHindered σ b x2).bind fun r3 => if r3 = 0 then (some (.inl (x1, (x2 + 1)))) else (some (.inl ((x1 ||| ((1 : Int32) <<< (x2 &&& 31))), (x2 + 1)))))
noncomputable def X0_hinderedStays_s (σ : gS) (b : Nat) (a : Int32 × Int32) : Option ((Int32 × Int32) ⊕ (Int32)) :=
  X0_hinderedStays_k0 σ b a.1 a.2
noncomputable def X0_hinderedStays (σ : gS) (b : Nat) : Option (Int32) :=
  gr (X0_hinderedStays_s σ b) (0, 0)
set_option maxHeartbeats 4000000 in
set_option maxRecDepth 100000 in
theorem l_X0_hinderedStays {p : Program} {e : Env} {s : State} {m : MethodId} {args : Array Value} {below : List Frame} {meth : Method} {c : Code} (l : Launch) (D : va_G) (y : ClassId × ClassId × ClassId) (ad : Nat → Nat) {b : Nat} (hb : g_air b) (σ : gS) (sz : Nat) (hC : g_C p s m args c cX0_hinderedStays 3 RX0 D y) (hr : meth.sig.returnType = (some .int)) (hlk : meth.locks = false) (hsz : s.heap.size = sz) {r0 : Int32} : ∀ a : Int32 × Int32, gr (X0_hinderedStays_s σ b) a = some r0 → ∀ (H : Heap) (locs : List Loc) (ls : Array Slot), g_W (g_A ad sz) s.heap D y ad [] σ H locs → lv_has ls 3 [(0, .ref (ad b)), (1, .int a.1), (2, .int a.2)] → W p l e ({ frames := 2, cells := 0, slots := 0, locals := 44 }) s m args below meth c H locs 0 0 (MQ below (g_Qi D y ad σ sz r0) args s 0 0 (g_A ad sz)) (F0 m 4 ls []) := by
  have hx := hC.1
  have hcd := hC.2.1
  refine gr_all (fun a o ho hret hjmp => ?_)
  obtain ⟨x1, x2⟩ := a
  intro H locs ls hW hl
  have ho : X0_hinderedStays_k0 σ b x1 x2 = some o := ho
  unfold X0_hinderedStays_k0 at ho
  refine lv_iload_n hx hcd dX0_hinderedStays_4 rfl (lv_at hl 2 rfl) ?_
  refine lv_bipush (v := 20) hx hcd dX0_hinderedStays_5 (by decide) ?_
  refine lv_icmp_ge (tgt := 30) hx hcd dX0_hinderedStays_7 (by decide) (fun c1 => ?_) (fun c1 => ?_)
  · have ho := gif_p ho c1
    refine lv_iload_n hx hcd dX0_hinderedStays_30 rfl (lv_at hl 1 rfl) ?_
    obtain rfl := hret _ (Option.some.inj ho).symm
    exact g_iret hC hr hlk hsz hW dX0_hinderedStays_31
  · have ho := gif_n ho c1
    refine lv_aload_n hx hcd dX0_hinderedStays_10 rfl (lv_at hl 0 rfl) ?_
    refine lv_iload_n hx hcd dX0_hinderedStays_11 rfl (lv_at hl 2 rfl) ?_
    obtain ⟨r3, h2, ho⟩ := gb_some ho
    refine g_calli hW (g_runV (As := [.int x2]) (rest := []) (i := b) hC hW (c_X0_isHindered l D y ad hb x2 _ _ h2) ok_X0_102 ⟨rfl, rfl, Nat.le_of_ble_eq_true rfl, Nat.le_of_ble_eq_true rfl⟩ (g_lt_air hb) (g_sh_air hb) rfl rfl rfl hl.1 rfl (Nat.le_of_ble_eq_true rfl) dX0_hinderedStays_12 ⟨Nat.zero_le _, Nat.zero_le _⟩) (fun H locs hW => ?_)
    refine lv_if_eq (tgt := 24) hx hcd dX0_hinderedStays_15 (by decide) (fun c4 => ?_) (fun c4 => ?_)
    · have ho := gif_p ho c4
      refine lv_iinc (v := x2 + 1) (lv' := [(2, .int (x2 + 1)), (0, .ref (ad b)), (1, .int x1)]) hx hcd dX0_hinderedStays_24 hl (k := 2) rfl rfl (by decide) rfl (fun ls hl => ?_)
      refine lv_goto (tgt := 4) hx hcd dX0_hinderedStays_27 (by decide) ?_
      exact hjmp _ (Option.some.inj ho).symm _ _ _ hW (lv_sub hl [1, 2, 0] rfl)
    · have ho := gif_n ho c4
      refine lv_iload_n hx hcd dX0_hinderedStays_18 rfl (lv_at hl 1 rfl) ?_
      refine lv_iconst (v := 1) hx hcd dX0_hinderedStays_19 (by decide) ?_
      refine lv_iload_n hx hcd dX0_hinderedStays_20 rfl (lv_at hl 2 rfl) ?_
      refine lv_ishl hx hcd dX0_hinderedStays_21 ?_
      refine lv_ior hx hcd dX0_hinderedStays_22 ?_
      refine lv_istore_n (lv' := [(1, .int (x1 ||| ((1 : Int32) <<< (x2 &&& 31)))), (0, .ref (ad b)), (2, .int x2)]) hx hcd dX0_hinderedStays_23 rfl hl (by decide) rfl (fun ls hl => ?_)
      refine lv_iinc (v := x2 + 1) (lv' := [(2, .int (x2 + 1)), (1, .int (x1 ||| ((1 : Int32) <<< (x2 &&& 31)))), (0, .ref (ad b))]) hx hcd dX0_hinderedStays_24 hl (k := 2) rfl rfl (by decide) rfl (fun ls hl => ?_)
      refine lv_goto (tgt := 4) hx hcd dX0_hinderedStays_27 (by decide) ?_
      exact hjmp _ (Option.some.inj ho).symm _ _ _ hW (lv_sub hl [2, 1, 0] rfl)
set_option maxHeartbeats 4000000 in
set_option maxRecDepth 100000 in
theorem c_X0_hinderedStays (l : Launch) (D : va_G) (y : ClassId × ClassId × ClassId) (ad : Nat → Nat) {b : Nat} (hb : g_air b) (σ : gS) (sz : Nat) {q : Int32} (h : X0_hinderedStays σ b = some q) : Met l yX0_hinderedStays (Cond.code yX0_hinderedStays cX0_hinderedStays 3 (some .int) :: gl) ({ frames := 2, cells := 0, slots := 0, locals := 44 }) (g_Pc D y ad σ sz [.ref (ad b)]) (g_Qi D y ad σ sz q) 0 0 (g_A ad sz) := by
  have ho := h
  unfold X0_hinderedStays at ho
  refine g_start (by decide) (Nat.le_of_ble_eq_true rfl) (fun p e s m below meth c ls hC hr hlk hsz hW hl => ?_)
  have hx := hC.1
  have hcd := hC.2.1
  have hl : lv_has ls 3 [(0, .ref (ad b))] := hl
  refine lv_iconst (v := 0) hx hcd dX0_hinderedStays_0 (by decide) ?_
  refine lv_istore_n (lv' := [(1, .int 0), (0, .ref (ad b))]) hx hcd dX0_hinderedStays_1 rfl hl (by decide) rfl (fun ls hl => ?_)
  refine lv_iconst (v := 0) hx hcd dX0_hinderedStays_2 (by decide) ?_
  refine lv_istore_n (lv' := [(2, .int 0), (1, .int 0), (0, .ref (ad b))]) hx hcd dX0_hinderedStays_3 rfl hl (by decide) rfl (fun ls hl => ?_)
  exact l_X0_hinderedStays l D y ad hb σ sz hC hr hlk hsz _ ho _ _ _ hW (lv_sub hl [2, 1, 0] rfl)
noncomputable def X0_wouldClash (σ : gS) (b : Nat) (x1 : Int32) (x2 : Int32) (x3 : Int32) (x4 : Int32) : Option (Int32) :=
  if x2 = x4 then (gd (ib x3 20) <| gd (ib x1 20) <| if ((σ (b + 10) x1.toNatClampNeg) + (σ b 2)) ≤ (σ (b + 9) x3.toNatClampNeg) then (some 0) else (if ((σ (b + 10) x3.toNatClampNeg) + (σ b 2)) ≤ (σ (b + 9) x1.toNatClampNeg) then (some 0) else (some 1))) else (gd (ib ((x2 * (8 : Int32)) + x4) 64) <| if (σ (b + 3) ((x2 * (8 : Int32)) + x4).toNatClampNeg) < 0 then (some 0) else (gd (ib (x1 >>> ((1 : Int32) &&& 31)) 10) <| gd (ib (x3 >>> ((1 : Int32) &&& 31)) 10) <| if ((σ (b + 4) (x1 >>> ((1 : Int32) &&& 31)).toNatClampNeg) + (σ (b + 4) (x3 >>> ((1 : Int32) &&& 31)).toNatClampNeg)) ≤ (σ (b + 3) ((x2 * (8 : Int32)) + x4).toNatClampNeg) then (some 0) else (gd (ib x3 20) <| gd (ib x1 20) <| if (σ (b + 10) x1.toNatClampNeg) ≤ (σ (b + 9) x3.toNatClampNeg) then (some 0) else (if (σ (b + 10) x3.toNatClampNeg) ≤ (σ (b + 9) x1.toNatClampNeg) then (some 0) else (some 1)))))
set_option maxHeartbeats 4000000 in
set_option maxRecDepth 100000 in
theorem c_X0_wouldClash (l : Launch) (D : va_G) (y : ClassId × ClassId × ClassId) (ad : Nat → Nat) {b : Nat} (hb : g_air b) (x1 : Int32) (x2 : Int32) (x3 : Int32) (x4 : Int32) (σ : gS) (sz : Nat) {q : Int32} (h : X0_wouldClash σ b x1 x2 x3 x4 = some q) : Met l yX0_wouldClash (Cond.code yX0_wouldClash cX0_wouldClash 6 (some .boolean) :: gl) ({ frames := 0, cells := 0, slots := 0, locals := 0 }) (g_Pc D y ad σ sz [.ref (ad b), .int x1, .int x2, .int x3, .int x4]) (g_Qi D y ad σ sz q) 0 0 (g_A ad sz) := by
  have ho := h
  unfold X0_wouldClash at ho
  refine g_start (by decide) (Nat.le_of_ble_eq_true rfl) (fun p e s m below meth c ls hC hr hlk hsz hW hl => ?_)
  have hx := hC.1
  have hcd := hC.2.1
  have hl : lv_has ls 6 [(0, .ref (ad b)), (1, .int x1), (2, .int x2), (3, .int x3), (4, .int x4)] := hl
  refine lv_iload_n hx hcd dX0_wouldClash_0 rfl (lv_at hl 2 rfl) ?_
  refine lv_iload hx hcd dX0_wouldClash_1 (lv_at hl 4 rfl) ?_
  refine lv_icmp_ne (tgt := 52) hx hcd dX0_wouldClash_3 (by decide) (fun c1 => ?_) (fun c1 => ?_)
  · have ho := gif_n ho c1
    refine lv_aload_n hx hcd dX0_wouldClash_52 rfl (lv_at hl 0 rfl) ?_
    refine g_getr hC hW (C := RX0) (T := TX0) (N := 16) (ci := 2) (k := 7) (index := 22) (i := b) (r := (b + 3)) inGX0 rfl (by decide) fl_X0_22 (g_lt_air hb) (g_sh_air hb) rfl dX0_wouldClash_53 ?_
    refine lv_iload_n hx hcd dX0_wouldClash_56 rfl (lv_at hl 2 rfl) ?_
    refine lv_bipush (v := 8) hx hcd dX0_wouldClash_57 (by decide) ?_
    refine lv_imul hx hcd dX0_wouldClash_59 ?_
    refine lv_iload hx hcd dX0_wouldClash_60 (lv_at hl 4 rfl) ?_
    refine lv_iadd hx hcd dX0_wouldClash_62 ?_
    obtain ⟨i2, ho⟩ := gd_some ho
    refine g_iald hC hW (i := (b + 3)) (g_lt_arr (j := 3) hb (by decide)) (g_sa3 hb) i2 dX0_wouldClash_63 ?_
    refine lv_istore (lv' := [(5, .int (σ (b + 3) ((x2 * (8 : Int32)) + x4).toNatClampNeg)), (0, .ref (ad b)), (1, .int x1), (2, .int x2), (3, .int x3), (4, .int x4)]) hx hcd dX0_wouldClash_64 hl (by decide) rfl (fun ls hl => ?_)
    refine lv_iload hx hcd dX0_wouldClash_66 (lv_at hl 0 rfl) ?_
    refine lv_if_lt (tgt := 127) hx hcd dX0_wouldClash_68 (by decide) (fun c3 => ?_) (fun c3 => ?_)
    · have ho := gif_p ho c3
      refine lv_iconst (v := 0) hx hcd dX0_wouldClash_127 (by decide) ?_
      obtain rfl := Option.some.inj ho
      exact g_zret (r := 0) hC hr hlk hsz hW (by decide) dX0_wouldClash_128
    · have ho := gif_n ho c3
      refine lv_aload_n hx hcd dX0_wouldClash_71 rfl (lv_at hl 1 rfl) ?_
      refine g_getr hC hW (C := RX0) (T := TX0) (N := 16) (ci := 2) (k := 8) (index := 25) (i := b) (r := (b + 4)) inGX0 rfl (by decide) fl_X0_25 (g_lt_air hb) (g_sh_air hb) rfl dX0_wouldClash_72 ?_
      refine lv_iload_n hx hcd dX0_wouldClash_75 rfl (lv_at hl 2 rfl) ?_
      refine lv_iconst (v := 1) hx hcd dX0_wouldClash_76 (by decide) ?_
      refine lv_ishr hx hcd dX0_wouldClash_77 ?_
      obtain ⟨i4, ho⟩ := gd_some ho
      refine g_iald hC hW (i := (b + 4)) (g_lt_arr (j := 4) hb (by decide)) (g_sa4 hb) i4 dX0_wouldClash_78 ?_
      refine lv_aload_n hx hcd dX0_wouldClash_79 rfl (lv_at hl 1 rfl) ?_
      refine g_getr hC hW (C := RX0) (T := TX0) (N := 16) (ci := 2) (k := 8) (index := 25) (i := b) (r := (b + 4)) inGX0 rfl (by decide) fl_X0_25 (g_lt_air hb) (g_sh_air hb) rfl dX0_wouldClash_80 ?_
      refine lv_iload_n hx hcd dX0_wouldClash_83 rfl (lv_at hl 4 rfl) ?_
      refine lv_iconst (v := 1) hx hcd dX0_wouldClash_84 (by decide) ?_
      refine lv_ishr hx hcd dX0_wouldClash_85 ?_
      obtain ⟨i5, ho⟩ := gd_some ho
      refine g_iald hC hW (i := (b + 4)) (g_lt_arr (j := 4) hb (by decide)) (g_sa4 hb) i5 dX0_wouldClash_86 ?_
      refine lv_iadd hx hcd dX0_wouldClash_87 ?_
      refine lv_iload hx hcd dX0_wouldClash_88 (lv_at hl 0 rfl) ?_
      refine lv_icmp_le (tgt := 127) hx hcd dX0_wouldClash_90 (by decide) (fun c6 => ?_) (fun c6 => ?_)
      · have ho := gif_p ho c6
        refine lv_iconst (v := 0) hx hcd dX0_wouldClash_127 (by decide) ?_
        obtain rfl := Option.some.inj ho
        exact g_zret (r := 0) hC hr hlk hsz hW (by decide) dX0_wouldClash_128
      · have ho := gif_n ho c6
        refine lv_aload_n hx hcd dX0_wouldClash_93 rfl (lv_at hl 1 rfl) ?_
        refine g_getr hC hW (C := RX0) (T := TX0) (N := 16) (ci := 2) (k := 13) (index := 40) (i := b) (r := (b + 9)) inGX0 rfl (by decide) fl_X0_40 (g_lt_air hb) (g_sh_air hb) rfl dX0_wouldClash_94 ?_
        refine lv_iload_n hx hcd dX0_wouldClash_97 rfl (lv_at hl 4 rfl) ?_
        obtain ⟨i7, ho⟩ := gd_some ho
        refine g_iald hC hW (i := (b + 9)) (g_lt_arr (j := 9) hb (by decide)) (g_sa9 hb) i7 dX0_wouldClash_98 ?_
        refine lv_aload_n hx hcd dX0_wouldClash_99 rfl (lv_at hl 1 rfl) ?_
        refine g_getr hC hW (C := RX0) (T := TX0) (N := 16) (ci := 2) (k := 14) (index := 43) (i := b) (r := (b + 10)) inGX0 rfl (by decide) fl_X0_43 (g_lt_air hb) (g_sh_air hb) rfl dX0_wouldClash_100 ?_
        refine lv_iload_n hx hcd dX0_wouldClash_103 rfl (lv_at hl 2 rfl) ?_
        obtain ⟨i8, ho⟩ := gd_some ho
        refine g_iald hC hW (i := (b + 10)) (g_lt_arr (j := 10) hb (by decide)) (g_sa10 hb) i8 dX0_wouldClash_104 ?_
        refine lv_icmp_ge (tgt := 127) hx hcd dX0_wouldClash_105 (by decide) (fun c9 => ?_) (fun c9 => ?_)
        · have ho := gif_p ho c9
          refine lv_iconst (v := 0) hx hcd dX0_wouldClash_127 (by decide) ?_
          obtain rfl := Option.some.inj ho
          exact g_zret (r := 0) hC hr hlk hsz hW (by decide) dX0_wouldClash_128
        · have ho := gif_n ho c9
          refine lv_aload_n hx hcd dX0_wouldClash_108 rfl (lv_at hl 1 rfl) ?_
          refine g_getr hC hW (C := RX0) (T := TX0) (N := 16) (ci := 2) (k := 13) (index := 40) (i := b) (r := (b + 9)) inGX0 rfl (by decide) fl_X0_40 (g_lt_air hb) (g_sh_air hb) rfl dX0_wouldClash_109 ?_
          refine lv_iload_n hx hcd dX0_wouldClash_112 rfl (lv_at hl 2 rfl) ?_
          refine g_iald hC hW (i := (b + 9)) (g_lt_arr (j := 9) hb (by decide)) (g_sa9 hb) i8 dX0_wouldClash_113 ?_
          refine lv_aload_n hx hcd dX0_wouldClash_114 rfl (lv_at hl 1 rfl) ?_
          refine g_getr hC hW (C := RX0) (T := TX0) (N := 16) (ci := 2) (k := 14) (index := 43) (i := b) (r := (b + 10)) inGX0 rfl (by decide) fl_X0_43 (g_lt_air hb) (g_sh_air hb) rfl dX0_wouldClash_115 ?_
          refine lv_iload_n hx hcd dX0_wouldClash_118 rfl (lv_at hl 4 rfl) ?_
          refine g_iald hC hW (i := (b + 10)) (g_lt_arr (j := 10) hb (by decide)) (g_sa10 hb) i7 dX0_wouldClash_119 ?_
          refine lv_icmp_ge (tgt := 127) hx hcd dX0_wouldClash_120 (by decide) (fun c10 => ?_) (fun c10 => ?_)
          · have ho := gif_p ho c10
            refine lv_iconst (v := 0) hx hcd dX0_wouldClash_127 (by decide) ?_
            obtain rfl := Option.some.inj ho
            exact g_zret (r := 0) hC hr hlk hsz hW (by decide) dX0_wouldClash_128
          · have ho := gif_n ho c10
            refine lv_iconst (v := 1) hx hcd dX0_wouldClash_123 (by decide) ?_
            refine lv_goto (tgt := 128) hx hcd dX0_wouldClash_124 (by decide) ?_
            obtain rfl := Option.some.inj ho
            exact g_zret (r := 1) hC hr hlk hsz hW (by decide) dX0_wouldClash_128
  · have ho := gif_p ho c1
    refine lv_aload_n hx hcd dX0_wouldClash_6 rfl (lv_at hl 0 rfl) ?_
    refine g_getr hC hW (C := RX0) (T := TX0) (N := 16) (ci := 2) (k := 13) (index := 40) (i := b) (r := (b + 9)) inGX0 rfl (by decide) fl_X0_40 (g_lt_air hb) (g_sh_air hb) rfl dX0_wouldClash_7 ?_
    refine lv_iload_n hx hcd dX0_wouldClash_10 rfl (lv_at hl 3 rfl) ?_
    obtain ⟨i11, ho⟩ := gd_some ho
    refine g_iald hC hW (i := (b + 9)) (g_lt_arr (j := 9) hb (by decide)) (g_sa9 hb) i11 dX0_wouldClash_11 ?_
    refine lv_aload_n hx hcd dX0_wouldClash_12 rfl (lv_at hl 0 rfl) ?_
    refine g_getr hC hW (C := RX0) (T := TX0) (N := 16) (ci := 2) (k := 14) (index := 43) (i := b) (r := (b + 10)) inGX0 rfl (by decide) fl_X0_43 (g_lt_air hb) (g_sh_air hb) rfl dX0_wouldClash_13 ?_
    refine lv_iload_n hx hcd dX0_wouldClash_16 rfl (lv_at hl 1 rfl) ?_
    obtain ⟨i12, ho⟩ := gd_some ho
    refine g_iald hC hW (i := (b + 10)) (g_lt_arr (j := 10) hb (by decide)) (g_sa10 hb) i12 dX0_wouldClash_17 ?_
    refine lv_aload_n hx hcd dX0_wouldClash_18 rfl (lv_at hl 0 rfl) ?_
    refine g_geti hC hW (C := RX0) (T := TX0) (N := 16) (ci := 2) (k := 2) (index := 9) (i := b) inGX0 rfl (by decide) fl_X0_9 (g_lt_air hb) (g_sh_air hb) rfl dX0_wouldClash_19 ?_
    refine lv_iadd hx hcd dX0_wouldClash_22 ?_
    refine lv_icmp_ge (tgt := 50) hx hcd dX0_wouldClash_23 (by decide) (fun c13 => ?_) (fun c13 => ?_)
    · have ho := gif_p ho c13
      refine lv_iconst (v := 0) hx hcd dX0_wouldClash_50 (by decide) ?_
      obtain rfl := Option.some.inj ho
      exact g_zret (r := 0) hC hr hlk hsz hW (by decide) dX0_wouldClash_51
    · have ho := gif_n ho c13
      refine lv_aload_n hx hcd dX0_wouldClash_26 rfl (lv_at hl 0 rfl) ?_
      refine g_getr hC hW (C := RX0) (T := TX0) (N := 16) (ci := 2) (k := 13) (index := 40) (i := b) (r := (b + 9)) inGX0 rfl (by decide) fl_X0_40 (g_lt_air hb) (g_sh_air hb) rfl dX0_wouldClash_27 ?_
      refine lv_iload_n hx hcd dX0_wouldClash_30 rfl (lv_at hl 1 rfl) ?_
      refine g_iald hC hW (i := (b + 9)) (g_lt_arr (j := 9) hb (by decide)) (g_sa9 hb) i12 dX0_wouldClash_31 ?_
      refine lv_aload_n hx hcd dX0_wouldClash_32 rfl (lv_at hl 0 rfl) ?_
      refine g_getr hC hW (C := RX0) (T := TX0) (N := 16) (ci := 2) (k := 14) (index := 43) (i := b) (r := (b + 10)) inGX0 rfl (by decide) fl_X0_43 (g_lt_air hb) (g_sh_air hb) rfl dX0_wouldClash_33 ?_
      refine lv_iload_n hx hcd dX0_wouldClash_36 rfl (lv_at hl 3 rfl) ?_
      refine g_iald hC hW (i := (b + 10)) (g_lt_arr (j := 10) hb (by decide)) (g_sa10 hb) i11 dX0_wouldClash_37 ?_
      refine lv_aload_n hx hcd dX0_wouldClash_38 rfl (lv_at hl 0 rfl) ?_
      refine g_geti hC hW (C := RX0) (T := TX0) (N := 16) (ci := 2) (k := 2) (index := 9) (i := b) inGX0 rfl (by decide) fl_X0_9 (g_lt_air hb) (g_sh_air hb) rfl dX0_wouldClash_39 ?_
      refine lv_iadd hx hcd dX0_wouldClash_42 ?_
      refine lv_icmp_ge (tgt := 50) hx hcd dX0_wouldClash_43 (by decide) (fun c14 => ?_) (fun c14 => ?_)
      · have ho := gif_p ho c14
        refine lv_iconst (v := 0) hx hcd dX0_wouldClash_50 (by decide) ?_
        obtain rfl := Option.some.inj ho
        exact g_zret (r := 0) hC hr hlk hsz hW (by decide) dX0_wouldClash_51
      · have ho := gif_n ho c14
        refine lv_iconst (v := 1) hx hcd dX0_wouldClash_46 (by decide) ?_
        refine lv_goto (tgt := 51) hx hcd dX0_wouldClash_47 (by decide) ?_
        obtain rfl := Option.some.inj ho
        exact g_zret (r := 1) hC hr hlk hsz hW (by decide) dX0_wouldClash_51
noncomputable def X0_clashesOn_k0 (σ : gS) (b : Nat) (x1 : Int32) (x2 : Int32) (x3 : Int32) (x4 : Int32) : Option ((Int32 × Int32 × Int32 × Int32) ⊕ (Int32)) :=
  if 20 ≤ x4 then (some (.inr x3)) else (gd (ib x4 20) <| if x4 = x1 then (some (.inl (x1, x2, x3, (x4 + 1)))) else (if (σ (b + 11) x4.toNatClampNeg) < 0 then (some (.inl (x1, x2, x3, (x4 + 1)))) else ((X0_wouldClash σ b x1 x2 x4 (σ (b + 11) x4.toNatClampNeg)).bind fun r6 => if r6 = 0 then (some (.inl (x1, x2, x3, (x4 + 1)))) else (some (.inl (x1, x2, (x3 ||| ((1 : Int32) <<< (x4 &&& 31))), (x4 + 1)))))))
noncomputable def X0_clashesOn_s (σ : gS) (b : Nat) (a : Int32 × Int32 × Int32 × Int32) : Option ((Int32 × Int32 × Int32 × Int32) ⊕ (Int32)) :=
  X0_clashesOn_k0 σ b a.1 a.2.1 a.2.2.1 a.2.2.2
noncomputable def X0_clashesOn (σ : gS) (b : Nat) (x1 : Int32) (x2 : Int32) : Option (Int32) :=
  gr (X0_clashesOn_s σ b) (x1, x2, 0, 0)
set_option maxHeartbeats 4000000 in
set_option maxRecDepth 100000 in
theorem l_X0_clashesOn {p : Program} {e : Env} {s : State} {m : MethodId} {args : Array Value} {below : List Frame} {meth : Method} {c : Code} (l : Launch) (D : va_G) (y : ClassId × ClassId × ClassId) (ad : Nat → Nat) {b : Nat} (hb : g_air b) (σ : gS) (sz : Nat) (hC : g_C p s m args c cX0_clashesOn 6 RX0 D y) (hr : meth.sig.returnType = (some .int)) (hlk : meth.locks = false) (hsz : s.heap.size = sz) {r0 : Int32} : ∀ a : Int32 × Int32 × Int32 × Int32, gr (X0_clashesOn_s σ b) a = some r0 → ∀ (H : Heap) (locs : List Loc) (ls : Array Slot), g_W (g_A ad sz) s.heap D y ad [] σ H locs → lv_has ls 6 [(0, .ref (ad b)), (1, .int a.1), (2, .int a.2.1), (3, .int a.2.2.1), (4, .int a.2.2.2)] → W p l e ({ frames := 1, cells := 0, slots := 0, locals := 25 }) s m args below meth c H locs 0 0 (MQ below (g_Qi D y ad σ sz r0) args s 0 0 (g_A ad sz)) (F0 m 5 ls []) := by
  have hx := hC.1
  have hcd := hC.2.1
  refine gr_all (fun a o ho hret hjmp => ?_)
  obtain ⟨x1, x2, x3, x4⟩ := a
  intro H locs ls hW hl
  have ho : X0_clashesOn_k0 σ b x1 x2 x3 x4 = some o := ho
  unfold X0_clashesOn_k0 at ho
  refine lv_iload hx hcd dX0_clashesOn_5 (lv_at hl 4 rfl) ?_
  refine lv_bipush (v := 20) hx hcd dX0_clashesOn_7 (by decide) ?_
  refine lv_icmp_ge (tgt := 58) hx hcd dX0_clashesOn_9 (by decide) (fun c1 => ?_) (fun c1 => ?_)
  · have ho := gif_p ho c1
    refine lv_iload_n hx hcd dX0_clashesOn_58 rfl (lv_at hl 3 rfl) ?_
    obtain rfl := hret _ (Option.some.inj ho).symm
    exact g_iret hC hr hlk hsz hW dX0_clashesOn_59
  · have ho := gif_n ho c1
    refine lv_aload_n hx hcd dX0_clashesOn_12 rfl (lv_at hl 0 rfl) ?_
    refine g_getr hC hW (C := RX0) (T := TX0) (N := 16) (ci := 2) (k := 15) (index := 46) (i := b) (r := (b + 11)) inGX0 rfl (by decide) fl_X0_46 (g_lt_air hb) (g_sh_air hb) rfl dX0_clashesOn_13 ?_
    refine lv_iload hx hcd dX0_clashesOn_16 (lv_at hl 4 rfl) ?_
    obtain ⟨i2, ho⟩ := gd_some ho
    refine g_iald hC hW (i := (b + 11)) (g_lt_arr (j := 11) hb (by decide)) (g_sa11 hb) i2 dX0_clashesOn_18 ?_
    refine lv_istore (lv' := [(5, .int (σ (b + 11) x4.toNatClampNeg)), (0, .ref (ad b)), (1, .int x1), (2, .int x2), (3, .int x3), (4, .int x4)]) hx hcd dX0_clashesOn_19 hl (by decide) rfl (fun ls hl => ?_)
    refine lv_iload hx hcd dX0_clashesOn_21 (lv_at hl 5 rfl) ?_
    refine lv_iload_n hx hcd dX0_clashesOn_23 rfl (lv_at hl 2 rfl) ?_
    refine lv_icmp_eq (tgt := 52) hx hcd dX0_clashesOn_24 (by decide) (fun c3 => ?_) (fun c3 => ?_)
    · have ho := gif_p ho c3
      refine lv_iinc (v := x4 + 1) (lv' := [(4, .int (x4 + 1)), (5, .int (σ (b + 11) x4.toNatClampNeg)), (0, .ref (ad b)), (1, .int x1), (2, .int x2), (3, .int x3)]) hx hcd dX0_clashesOn_52 hl (k := 5) rfl rfl (by decide) rfl (fun ls hl => ?_)
      refine lv_goto (tgt := 5) hx hcd dX0_clashesOn_55 (by decide) ?_
      exact hjmp _ (Option.some.inj ho).symm _ _ _ hW (lv_sub hl [2, 3, 4, 5, 0] rfl)
    · have ho := gif_n ho c3
      refine lv_iload hx hcd dX0_clashesOn_27 (lv_at hl 0 rfl) ?_
      refine lv_if_lt (tgt := 52) hx hcd dX0_clashesOn_29 (by decide) (fun c4 => ?_) (fun c4 => ?_)
      · have ho := gif_p ho c4
        refine lv_iinc (v := x4 + 1) (lv' := [(4, .int (x4 + 1)), (5, .int (σ (b + 11) x4.toNatClampNeg)), (0, .ref (ad b)), (1, .int x1), (2, .int x2), (3, .int x3)]) hx hcd dX0_clashesOn_52 hl (k := 5) rfl rfl (by decide) rfl (fun ls hl => ?_)
        refine lv_goto (tgt := 5) hx hcd dX0_clashesOn_55 (by decide) ?_
        exact hjmp _ (Option.some.inj ho).symm _ _ _ hW (lv_sub hl [2, 3, 4, 5, 0] rfl)
      · have ho := gif_n ho c4
        refine lv_aload_n hx hcd dX0_clashesOn_32 rfl (lv_at hl 1 rfl) ?_
        refine lv_iload_n hx hcd dX0_clashesOn_33 rfl (lv_at hl 2 rfl) ?_
        refine lv_iload_n hx hcd dX0_clashesOn_34 rfl (lv_at hl 3 rfl) ?_
        refine lv_iload hx hcd dX0_clashesOn_35 (lv_at hl 5 rfl) ?_
        refine lv_iload hx hcd dX0_clashesOn_37 (lv_at hl 0 rfl) ?_
        obtain ⟨r6, h5, ho⟩ := gb_some ho
        refine g_calli hW (g_runV (As := [.int x1, .int x2, .int x4, .int (σ (b + 11) x4.toNatClampNeg)]) (rest := []) (i := b) hC hW (c_X0_wouldClash l D y ad hb x1 x2 x4 (σ (b + 11) x4.toNatClampNeg) _ _ h5) ok_X0_125 ⟨rfl, rfl, Nat.le_of_ble_eq_true rfl, Nat.le_of_ble_eq_true rfl⟩ (g_lt_air hb) (g_sh_air hb) rfl rfl rfl hl.1 rfl (Nat.le_of_ble_eq_true rfl) dX0_clashesOn_39 ⟨Nat.zero_le _, Nat.zero_le _⟩) (fun H locs hW => ?_)
        refine lv_if_eq (tgt := 52) hx hcd dX0_clashesOn_42 (by decide) (fun c7 => ?_) (fun c7 => ?_)
        · have ho := gif_p ho c7
          refine lv_iinc (v := x4 + 1) (lv' := [(4, .int (x4 + 1)), (5, .int (σ (b + 11) x4.toNatClampNeg)), (0, .ref (ad b)), (1, .int x1), (2, .int x2), (3, .int x3)]) hx hcd dX0_clashesOn_52 hl (k := 5) rfl rfl (by decide) rfl (fun ls hl => ?_)
          refine lv_goto (tgt := 5) hx hcd dX0_clashesOn_55 (by decide) ?_
          exact hjmp _ (Option.some.inj ho).symm _ _ _ hW (lv_sub hl [2, 3, 4, 5, 0] rfl)
        · have ho := gif_n ho c7
          refine lv_iload_n hx hcd dX0_clashesOn_45 rfl (lv_at hl 4 rfl) ?_
          refine lv_iconst (v := 1) hx hcd dX0_clashesOn_46 (by decide) ?_
          refine lv_iload hx hcd dX0_clashesOn_47 (lv_at hl 5 rfl) ?_
          refine lv_ishl hx hcd dX0_clashesOn_49 ?_
          refine lv_ior hx hcd dX0_clashesOn_50 ?_
          refine lv_istore_n (lv' := [(3, .int (x3 ||| ((1 : Int32) <<< (x4 &&& 31)))), (5, .int (σ (b + 11) x4.toNatClampNeg)), (0, .ref (ad b)), (1, .int x1), (2, .int x2), (4, .int x4)]) hx hcd dX0_clashesOn_51 rfl hl (by decide) rfl (fun ls hl => ?_)
          refine lv_iinc (v := x4 + 1) (lv' := [(4, .int (x4 + 1)), (3, .int (x3 ||| ((1 : Int32) <<< (x4 &&& 31)))), (5, .int (σ (b + 11) x4.toNatClampNeg)), (0, .ref (ad b)), (1, .int x1), (2, .int x2)]) hx hcd dX0_clashesOn_52 hl (k := 5) rfl rfl (by decide) rfl (fun ls hl => ?_)
          refine lv_goto (tgt := 5) hx hcd dX0_clashesOn_55 (by decide) ?_
          exact hjmp _ (Option.some.inj ho).symm _ _ _ hW (lv_sub hl [3, 4, 5, 1, 0] rfl)
set_option maxHeartbeats 4000000 in
set_option maxRecDepth 100000 in
theorem c_X0_clashesOn (l : Launch) (D : va_G) (y : ClassId × ClassId × ClassId) (ad : Nat → Nat) {b : Nat} (hb : g_air b) (x1 : Int32) (x2 : Int32) (σ : gS) (sz : Nat) {q : Int32} (h : X0_clashesOn σ b x1 x2 = some q) : Met l yX0_clashesOn (Cond.code yX0_clashesOn cX0_clashesOn 6 (some .int) :: gl) ({ frames := 1, cells := 0, slots := 0, locals := 25 }) (g_Pc D y ad σ sz [.ref (ad b), .int x1, .int x2]) (g_Qi D y ad σ sz q) 0 0 (g_A ad sz) := by
  have ho := h
  unfold X0_clashesOn at ho
  refine g_start (by decide) (Nat.le_of_ble_eq_true rfl) (fun p e s m below meth c ls hC hr hlk hsz hW hl => ?_)
  have hx := hC.1
  have hcd := hC.2.1
  have hl : lv_has ls 6 [(0, .ref (ad b)), (1, .int x1), (2, .int x2)] := hl
  refine lv_iconst (v := 0) hx hcd dX0_clashesOn_0 (by decide) ?_
  refine lv_istore_n (lv' := [(3, .int 0), (0, .ref (ad b)), (1, .int x1), (2, .int x2)]) hx hcd dX0_clashesOn_1 rfl hl (by decide) rfl (fun ls hl => ?_)
  refine lv_iconst (v := 0) hx hcd dX0_clashesOn_2 (by decide) ?_
  refine lv_istore (lv' := [(4, .int 0), (3, .int 0), (0, .ref (ad b)), (1, .int x1), (2, .int x2)]) hx hcd dX0_clashesOn_3 hl (by decide) rfl (fun ls hl => ?_)
  exact l_X0_clashesOn l D y ad hb σ sz hC hr hlk hsz _ ho _ _ _ hW (lv_sub hl [2, 3, 4, 1, 0] rfl)
noncomputable def X0_conflictsOf (σ : gS) (b : Nat) (x1 : Int32) : Option (Int32) :=
  (X0_isOnStand σ b x1).bind fun r2 => if r2 = 0 then (some 0) else (gd (ib x1 20) <| (X0_clashesOn σ b x1 (σ (b + 11) x1.toNatClampNeg)).bind fun r6 => some r6)
set_option maxHeartbeats 4000000 in
set_option maxRecDepth 100000 in
theorem c_X0_conflictsOf (l : Launch) (D : va_G) (y : ClassId × ClassId × ClassId) (ad : Nat → Nat) {b : Nat} (hb : g_air b) (x1 : Int32) (σ : gS) (sz : Nat) {q : Int32} (h : X0_conflictsOf σ b x1 = some q) : Met l yX0_conflictsOf (Cond.code yX0_conflictsOf cX0_conflictsOf 2 (some .int) :: gl) ({ frames := 2, cells := 0, slots := 0, locals := 50 }) (g_Pc D y ad σ sz [.ref (ad b), .int x1]) (g_Qi D y ad σ sz q) 0 0 (g_A ad sz) := by
  have ho := h
  unfold X0_conflictsOf at ho
  refine g_start (by decide) (Nat.le_of_ble_eq_true rfl) (fun p e s m below meth c ls hC hr hlk hsz hW hl => ?_)
  have hx := hC.1
  have hcd := hC.2.1
  have hl : lv_has ls 2 [(0, .ref (ad b)), (1, .int x1)] := hl
  refine lv_aload_n hx hcd dX0_conflictsOf_0 rfl (lv_at hl 0 rfl) ?_
  refine lv_iload_n hx hcd dX0_conflictsOf_1 rfl (lv_at hl 1 rfl) ?_
  obtain ⟨r2, h1, ho⟩ := gb_some ho
  refine g_calli hW (g_runV (As := [.int x1]) (rest := []) (i := b) hC hW (c_X0_isOnStand l D y ad hb x1 _ _ h1) ok_X0_99 ⟨rfl, rfl, Nat.le_of_ble_eq_true rfl, Nat.le_of_ble_eq_true rfl⟩ (g_lt_air hb) (g_sh_air hb) rfl rfl rfl hl.1 rfl (Nat.le_of_ble_eq_true rfl) dX0_conflictsOf_2 ⟨Nat.zero_le _, Nat.zero_le _⟩) (fun H locs hW => ?_)
  refine lv_if_eq (tgt := 22) hx hcd dX0_conflictsOf_5 (by decide) (fun c3 => ?_) (fun c3 => ?_)
  · have ho := gif_p ho c3
    refine lv_iconst (v := 0) hx hcd dX0_conflictsOf_22 (by decide) ?_
    obtain rfl := Option.some.inj ho
    exact g_iret hC hr hlk hsz hW dX0_conflictsOf_23
  · have ho := gif_n ho c3
    refine lv_aload_n hx hcd dX0_conflictsOf_8 rfl (lv_at hl 0 rfl) ?_
    refine lv_iload_n hx hcd dX0_conflictsOf_9 rfl (lv_at hl 1 rfl) ?_
    refine lv_aload_n hx hcd dX0_conflictsOf_10 rfl (lv_at hl 0 rfl) ?_
    refine g_getr hC hW (C := RX0) (T := TX0) (N := 16) (ci := 2) (k := 15) (index := 46) (i := b) (r := (b + 11)) inGX0 rfl (by decide) fl_X0_46 (g_lt_air hb) (g_sh_air hb) rfl dX0_conflictsOf_11 ?_
    refine lv_iload_n hx hcd dX0_conflictsOf_14 rfl (lv_at hl 1 rfl) ?_
    obtain ⟨i4, ho⟩ := gd_some ho
    refine g_iald hC hW (i := (b + 11)) (g_lt_arr (j := 11) hb (by decide)) (g_sa11 hb) i4 dX0_conflictsOf_15 ?_
    obtain ⟨r6, h5, ho⟩ := gb_some ho
    refine g_calli hW (g_runV (As := [.int x1, .int (σ (b + 11) x1.toNatClampNeg)]) (rest := []) (i := b) hC hW (c_X0_clashesOn l D y ad hb x1 (σ (b + 11) x1.toNatClampNeg) _ _ h5) ok_X0_129 ⟨rfl, rfl, Nat.le_of_ble_eq_true rfl, Nat.le_of_ble_eq_true rfl⟩ (g_lt_air hb) (g_sh_air hb) rfl rfl rfl hl.1 rfl (Nat.le_of_ble_eq_true rfl) dX0_conflictsOf_16 ⟨Nat.zero_le _, Nat.zero_le _⟩) (fun H locs hW => ?_)
    refine lv_goto (tgt := 23) hx hcd dX0_conflictsOf_19 (by decide) ?_
    obtain rfl := Option.some.inj ho
    exact g_iret hC hr hlk hsz hW dX0_conflictsOf_23
noncomputable def X0_isTroubled (σ : gS) (b : Nat) (x1 : Int32) : Option (Int32) :=
  (X0_isHindered σ b x1).bind fun r2 => if r2 = 0 then ((X0_conflictsOf σ b x1).bind fun r5 => if r5 = 0 then (some 0) else (some 1)) else (some 1)
set_option maxHeartbeats 4000000 in
set_option maxRecDepth 100000 in
theorem c_X0_isTroubled (l : Launch) (D : va_G) (y : ClassId × ClassId × ClassId) (ad : Nat → Nat) {b : Nat} (hb : g_air b) (x1 : Int32) (σ : gS) (sz : Nat) {q : Int32} (h : X0_isTroubled σ b x1 = some q) : Met l yX0_isTroubled (Cond.code yX0_isTroubled cX0_isTroubled 2 (some .boolean) :: gl) ({ frames := 3, cells := 0, slots := 0, locals := 71 }) (g_Pc D y ad σ sz [.ref (ad b), .int x1]) (g_Qi D y ad σ sz q) 0 0 (g_A ad sz) := by
  have ho := h
  unfold X0_isTroubled at ho
  refine g_start (by decide) (Nat.le_of_ble_eq_true rfl) (fun p e s m below meth c ls hC hr hlk hsz hW hl => ?_)
  have hx := hC.1
  have hcd := hC.2.1
  have hl : lv_has ls 2 [(0, .ref (ad b)), (1, .int x1)] := hl
  refine lv_aload_n hx hcd dX0_isTroubled_0 rfl (lv_at hl 0 rfl) ?_
  refine lv_iload_n hx hcd dX0_isTroubled_1 rfl (lv_at hl 1 rfl) ?_
  obtain ⟨r2, h1, ho⟩ := gb_some ho
  refine g_calli hW (g_runV (As := [.int x1]) (rest := []) (i := b) hC hW (c_X0_isHindered l D y ad hb x1 _ _ h1) ok_X0_102 ⟨rfl, rfl, Nat.le_of_ble_eq_true rfl, Nat.le_of_ble_eq_true rfl⟩ (g_lt_air hb) (g_sh_air hb) rfl rfl rfl hl.1 rfl (Nat.le_of_ble_eq_true rfl) dX0_isTroubled_2 ⟨Nat.zero_le _, Nat.zero_le _⟩) (fun H locs hW => ?_)
  refine lv_if_ne (tgt := 16) hx hcd dX0_isTroubled_5 (by decide) (fun c3 => ?_) (fun c3 => ?_)
  · have ho := gif_n ho c3
    refine lv_iconst (v := 1) hx hcd dX0_isTroubled_16 (by decide) ?_
    refine lv_goto (tgt := 21) hx hcd dX0_isTroubled_17 (by decide) ?_
    obtain rfl := Option.some.inj ho
    exact g_zret (r := 1) hC hr hlk hsz hW (by decide) dX0_isTroubled_21
  · have ho := gif_p ho c3
    refine lv_aload_n hx hcd dX0_isTroubled_8 rfl (lv_at hl 0 rfl) ?_
    refine lv_iload_n hx hcd dX0_isTroubled_9 rfl (lv_at hl 1 rfl) ?_
    obtain ⟨r5, h4, ho⟩ := gb_some ho
    refine g_calli hW (g_runV (As := [.int x1]) (rest := []) (i := b) hC hW (c_X0_conflictsOf l D y ad hb x1 _ _ h4) ok_X0_121 ⟨rfl, rfl, Nat.le_of_ble_eq_true rfl, Nat.le_of_ble_eq_true rfl⟩ (g_lt_air hb) (g_sh_air hb) rfl rfl rfl hl.1 rfl (Nat.le_of_ble_eq_true rfl) dX0_isTroubled_10 ⟨Nat.zero_le _, Nat.zero_le _⟩) (fun H locs hW => ?_)
    refine lv_if_eq (tgt := 20) hx hcd dX0_isTroubled_13 (by decide) (fun c6 => ?_) (fun c6 => ?_)
    · have ho := gif_p ho c6
      refine lv_iconst (v := 0) hx hcd dX0_isTroubled_20 (by decide) ?_
      obtain rfl := Option.some.inj ho
      exact g_zret (r := 0) hC hr hlk hsz hW (by decide) dX0_isTroubled_21
    · have ho := gif_n ho c6
      refine lv_iconst (v := 1) hx hcd dX0_isTroubled_16 (by decide) ?_
      refine lv_goto (tgt := 21) hx hcd dX0_isTroubled_17 (by decide) ?_
      obtain rfl := Option.some.inj ho
      exact g_zret (r := 1) hC hr hlk hsz hW (by decide) dX0_isTroubled_21
noncomputable def X0_troubledOn_k0 (σ : gS) (b : Nat) (x1 : Int32) (x2 : Int32) (x3 : Int32) : Option ((Int32 × Int32 × Int32) ⊕ (Int32)) :=
  if 20 ≤ x3 then (some (.inr x2)) else (gd (ib x3 20) <| if (σ (b + 11) x3.toNatClampNeg) = x1 then ((X0_isTroubled σ b x3).bind fun r5 => if r5 = 0 then (some (.inl (x1, x2, (x3 + 1)))) else (some (.inl (x1, (x2 ||| ((1 : Int32) <<< (x3 &&& 31))), (x3 + 1))))) else (some (.inl (x1, x2, (x3 + 1)))))
noncomputable def X0_troubledOn_s (σ : gS) (b : Nat) (a : Int32 × Int32 × Int32) : Option ((Int32 × Int32 × Int32) ⊕ (Int32)) :=
  X0_troubledOn_k0 σ b a.1 a.2.1 a.2.2
noncomputable def X0_troubledOn (σ : gS) (b : Nat) (x1 : Int32) : Option (Int32) :=
  gr (X0_troubledOn_s σ b) (x1, 0, 0)
set_option maxHeartbeats 4000000 in
set_option maxRecDepth 100000 in
theorem l_X0_troubledOn {p : Program} {e : Env} {s : State} {m : MethodId} {args : Array Value} {below : List Frame} {meth : Method} {c : Code} (l : Launch) (D : va_G) (y : ClassId × ClassId × ClassId) (ad : Nat → Nat) {b : Nat} (hb : g_air b) (σ : gS) (sz : Nat) (hC : g_C p s m args c cX0_troubledOn 4 RX0 D y) (hr : meth.sig.returnType = (some .int)) (hlk : meth.locks = false) (hsz : s.heap.size = sz) {r0 : Int32} : ∀ a : Int32 × Int32 × Int32, gr (X0_troubledOn_s σ b) a = some r0 → ∀ (H : Heap) (locs : List Loc) (ls : Array Slot), g_W (g_A ad sz) s.heap D y ad [] σ H locs → lv_has ls 4 [(0, .ref (ad b)), (1, .int a.1), (2, .int a.2.1), (3, .int a.2.2)] → W p l e ({ frames := 4, cells := 0, slots := 0, locals := 92 }) s m args below meth c H locs 0 0 (MQ below (g_Qi D y ad σ sz r0) args s 0 0 (g_A ad sz)) (F0 m 4 ls []) := by
  have hx := hC.1
  have hcd := hC.2.1
  refine gr_all (fun a o ho hret hjmp => ?_)
  obtain ⟨x1, x2, x3⟩ := a
  intro H locs ls hW hl
  have ho : X0_troubledOn_k0 σ b x1 x2 x3 = some o := ho
  unfold X0_troubledOn_k0 at ho
  refine lv_iload_n hx hcd dX0_troubledOn_4 rfl (lv_at hl 3 rfl) ?_
  refine lv_bipush (v := 20) hx hcd dX0_troubledOn_5 (by decide) ?_
  refine lv_icmp_ge (tgt := 40) hx hcd dX0_troubledOn_7 (by decide) (fun c1 => ?_) (fun c1 => ?_)
  · have ho := gif_p ho c1
    refine lv_iload_n hx hcd dX0_troubledOn_40 rfl (lv_at hl 2 rfl) ?_
    obtain rfl := hret _ (Option.some.inj ho).symm
    exact g_iret hC hr hlk hsz hW dX0_troubledOn_41
  · have ho := gif_n ho c1
    refine lv_aload_n hx hcd dX0_troubledOn_10 rfl (lv_at hl 0 rfl) ?_
    refine g_getr hC hW (C := RX0) (T := TX0) (N := 16) (ci := 2) (k := 15) (index := 46) (i := b) (r := (b + 11)) inGX0 rfl (by decide) fl_X0_46 (g_lt_air hb) (g_sh_air hb) rfl dX0_troubledOn_11 ?_
    refine lv_iload_n hx hcd dX0_troubledOn_14 rfl (lv_at hl 3 rfl) ?_
    obtain ⟨i2, ho⟩ := gd_some ho
    refine g_iald hC hW (i := (b + 11)) (g_lt_arr (j := 11) hb (by decide)) (g_sa11 hb) i2 dX0_troubledOn_15 ?_
    refine lv_iload_n hx hcd dX0_troubledOn_16 rfl (lv_at hl 1 rfl) ?_
    refine lv_icmp_ne (tgt := 34) hx hcd dX0_troubledOn_17 (by decide) (fun c3 => ?_) (fun c3 => ?_)
    · have ho := gif_n ho c3
      refine lv_iinc (v := x3 + 1) (lv' := [(3, .int (x3 + 1)), (0, .ref (ad b)), (1, .int x1), (2, .int x2)]) hx hcd dX0_troubledOn_34 hl (k := 3) rfl rfl (by decide) rfl (fun ls hl => ?_)
      refine lv_goto (tgt := 4) hx hcd dX0_troubledOn_37 (by decide) ?_
      exact hjmp _ (Option.some.inj ho).symm _ _ _ hW (lv_sub hl [1, 2, 3, 0] rfl)
    · have ho := gif_p ho c3
      refine lv_aload_n hx hcd dX0_troubledOn_20 rfl (lv_at hl 0 rfl) ?_
      refine lv_iload_n hx hcd dX0_troubledOn_21 rfl (lv_at hl 3 rfl) ?_
      obtain ⟨r5, h4, ho⟩ := gb_some ho
      refine g_calli hW (g_runV (As := [.int x3]) (rest := []) (i := b) hC hW (c_X0_isTroubled l D y ad hb x3 _ _ h4) ok_X0_105 ⟨rfl, rfl, Nat.le_of_ble_eq_true rfl, Nat.le_of_ble_eq_true rfl⟩ (g_lt_air hb) (g_sh_air hb) rfl rfl rfl hl.1 rfl (Nat.le_of_ble_eq_true rfl) dX0_troubledOn_22 ⟨Nat.zero_le _, Nat.zero_le _⟩) (fun H locs hW => ?_)
      refine lv_if_eq (tgt := 34) hx hcd dX0_troubledOn_25 (by decide) (fun c6 => ?_) (fun c6 => ?_)
      · have ho := gif_p ho c6
        refine lv_iinc (v := x3 + 1) (lv' := [(3, .int (x3 + 1)), (0, .ref (ad b)), (1, .int x1), (2, .int x2)]) hx hcd dX0_troubledOn_34 hl (k := 3) rfl rfl (by decide) rfl (fun ls hl => ?_)
        refine lv_goto (tgt := 4) hx hcd dX0_troubledOn_37 (by decide) ?_
        exact hjmp _ (Option.some.inj ho).symm _ _ _ hW (lv_sub hl [1, 2, 3, 0] rfl)
      · have ho := gif_n ho c6
        refine lv_iload_n hx hcd dX0_troubledOn_28 rfl (lv_at hl 2 rfl) ?_
        refine lv_iconst (v := 1) hx hcd dX0_troubledOn_29 (by decide) ?_
        refine lv_iload_n hx hcd dX0_troubledOn_30 rfl (lv_at hl 3 rfl) ?_
        refine lv_ishl hx hcd dX0_troubledOn_31 ?_
        refine lv_ior hx hcd dX0_troubledOn_32 ?_
        refine lv_istore_n (lv' := [(2, .int (x2 ||| ((1 : Int32) <<< (x3 &&& 31)))), (0, .ref (ad b)), (1, .int x1), (3, .int x3)]) hx hcd dX0_troubledOn_33 rfl hl (by decide) rfl (fun ls hl => ?_)
        refine lv_iinc (v := x3 + 1) (lv' := [(3, .int (x3 + 1)), (2, .int (x2 ||| ((1 : Int32) <<< (x3 &&& 31)))), (0, .ref (ad b)), (1, .int x1)]) hx hcd dX0_troubledOn_34 hl (k := 3) rfl rfl (by decide) rfl (fun ls hl => ?_)
        refine lv_goto (tgt := 4) hx hcd dX0_troubledOn_37 (by decide) ?_
        exact hjmp _ (Option.some.inj ho).symm _ _ _ hW (lv_sub hl [2, 3, 1, 0] rfl)
set_option maxHeartbeats 4000000 in
set_option maxRecDepth 100000 in
theorem c_X0_troubledOn (l : Launch) (D : va_G) (y : ClassId × ClassId × ClassId) (ad : Nat → Nat) {b : Nat} (hb : g_air b) (x1 : Int32) (σ : gS) (sz : Nat) {q : Int32} (h : X0_troubledOn σ b x1 = some q) : Met l yX0_troubledOn (Cond.code yX0_troubledOn cX0_troubledOn 4 (some .int) :: gl) ({ frames := 4, cells := 0, slots := 0, locals := 92 }) (g_Pc D y ad σ sz [.ref (ad b), .int x1]) (g_Qi D y ad σ sz q) 0 0 (g_A ad sz) := by
  have ho := h
  unfold X0_troubledOn at ho
  refine g_start (by decide) (Nat.le_of_ble_eq_true rfl) (fun p e s m below meth c ls hC hr hlk hsz hW hl => ?_)
  have hx := hC.1
  have hcd := hC.2.1
  have hl : lv_has ls 4 [(0, .ref (ad b)), (1, .int x1)] := hl
  refine lv_iconst (v := 0) hx hcd dX0_troubledOn_0 (by decide) ?_
  refine lv_istore_n (lv' := [(2, .int 0), (0, .ref (ad b)), (1, .int x1)]) hx hcd dX0_troubledOn_1 rfl hl (by decide) rfl (fun ls hl => ?_)
  refine lv_iconst (v := 0) hx hcd dX0_troubledOn_2 (by decide) ?_
  refine lv_istore_n (lv' := [(3, .int 0), (2, .int 0), (0, .ref (ad b)), (1, .int x1)]) hx hcd dX0_troubledOn_3 rfl hl (by decide) rfl (fun ls hl => ?_)
  exact l_X0_troubledOn l D y ad hb σ sz hC hr hlk hsz _ ho _ _ _ hW (lv_sub hl [2, 3, 1, 0] rfl)
noncomputable def X0_partnersOf_k0 (σ : gS) (b : Nat) (x1 : Int32) (x2 : Int32) (x3 : Int32) : Option ((Int32 × Int32 × Int32) ⊕ (Int32)) :=
  if (σ b 0) ≤ x3 then (some (.inr x2)) else (gd (ib ((x1 * (8 : Int32)) + x3) 64) <| if (σ (b + 3) ((x1 * (8 : Int32)) + x3).toNatClampNeg) < 0 then (some (.inl (x1, x2, (x3 + 1)))) else (some (.inl (x1, (x2 ||| ((1 : Int32) <<< (x3 &&& 31))), (x3 + 1)))))
noncomputable def X0_partnersOf_s (σ : gS) (b : Nat) (a : Int32 × Int32 × Int32) : Option ((Int32 × Int32 × Int32) ⊕ (Int32)) :=
  X0_partnersOf_k0 σ b a.1 a.2.1 a.2.2
noncomputable def X0_partnersOf (σ : gS) (b : Nat) (x1 : Int32) : Option (Int32) :=
  gr (X0_partnersOf_s σ b) (x1, 0, 0)
set_option maxHeartbeats 4000000 in
set_option maxRecDepth 100000 in
theorem l_X0_partnersOf {p : Program} {e : Env} {s : State} {m : MethodId} {args : Array Value} {below : List Frame} {meth : Method} {c : Code} (l : Launch) (D : va_G) (y : ClassId × ClassId × ClassId) (ad : Nat → Nat) {b : Nat} (hb : g_air b) (σ : gS) (sz : Nat) (hC : g_C p s m args c cX0_partnersOf 4 RX0 D y) (hr : meth.sig.returnType = (some .int)) (hlk : meth.locks = false) (hsz : s.heap.size = sz) {r0 : Int32} : ∀ a : Int32 × Int32 × Int32, gr (X0_partnersOf_s σ b) a = some r0 → ∀ (H : Heap) (locs : List Loc) (ls : Array Slot), g_W (g_A ad sz) s.heap D y ad [] σ H locs → lv_has ls 4 [(0, .ref (ad b)), (1, .int a.1), (2, .int a.2.1), (3, .int a.2.2)] → W p l e ({ frames := 0, cells := 0, slots := 0, locals := 0 }) s m args below meth c H locs 0 0 (MQ below (g_Qi D y ad σ sz r0) args s 0 0 (g_A ad sz)) (F0 m 4 ls []) := by
  have hx := hC.1
  have hcd := hC.2.1
  refine gr_all (fun a o ho hret hjmp => ?_)
  obtain ⟨x1, x2, x3⟩ := a
  intro H locs ls hW hl
  have ho : X0_partnersOf_k0 σ b x1 x2 x3 = some o := ho
  unfold X0_partnersOf_k0 at ho
  refine lv_iload_n hx hcd dX0_partnersOf_4 rfl (lv_at hl 3 rfl) ?_
  refine lv_aload_n hx hcd dX0_partnersOf_5 rfl (lv_at hl 0 rfl) ?_
  refine g_geti hC hW (C := RX0) (T := TX0) (N := 16) (ci := 2) (k := 0) (index := 55) (i := b) inGX0 rfl (by decide) fl_X0_55 (g_lt_air hb) (g_sh_air hb) rfl dX0_partnersOf_6 ?_
  refine lv_icmp_ge (tgt := 38) hx hcd dX0_partnersOf_9 (by decide) (fun c1 => ?_) (fun c1 => ?_)
  · have ho := gif_p ho c1
    refine lv_iload_n hx hcd dX0_partnersOf_38 rfl (lv_at hl 2 rfl) ?_
    obtain rfl := hret _ (Option.some.inj ho).symm
    exact g_iret hC hr hlk hsz hW dX0_partnersOf_39
  · have ho := gif_n ho c1
    refine lv_aload_n hx hcd dX0_partnersOf_12 rfl (lv_at hl 0 rfl) ?_
    refine g_getr hC hW (C := RX0) (T := TX0) (N := 16) (ci := 2) (k := 7) (index := 22) (i := b) (r := (b + 3)) inGX0 rfl (by decide) fl_X0_22 (g_lt_air hb) (g_sh_air hb) rfl dX0_partnersOf_13 ?_
    refine lv_iload_n hx hcd dX0_partnersOf_16 rfl (lv_at hl 1 rfl) ?_
    refine lv_bipush (v := 8) hx hcd dX0_partnersOf_17 (by decide) ?_
    refine lv_imul hx hcd dX0_partnersOf_19 ?_
    refine lv_iload_n hx hcd dX0_partnersOf_20 rfl (lv_at hl 3 rfl) ?_
    refine lv_iadd hx hcd dX0_partnersOf_21 ?_
    obtain ⟨i2, ho⟩ := gd_some ho
    refine g_iald hC hW (i := (b + 3)) (g_lt_arr (j := 3) hb (by decide)) (g_sa3 hb) i2 dX0_partnersOf_22 ?_
    refine lv_if_lt (tgt := 32) hx hcd dX0_partnersOf_23 (by decide) (fun c3 => ?_) (fun c3 => ?_)
    · have ho := gif_p ho c3
      refine lv_iinc (v := x3 + 1) (lv' := [(3, .int (x3 + 1)), (0, .ref (ad b)), (1, .int x1), (2, .int x2)]) hx hcd dX0_partnersOf_32 hl (k := 3) rfl rfl (by decide) rfl (fun ls hl => ?_)
      refine lv_goto (tgt := 4) hx hcd dX0_partnersOf_35 (by decide) ?_
      exact hjmp _ (Option.some.inj ho).symm _ _ _ hW (lv_sub hl [1, 2, 3, 0] rfl)
    · have ho := gif_n ho c3
      refine lv_iload_n hx hcd dX0_partnersOf_26 rfl (lv_at hl 2 rfl) ?_
      refine lv_iconst (v := 1) hx hcd dX0_partnersOf_27 (by decide) ?_
      refine lv_iload_n hx hcd dX0_partnersOf_28 rfl (lv_at hl 3 rfl) ?_
      refine lv_ishl hx hcd dX0_partnersOf_29 ?_
      refine lv_ior hx hcd dX0_partnersOf_30 ?_
      refine lv_istore_n (lv' := [(2, .int (x2 ||| ((1 : Int32) <<< (x3 &&& 31)))), (0, .ref (ad b)), (1, .int x1), (3, .int x3)]) hx hcd dX0_partnersOf_31 rfl hl (by decide) rfl (fun ls hl => ?_)
      refine lv_iinc (v := x3 + 1) (lv' := [(3, .int (x3 + 1)), (2, .int (x2 ||| ((1 : Int32) <<< (x3 &&& 31)))), (0, .ref (ad b)), (1, .int x1)]) hx hcd dX0_partnersOf_32 hl (k := 3) rfl rfl (by decide) rfl (fun ls hl => ?_)
      refine lv_goto (tgt := 4) hx hcd dX0_partnersOf_35 (by decide) ?_
      exact hjmp _ (Option.some.inj ho).symm _ _ _ hW (lv_sub hl [2, 3, 1, 0] rfl)
set_option maxHeartbeats 4000000 in
set_option maxRecDepth 100000 in
theorem c_X0_partnersOf (l : Launch) (D : va_G) (y : ClassId × ClassId × ClassId) (ad : Nat → Nat) {b : Nat} (hb : g_air b) (x1 : Int32) (σ : gS) (sz : Nat) {q : Int32} (h : X0_partnersOf σ b x1 = some q) : Met l yX0_partnersOf (Cond.code yX0_partnersOf cX0_partnersOf 4 (some .int) :: gl) ({ frames := 0, cells := 0, slots := 0, locals := 0 }) (g_Pc D y ad σ sz [.ref (ad b), .int x1]) (g_Qi D y ad σ sz q) 0 0 (g_A ad sz) := by
  have ho := h
  unfold X0_partnersOf at ho
  refine g_start (by decide) (Nat.le_of_ble_eq_true rfl) (fun p e s m below meth c ls hC hr hlk hsz hW hl => ?_)
  have hx := hC.1
  have hcd := hC.2.1
  have hl : lv_has ls 4 [(0, .ref (ad b)), (1, .int x1)] := hl
  refine lv_iconst (v := 0) hx hcd dX0_partnersOf_0 (by decide) ?_
  refine lv_istore_n (lv' := [(2, .int 0), (0, .ref (ad b)), (1, .int x1)]) hx hcd dX0_partnersOf_1 rfl hl (by decide) rfl (fun ls hl => ?_)
  refine lv_iconst (v := 0) hx hcd dX0_partnersOf_2 (by decide) ?_
  refine lv_istore_n (lv' := [(3, .int 0), (2, .int 0), (0, .ref (ad b)), (1, .int x1)]) hx hcd dX0_partnersOf_3 rfl hl (by decide) rfl (fun ls hl => ?_)
  exact l_X0_partnersOf l D y ad hb σ sz hC hr hlk hsz _ ho _ _ _ hW (lv_sub hl [2, 3, 1, 0] rfl)
noncomputable def X0_lengthOf_k0 (σ : gS) (b : Nat) (x1 : Int32) (x2 : Int32) (x3 : Int32) : Option ((Int32 × Int32 × Int32) ⊕ (Int32)) :=
  if 20 ≤ x3 then (some (.inr x2)) else (if ((x1 >>> (x3 &&& 31)) &&& (1 : Int32)) = 0 then (some (.inl (x1, x2, (x3 + 1)))) else (gd (ib x3 20) <| some (.inl (x1, (x2 + ((σ (b + 10) x3.toNatClampNeg) - (σ (b + 9) x3.toNatClampNeg))), (x3 + 1)))))
noncomputable def X0_lengthOf_s (σ : gS) (b : Nat) (a : Int32 × Int32 × Int32) : Option ((Int32 × Int32 × Int32) ⊕ (Int32)) :=
  X0_lengthOf_k0 σ b a.1 a.2.1 a.2.2
noncomputable def X0_lengthOf (σ : gS) (b : Nat) (x1 : Int32) : Option (Int32) :=
  gr (X0_lengthOf_s σ b) (x1, 0, 0)
set_option maxHeartbeats 4000000 in
set_option maxRecDepth 100000 in
theorem l_X0_lengthOf {p : Program} {e : Env} {s : State} {m : MethodId} {args : Array Value} {below : List Frame} {meth : Method} {c : Code} (l : Launch) (D : va_G) (y : ClassId × ClassId × ClassId) (ad : Nat → Nat) {b : Nat} (hb : g_air b) (σ : gS) (sz : Nat) (hC : g_C p s m args c cX0_lengthOf 4 RX0 D y) (hr : meth.sig.returnType = (some .int)) (hlk : meth.locks = false) (hsz : s.heap.size = sz) {r0 : Int32} : ∀ a : Int32 × Int32 × Int32, gr (X0_lengthOf_s σ b) a = some r0 → ∀ (H : Heap) (locs : List Loc) (ls : Array Slot), g_W (g_A ad sz) s.heap D y ad [] σ H locs → lv_has ls 4 [(0, .ref (ad b)), (1, .int a.1), (2, .int a.2.1), (3, .int a.2.2)] → W p l e ({ frames := 0, cells := 0, slots := 0, locals := 0 }) s m args below meth c H locs 0 0 (MQ below (g_Qi D y ad σ sz r0) args s 0 0 (g_A ad sz)) (F0 m 4 ls []) := by
  have hx := hC.1
  have hcd := hC.2.1
  refine gr_all (fun a o ho hret hjmp => ?_)
  obtain ⟨x1, x2, x3⟩ := a
  intro H locs ls hW hl
  have ho : X0_lengthOf_k0 σ b x1 x2 x3 = some o := ho
  unfold X0_lengthOf_k0 at ho
  refine lv_iload_n hx hcd dX0_lengthOf_4 rfl (lv_at hl 3 rfl) ?_
  refine lv_bipush (v := 20) hx hcd dX0_lengthOf_5 (by decide) ?_
  refine lv_icmp_ge (tgt := 40) hx hcd dX0_lengthOf_7 (by decide) (fun c1 => ?_) (fun c1 => ?_)
  · have ho := gif_p ho c1
    refine lv_iload_n hx hcd dX0_lengthOf_40 rfl (lv_at hl 2 rfl) ?_
    obtain rfl := hret _ (Option.some.inj ho).symm
    exact g_iret hC hr hlk hsz hW dX0_lengthOf_41
  · have ho := gif_n ho c1
    refine lv_iload_n hx hcd dX0_lengthOf_10 rfl (lv_at hl 1 rfl) ?_
    refine lv_iload_n hx hcd dX0_lengthOf_11 rfl (lv_at hl 3 rfl) ?_
    refine lv_ishr hx hcd dX0_lengthOf_12 ?_
    refine lv_iconst (v := 1) hx hcd dX0_lengthOf_13 (by decide) ?_
    refine lv_iand hx hcd dX0_lengthOf_14 ?_
    refine lv_if_eq (tgt := 34) hx hcd dX0_lengthOf_15 (by decide) (fun c2 => ?_) (fun c2 => ?_)
    · have ho := gif_p ho c2
      refine lv_iinc (v := x3 + 1) (lv' := [(3, .int (x3 + 1)), (0, .ref (ad b)), (1, .int x1), (2, .int x2)]) hx hcd dX0_lengthOf_34 hl (k := 3) rfl rfl (by decide) rfl (fun ls hl => ?_)
      refine lv_goto (tgt := 4) hx hcd dX0_lengthOf_37 (by decide) ?_
      exact hjmp _ (Option.some.inj ho).symm _ _ _ hW (lv_sub hl [1, 2, 3, 0] rfl)
    · have ho := gif_n ho c2
      refine lv_iload_n hx hcd dX0_lengthOf_18 rfl (lv_at hl 2 rfl) ?_
      refine lv_aload_n hx hcd dX0_lengthOf_19 rfl (lv_at hl 0 rfl) ?_
      refine g_getr hC hW (C := RX0) (T := TX0) (N := 16) (ci := 2) (k := 14) (index := 43) (i := b) (r := (b + 10)) inGX0 rfl (by decide) fl_X0_43 (g_lt_air hb) (g_sh_air hb) rfl dX0_lengthOf_20 ?_
      refine lv_iload_n hx hcd dX0_lengthOf_23 rfl (lv_at hl 3 rfl) ?_
      obtain ⟨i3, ho⟩ := gd_some ho
      refine g_iald hC hW (i := (b + 10)) (g_lt_arr (j := 10) hb (by decide)) (g_sa10 hb) i3 dX0_lengthOf_24 ?_
      refine lv_aload_n hx hcd dX0_lengthOf_25 rfl (lv_at hl 0 rfl) ?_
      refine g_getr hC hW (C := RX0) (T := TX0) (N := 16) (ci := 2) (k := 13) (index := 40) (i := b) (r := (b + 9)) inGX0 rfl (by decide) fl_X0_40 (g_lt_air hb) (g_sh_air hb) rfl dX0_lengthOf_26 ?_
      refine lv_iload_n hx hcd dX0_lengthOf_29 rfl (lv_at hl 3 rfl) ?_
      refine g_iald hC hW (i := (b + 9)) (g_lt_arr (j := 9) hb (by decide)) (g_sa9 hb) i3 dX0_lengthOf_30 ?_
      refine lv_isub hx hcd dX0_lengthOf_31 ?_
      refine lv_iadd hx hcd dX0_lengthOf_32 ?_
      refine lv_istore_n (lv' := [(2, .int (x2 + ((σ (b + 10) x3.toNatClampNeg) - (σ (b + 9) x3.toNatClampNeg)))), (0, .ref (ad b)), (1, .int x1), (3, .int x3)]) hx hcd dX0_lengthOf_33 rfl hl (by decide) rfl (fun ls hl => ?_)
      refine lv_iinc (v := x3 + 1) (lv' := [(3, .int (x3 + 1)), (2, .int (x2 + ((σ (b + 10) x3.toNatClampNeg) - (σ (b + 9) x3.toNatClampNeg)))), (0, .ref (ad b)), (1, .int x1)]) hx hcd dX0_lengthOf_34 hl (k := 3) rfl rfl (by decide) rfl (fun ls hl => ?_)
      refine lv_goto (tgt := 4) hx hcd dX0_lengthOf_37 (by decide) ?_
      exact hjmp _ (Option.some.inj ho).symm _ _ _ hW (lv_sub hl [2, 3, 1, 0] rfl)
set_option maxHeartbeats 4000000 in
set_option maxRecDepth 100000 in
theorem c_X0_lengthOf (l : Launch) (D : va_G) (y : ClassId × ClassId × ClassId) (ad : Nat → Nat) {b : Nat} (hb : g_air b) (x1 : Int32) (σ : gS) (sz : Nat) {q : Int32} (h : X0_lengthOf σ b x1 = some q) : Met l yX0_lengthOf (Cond.code yX0_lengthOf cX0_lengthOf 4 (some .int) :: gl) ({ frames := 0, cells := 0, slots := 0, locals := 0 }) (g_Pc D y ad σ sz [.ref (ad b), .int x1]) (g_Qi D y ad σ sz q) 0 0 (g_A ad sz) := by
  have ho := h
  unfold X0_lengthOf at ho
  refine g_start (by decide) (Nat.le_of_ble_eq_true rfl) (fun p e s m below meth c ls hC hr hlk hsz hW hl => ?_)
  have hx := hC.1
  have hcd := hC.2.1
  have hl : lv_has ls 4 [(0, .ref (ad b)), (1, .int x1)] := hl
  refine lv_iconst (v := 0) hx hcd dX0_lengthOf_0 (by decide) ?_
  refine lv_istore_n (lv' := [(2, .int 0), (0, .ref (ad b)), (1, .int x1)]) hx hcd dX0_lengthOf_1 rfl hl (by decide) rfl (fun ls hl => ?_)
  refine lv_iconst (v := 0) hx hcd dX0_lengthOf_2 (by decide) ?_
  refine lv_istore_n (lv' := [(3, .int 0), (2, .int 0), (0, .ref (ad b)), (1, .int x1)]) hx hcd dX0_lengthOf_3 rfl hl (by decide) rfl (fun ls hl => ?_)
  exact l_X0_lengthOf l D y ad hb σ sz hC hr hlk hsz _ ho _ _ _ hW (lv_sub hl [2, 3, 1, 0] rfl)
noncomputable def X0_stayAt_k0 (σ : gS) (b : Nat) (x1 : Int32) (x2 : Int32) (x3 : Int32) : Option ((Int32 × Int32 × Int32) ⊕ (Int32)) :=
  if 20 ≤ x3 then (some (.inr (-1))) else (gd (ib x3 20) <| if (σ (b + 11) x3.toNatClampNeg) = x1 then ((X0_isThere σ b x3 x2).bind fun r5 => if r5 = 0 then (some (.inl (x1, x2, (x3 + 1)))) else (some (.inr x3))) else (some (.inl (x1, x2, (x3 + 1)))))
noncomputable def X0_stayAt_s (σ : gS) (b : Nat) (a : Int32 × Int32 × Int32) : Option ((Int32 × Int32 × Int32) ⊕ (Int32)) :=
  X0_stayAt_k0 σ b a.1 a.2.1 a.2.2
noncomputable def X0_stayAt (σ : gS) (b : Nat) (x1 : Int32) (x2 : Int32) : Option (Int32) :=
  gr (X0_stayAt_s σ b) (x1, x2, 0)
set_option maxHeartbeats 4000000 in
set_option maxRecDepth 100000 in
theorem l_X0_stayAt {p : Program} {e : Env} {s : State} {m : MethodId} {args : Array Value} {below : List Frame} {meth : Method} {c : Code} (l : Launch) (D : va_G) (y : ClassId × ClassId × ClassId) (ad : Nat → Nat) {b : Nat} (hb : g_air b) (σ : gS) (sz : Nat) (hC : g_C p s m args c cX0_stayAt 4 RX0 D y) (hr : meth.sig.returnType = (some .int)) (hlk : meth.locks = false) (hsz : s.heap.size = sz) {r0 : Int32} : ∀ a : Int32 × Int32 × Int32, gr (X0_stayAt_s σ b) a = some r0 → ∀ (H : Heap) (locs : List Loc) (ls : Array Slot), g_W (g_A ad sz) s.heap D y ad [] σ H locs → lv_has ls 4 [(0, .ref (ad b)), (1, .int a.1), (2, .int a.2.1), (3, .int a.2.2)] → W p l e ({ frames := 1, cells := 0, slots := 0, locals := 22 }) s m args below meth c H locs 0 0 (MQ below (g_Qi D y ad σ sz r0) args s 0 0 (g_A ad sz)) (F0 m 2 ls []) := by
  have hx := hC.1
  have hcd := hC.2.1
  refine gr_all (fun a o ho hret hjmp => ?_)
  obtain ⟨x1, x2, x3⟩ := a
  intro H locs ls hW hl
  have ho : X0_stayAt_k0 σ b x1 x2 x3 = some o := ho
  unfold X0_stayAt_k0 at ho
  refine lv_iload_n hx hcd dX0_stayAt_2 rfl (lv_at hl 3 rfl) ?_
  refine lv_bipush (v := 20) hx hcd dX0_stayAt_3 (by decide) ?_
  refine lv_icmp_ge (tgt := 35) hx hcd dX0_stayAt_5 (by decide) (fun c1 => ?_) (fun c1 => ?_)
  · have ho := gif_p ho c1
    refine lv_iconst (v := (-1)) hx hcd dX0_stayAt_35 (by decide) ?_
    obtain rfl := hret _ (Option.some.inj ho).symm
    exact g_iret hC hr hlk hsz hW dX0_stayAt_36
  · have ho := gif_n ho c1
    refine lv_aload_n hx hcd dX0_stayAt_8 rfl (lv_at hl 0 rfl) ?_
    refine g_getr hC hW (C := RX0) (T := TX0) (N := 16) (ci := 2) (k := 15) (index := 46) (i := b) (r := (b + 11)) inGX0 rfl (by decide) fl_X0_46 (g_lt_air hb) (g_sh_air hb) rfl dX0_stayAt_9 ?_
    refine lv_iload_n hx hcd dX0_stayAt_12 rfl (lv_at hl 3 rfl) ?_
    obtain ⟨i2, ho⟩ := gd_some ho
    refine g_iald hC hW (i := (b + 11)) (g_lt_arr (j := 11) hb (by decide)) (g_sa11 hb) i2 dX0_stayAt_13 ?_
    refine lv_iload_n hx hcd dX0_stayAt_14 rfl (lv_at hl 1 rfl) ?_
    refine lv_icmp_ne (tgt := 29) hx hcd dX0_stayAt_15 (by decide) (fun c3 => ?_) (fun c3 => ?_)
    · have ho := gif_n ho c3
      refine lv_iinc (v := x3 + 1) (lv' := [(3, .int (x3 + 1)), (0, .ref (ad b)), (1, .int x1), (2, .int x2)]) hx hcd dX0_stayAt_29 hl (k := 3) rfl rfl (by decide) rfl (fun ls hl => ?_)
      refine lv_goto (tgt := 2) hx hcd dX0_stayAt_32 (by decide) ?_
      exact hjmp _ (Option.some.inj ho).symm _ _ _ hW (lv_sub hl [1, 2, 3, 0] rfl)
    · have ho := gif_p ho c3
      refine lv_aload_n hx hcd dX0_stayAt_18 rfl (lv_at hl 0 rfl) ?_
      refine lv_iload_n hx hcd dX0_stayAt_19 rfl (lv_at hl 3 rfl) ?_
      refine lv_iload_n hx hcd dX0_stayAt_20 rfl (lv_at hl 2 rfl) ?_
      obtain ⟨r5, h4, ho⟩ := gb_some ho
      refine g_calli hW (g_runV (As := [.int x3, .int x2]) (rest := []) (i := b) hC hW (c_X0_isThere l D y ad hb x3 x2 _ _ h4) ok_X0_108 ⟨rfl, rfl, Nat.le_of_ble_eq_true rfl, Nat.le_of_ble_eq_true rfl⟩ (g_lt_air hb) (g_sh_air hb) rfl rfl rfl hl.1 rfl (Nat.le_of_ble_eq_true rfl) dX0_stayAt_21 ⟨Nat.zero_le _, Nat.zero_le _⟩) (fun H locs hW => ?_)
      refine lv_if_eq (tgt := 29) hx hcd dX0_stayAt_24 (by decide) (fun c6 => ?_) (fun c6 => ?_)
      · have ho := gif_p ho c6
        refine lv_iinc (v := x3 + 1) (lv' := [(3, .int (x3 + 1)), (0, .ref (ad b)), (1, .int x1), (2, .int x2)]) hx hcd dX0_stayAt_29 hl (k := 3) rfl rfl (by decide) rfl (fun ls hl => ?_)
        refine lv_goto (tgt := 2) hx hcd dX0_stayAt_32 (by decide) ?_
        exact hjmp _ (Option.some.inj ho).symm _ _ _ hW (lv_sub hl [1, 2, 3, 0] rfl)
      · have ho := gif_n ho c6
        refine lv_iload_n hx hcd dX0_stayAt_27 rfl (lv_at hl 3 rfl) ?_
        obtain rfl := hret _ (Option.some.inj ho).symm
        exact g_iret hC hr hlk hsz hW dX0_stayAt_28
set_option maxHeartbeats 4000000 in
set_option maxRecDepth 100000 in
theorem c_X0_stayAt (l : Launch) (D : va_G) (y : ClassId × ClassId × ClassId) (ad : Nat → Nat) {b : Nat} (hb : g_air b) (x1 : Int32) (x2 : Int32) (σ : gS) (sz : Nat) {q : Int32} (h : X0_stayAt σ b x1 x2 = some q) : Met l yX0_stayAt (Cond.code yX0_stayAt cX0_stayAt 4 (some .int) :: gl) ({ frames := 1, cells := 0, slots := 0, locals := 22 }) (g_Pc D y ad σ sz [.ref (ad b), .int x1, .int x2]) (g_Qi D y ad σ sz q) 0 0 (g_A ad sz) := by
  have ho := h
  unfold X0_stayAt at ho
  refine g_start (by decide) (Nat.le_of_ble_eq_true rfl) (fun p e s m below meth c ls hC hr hlk hsz hW hl => ?_)
  have hx := hC.1
  have hcd := hC.2.1
  have hl : lv_has ls 4 [(0, .ref (ad b)), (1, .int x1), (2, .int x2)] := hl
  refine lv_iconst (v := 0) hx hcd dX0_stayAt_0 (by decide) ?_
  refine lv_istore_n (lv' := [(3, .int 0), (0, .ref (ad b)), (1, .int x1), (2, .int x2)]) hx hcd dX0_stayAt_1 rfl hl (by decide) rfl (fun ls hl => ?_)
  exact l_X0_stayAt l D y ad hb σ sz hC hr hlk hsz _ ho _ _ _ hW (lv_sub hl [1, 2, 3, 0] rfl)
noncomputable def X0_freeFrom_k0 (σ : gS) (b : Nat) (x1 : Int32) (x2 : Int32) (x3 : Int32) (x4 : Int32) : Option ((Int32 × Int32 × Int32 × Int32) ⊕ (Int32)) :=
  if 20 ≤ x4 then (some (.inr (x3 - x2))) else (gd (ib x4 20) <| if (σ (b + 11) x4.toNatClampNeg) = x1 then (if (σ (b + 9) x4.toNatClampNeg) ≤ x2 then (some (.inl (x1, x2, x3, (x4 + 1)))) else (some (.inl (x1, x2, (if (σ (b + 9) x4.toNatClampNeg) < x3 then (σ (b + 9) x4.toNatClampNeg) else x3), (x4 + 1))))) else (some (.inl (x1, x2, x3, (x4 + 1)))))
noncomputable def X0_freeFrom_s (σ : gS) (b : Nat) (a : Int32 × Int32 × Int32 × Int32) : Option ((Int32 × Int32 × Int32 × Int32) ⊕ (Int32)) :=
  X0_freeFrom_k0 σ b a.1 a.2.1 a.2.2.1 a.2.2.2
noncomputable def X0_freeFrom (σ : gS) (b : Nat) (x1 : Int32) (x2 : Int32) : Option (Int32) :=
  (X0_stayAt σ b x1 x2).bind fun r2 => if r2 < 0 then (gr (X0_freeFrom_s σ b) (x1, x2, 1440, 0)) else (some 0)
set_option maxHeartbeats 4000000 in
set_option maxRecDepth 100000 in
theorem l_X0_freeFrom {p : Program} {e : Env} {s : State} {m : MethodId} {args : Array Value} {below : List Frame} {meth : Method} {c : Code} (l : Launch) (D : va_G) (y : ClassId × ClassId × ClassId) (ad : Nat → Nat) {b : Nat} (hb : g_air b) (σ : gS) (sz : Nat) (hC : g_C p s m args c cX0_freeFrom 5 RX0 D y) (hr : meth.sig.returnType = (some .int)) (hlk : meth.locks = false) (hsz : s.heap.size = sz) {r0 : Int32} : ∀ a : Int32 × Int32 × Int32 × Int32, gr (X0_freeFrom_s σ b) a = some r0 → ∀ (H : Heap) (locs : List Loc) (ls : Array Slot), g_W (g_A ad sz) s.heap D y ad [] σ H locs → lv_has ls 5 [(0, .ref (ad b)), (1, .int a.1), (2, .int a.2.1), (3, .int a.2.2.1), (4, .int a.2.2.2)] → W p l e ({ frames := 2, cells := 0, slots := 0, locals := 45 }) s m args below meth c H locs 0 0 (MQ below (g_Qi D y ad σ sz r0) args s 0 0 (g_A ad sz)) (F0 m 18 ls []) := by
  have hx := hC.1
  have hcd := hC.2.1
  refine gr_all (fun a o ho hret hjmp => ?_)
  obtain ⟨x1, x2, x3, x4⟩ := a
  intro H locs ls hW hl
  have ho : X0_freeFrom_k0 σ b x1 x2 x3 x4 = some o := ho
  unfold X0_freeFrom_k0 at ho
  refine lv_iload hx hcd dX0_freeFrom_18 (lv_at hl 4 rfl) ?_
  refine lv_bipush (v := 20) hx hcd dX0_freeFrom_20 (by decide) ?_
  refine lv_icmp_ge (tgt := 65) hx hcd dX0_freeFrom_22 (by decide) (fun c4 => ?_) (fun c4 => ?_)
  · have ho := gif_p ho c4
    refine lv_iload_n hx hcd dX0_freeFrom_65 rfl (lv_at hl 3 rfl) ?_
    refine lv_iload_n hx hcd dX0_freeFrom_66 rfl (lv_at hl 2 rfl) ?_
    refine lv_isub hx hcd dX0_freeFrom_67 ?_
    obtain rfl := hret _ (Option.some.inj ho).symm
    exact g_iret hC hr hlk hsz hW dX0_freeFrom_68
  · have ho := gif_n ho c4
    refine lv_aload_n hx hcd dX0_freeFrom_25 rfl (lv_at hl 0 rfl) ?_
    refine g_getr hC hW (C := RX0) (T := TX0) (N := 16) (ci := 2) (k := 15) (index := 46) (i := b) (r := (b + 11)) inGX0 rfl (by decide) fl_X0_46 (g_lt_air hb) (g_sh_air hb) rfl dX0_freeFrom_26 ?_
    refine lv_iload hx hcd dX0_freeFrom_29 (lv_at hl 4 rfl) ?_
    obtain ⟨i5, ho⟩ := gd_some ho
    refine g_iald hC hW (i := (b + 11)) (g_lt_arr (j := 11) hb (by decide)) (g_sa11 hb) i5 dX0_freeFrom_31 ?_
    refine lv_iload_n hx hcd dX0_freeFrom_32 rfl (lv_at hl 1 rfl) ?_
    refine lv_icmp_ne (tgt := 59) hx hcd dX0_freeFrom_33 (by decide) (fun c6 => ?_) (fun c6 => ?_)
    · have ho := gif_n ho c6
      refine lv_iinc (v := x4 + 1) (lv' := [(4, .int (x4 + 1)), (0, .ref (ad b)), (1, .int x1), (2, .int x2), (3, .int x3)]) hx hcd dX0_freeFrom_59 hl (k := 4) rfl rfl (by decide) rfl (fun ls hl => ?_)
      refine lv_goto (tgt := 18) hx hcd dX0_freeFrom_62 (by decide) ?_
      exact hjmp _ (Option.some.inj ho).symm _ _ _ hW (lv_sub hl [1, 2, 3, 4, 0] rfl)
    · have ho := gif_p ho c6
      refine lv_aload_n hx hcd dX0_freeFrom_36 rfl (lv_at hl 0 rfl) ?_
      refine g_getr hC hW (C := RX0) (T := TX0) (N := 16) (ci := 2) (k := 13) (index := 40) (i := b) (r := (b + 9)) inGX0 rfl (by decide) fl_X0_40 (g_lt_air hb) (g_sh_air hb) rfl dX0_freeFrom_37 ?_
      refine lv_iload hx hcd dX0_freeFrom_40 (lv_at hl 4 rfl) ?_
      refine g_iald hC hW (i := (b + 9)) (g_lt_arr (j := 9) hb (by decide)) (g_sa9 hb) i5 dX0_freeFrom_42 ?_
      refine lv_iload_n hx hcd dX0_freeFrom_43 rfl (lv_at hl 2 rfl) ?_
      refine lv_icmp_le (tgt := 59) hx hcd dX0_freeFrom_44 (by decide) (fun c7 => ?_) (fun c7 => ?_)
      · have ho := gif_p ho c7
        refine lv_iinc (v := x4 + 1) (lv' := [(4, .int (x4 + 1)), (0, .ref (ad b)), (1, .int x1), (2, .int x2), (3, .int x3)]) hx hcd dX0_freeFrom_59 hl (k := 4) rfl rfl (by decide) rfl (fun ls hl => ?_)
        refine lv_goto (tgt := 18) hx hcd dX0_freeFrom_62 (by decide) ?_
        exact hjmp _ (Option.some.inj ho).symm _ _ _ hW (lv_sub hl [1, 2, 3, 4, 0] rfl)
      · have ho := gif_n ho c7
        refine lv_iload_n hx hcd dX0_freeFrom_47 rfl (lv_at hl 3 rfl) ?_
        refine lv_aload_n hx hcd dX0_freeFrom_48 rfl (lv_at hl 0 rfl) ?_
        refine g_getr hC hW (C := RX0) (T := TX0) (N := 16) (ci := 2) (k := 13) (index := 40) (i := b) (r := (b + 9)) inGX0 rfl (by decide) fl_X0_40 (g_lt_air hb) (g_sh_air hb) rfl dX0_freeFrom_49 ?_
        refine lv_iload hx hcd dX0_freeFrom_52 (lv_at hl 4 rfl) ?_
        refine g_iald hC hW (i := (b + 9)) (g_lt_arr (j := 9) hb (by decide)) (g_sa9 hb) i5 dX0_freeFrom_54 ?_
        refine va_mmin hx hcd (hC.2.2.1.trans hl.1.symm) hC.2.2.2.1 (hC.2.2.2.2.1 _ ml_X0_115) (hC.2.2.2.2.1 _ mt_J9_min_7cf53) (hC.2.2.2.2.1 _ ii_J9) (hC.2.2.2.2.1 _ mc_J9_min_7cf53) (Nat.le_of_ble_eq_true rfl) (Nat.le_of_ble_eq_true rfl) (Nat.zero_le _) (Nat.zero_le _) dX0_freeFrom_55 ?_
        refine lv_istore_n (lv' := [(3, .int (if (σ (b + 9) x4.toNatClampNeg) < x3 then (σ (b + 9) x4.toNatClampNeg) else x3)), (0, .ref (ad b)), (1, .int x1), (2, .int x2), (4, .int x4)]) hx hcd dX0_freeFrom_58 rfl hl (by decide) rfl (fun ls hl => ?_)
        refine lv_iinc (v := x4 + 1) (lv' := [(4, .int (x4 + 1)), (3, .int (if (σ (b + 9) x4.toNatClampNeg) < x3 then (σ (b + 9) x4.toNatClampNeg) else x3)), (0, .ref (ad b)), (1, .int x1), (2, .int x2)]) hx hcd dX0_freeFrom_59 hl (k := 4) rfl rfl (by decide) rfl (fun ls hl => ?_)
        refine lv_goto (tgt := 18) hx hcd dX0_freeFrom_62 (by decide) ?_
        exact hjmp _ (Option.some.inj ho).symm _ _ _ hW (lv_sub hl [2, 3, 4, 1, 0] rfl)
set_option maxHeartbeats 4000000 in
set_option maxRecDepth 100000 in
theorem c_X0_freeFrom (l : Launch) (D : va_G) (y : ClassId × ClassId × ClassId) (ad : Nat → Nat) {b : Nat} (hb : g_air b) (x1 : Int32) (x2 : Int32) (σ : gS) (sz : Nat) {q : Int32} (h : X0_freeFrom σ b x1 x2 = some q) : Met l yX0_freeFrom (Cond.code yX0_freeFrom cX0_freeFrom 5 (some .int) :: gl) ({ frames := 2, cells := 0, slots := 0, locals := 45 }) (g_Pc D y ad σ sz [.ref (ad b), .int x1, .int x2]) (g_Qi D y ad σ sz q) 0 0 (g_A ad sz) := by
  have ho := h
  unfold X0_freeFrom at ho
  refine g_start (by decide) (Nat.le_of_ble_eq_true rfl) (fun p e s m below meth c ls hC hr hlk hsz hW hl => ?_)
  have hx := hC.1
  have hcd := hC.2.1
  have hl : lv_has ls 5 [(0, .ref (ad b)), (1, .int x1), (2, .int x2)] := hl
  refine lv_aload_n hx hcd dX0_freeFrom_0 rfl (lv_at hl 0 rfl) ?_
  refine lv_iload_n hx hcd dX0_freeFrom_1 rfl (lv_at hl 1 rfl) ?_
  refine lv_iload_n hx hcd dX0_freeFrom_2 rfl (lv_at hl 2 rfl) ?_
  obtain ⟨r2, h1, ho⟩ := gb_some ho
  refine g_calli hW (g_runV (As := [.int x1, .int x2]) (rest := []) (i := b) hC hW (c_X0_stayAt l D y ad hb x1 x2 _ _ h1) ok_X0_112 ⟨rfl, rfl, Nat.le_of_ble_eq_true rfl, Nat.le_of_ble_eq_true rfl⟩ (g_lt_air hb) (g_sh_air hb) rfl rfl rfl hl.1 rfl (Nat.le_of_ble_eq_true rfl) dX0_freeFrom_3 ⟨Nat.zero_le _, Nat.zero_le _⟩) (fun H locs hW => ?_)
  refine lv_if_lt (tgt := 11) hx hcd dX0_freeFrom_6 (by decide) (fun c3 => ?_) (fun c3 => ?_)
  · have ho := gif_p ho c3
    refine lv_sipush (v := 1440) hx hcd dX0_freeFrom_11 (by decide) ?_
    refine lv_istore_n (lv' := [(3, .int 1440), (0, .ref (ad b)), (1, .int x1), (2, .int x2)]) hx hcd dX0_freeFrom_14 rfl hl (by decide) rfl (fun ls hl => ?_)
    refine lv_iconst (v := 0) hx hcd dX0_freeFrom_15 (by decide) ?_
    refine lv_istore (lv' := [(4, .int 0), (3, .int 1440), (0, .ref (ad b)), (1, .int x1), (2, .int x2)]) hx hcd dX0_freeFrom_16 hl (by decide) rfl (fun ls hl => ?_)
    exact l_X0_freeFrom l D y ad hb σ sz hC hr hlk hsz _ ho _ _ _ hW (lv_sub hl [2, 3, 4, 1, 0] rfl)
  · have ho := gif_n ho c3
    refine lv_iconst (v := 0) hx hcd dX0_freeFrom_9 (by decide) ?_
    obtain rfl := Option.some.inj ho
    exact g_iret hC hr hlk hsz hW dX0_freeFrom_10
noncomputable def X0_thereAt_k0 (σ : gS) (b : Nat) (x1 : Int32) (x2 : Int32) (x3 : Int32) : Option ((Int32 × Int32 × Int32) ⊕ (Int32)) :=
  if 20 ≤ x3 then (some (.inr x2)) else ((X0_isOnStand σ b x3).bind fun r3 => if r3 = 0 then (some (.inl (x1, x2, (x3 + 1)))) else ((X0_isThere σ b x3 x1).bind fun r6 => if r6 = 0 then (some (.inl (x1, x2, (x3 + 1)))) else (some (.inl (x1, (x2 + 1), (x3 + 1))))))
noncomputable def X0_thereAt_s (σ : gS) (b : Nat) (a : Int32 × Int32 × Int32) : Option ((Int32 × Int32 × Int32) ⊕ (Int32)) :=
  X0_thereAt_k0 σ b a.1 a.2.1 a.2.2
noncomputable def X0_thereAt (σ : gS) (b : Nat) (x1 : Int32) : Option (Int32) :=
  gr (X0_thereAt_s σ b) (x1, 0, 0)
set_option maxHeartbeats 4000000 in
set_option maxRecDepth 100000 in
theorem l_X0_thereAt {p : Program} {e : Env} {s : State} {m : MethodId} {args : Array Value} {below : List Frame} {meth : Method} {c : Code} (l : Launch) (D : va_G) (y : ClassId × ClassId × ClassId) (ad : Nat → Nat) {b : Nat} (hb : g_air b) (σ : gS) (sz : Nat) (hC : g_C p s m args c cX0_thereAt 4 RX0 D y) (hr : meth.sig.returnType = (some .int)) (hlk : meth.locks = false) (hsz : s.heap.size = sz) {r0 : Int32} : ∀ a : Int32 × Int32 × Int32, gr (X0_thereAt_s σ b) a = some r0 → ∀ (H : Heap) (locs : List Loc) (ls : Array Slot), g_W (g_A ad sz) s.heap D y ad [] σ H locs → lv_has ls 4 [(0, .ref (ad b)), (1, .int a.1), (2, .int a.2.1), (3, .int a.2.2)] → W p l e ({ frames := 1, cells := 0, slots := 0, locals := 22 }) s m args below meth c H locs 0 0 (MQ below (g_Qi D y ad σ sz r0) args s 0 0 (g_A ad sz)) (F0 m 4 ls []) := by
  have hx := hC.1
  have hcd := hC.2.1
  refine gr_all (fun a o ho hret hjmp => ?_)
  obtain ⟨x1, x2, x3⟩ := a
  intro H locs ls hW hl
  have ho : X0_thereAt_k0 σ b x1 x2 x3 = some o := ho
  unfold X0_thereAt_k0 at ho
  refine lv_iload_n hx hcd dX0_thereAt_4 rfl (lv_at hl 3 rfl) ?_
  refine lv_bipush (v := 20) hx hcd dX0_thereAt_5 (by decide) ?_
  refine lv_icmp_ge (tgt := 36) hx hcd dX0_thereAt_7 (by decide) (fun c1 => ?_) (fun c1 => ?_)
  · have ho := gif_p ho c1
    refine lv_iload_n hx hcd dX0_thereAt_36 rfl (lv_at hl 2 rfl) ?_
    obtain rfl := hret _ (Option.some.inj ho).symm
    exact g_iret hC hr hlk hsz hW dX0_thereAt_37
  · have ho := gif_n ho c1
    refine lv_aload_n hx hcd dX0_thereAt_10 rfl (lv_at hl 0 rfl) ?_
    refine lv_iload_n hx hcd dX0_thereAt_11 rfl (lv_at hl 3 rfl) ?_
    obtain ⟨r3, h2, ho⟩ := gb_some ho
    refine g_calli hW (g_runV (As := [.int x3]) (rest := []) (i := b) hC hW (c_X0_isOnStand l D y ad hb x3 _ _ h2) ok_X0_99 ⟨rfl, rfl, Nat.le_of_ble_eq_true rfl, Nat.le_of_ble_eq_true rfl⟩ (g_lt_air hb) (g_sh_air hb) rfl rfl rfl hl.1 rfl (Nat.le_of_ble_eq_true rfl) dX0_thereAt_12 ⟨Nat.zero_le _, Nat.zero_le _⟩) (fun H locs hW => ?_)
    refine lv_if_eq (tgt := 30) hx hcd dX0_thereAt_15 (by decide) (fun c4 => ?_) (fun c4 => ?_)
    · have ho := gif_p ho c4
      refine lv_iinc (v := x3 + 1) (lv' := [(3, .int (x3 + 1)), (0, .ref (ad b)), (1, .int x1), (2, .int x2)]) hx hcd dX0_thereAt_30 hl (k := 3) rfl rfl (by decide) rfl (fun ls hl => ?_)
      refine lv_goto (tgt := 4) hx hcd dX0_thereAt_33 (by decide) ?_
      exact hjmp _ (Option.some.inj ho).symm _ _ _ hW (lv_sub hl [1, 2, 3, 0] rfl)
    · have ho := gif_n ho c4
      refine lv_aload_n hx hcd dX0_thereAt_18 rfl (lv_at hl 0 rfl) ?_
      refine lv_iload_n hx hcd dX0_thereAt_19 rfl (lv_at hl 3 rfl) ?_
      refine lv_iload_n hx hcd dX0_thereAt_20 rfl (lv_at hl 1 rfl) ?_
      obtain ⟨r6, h5, ho⟩ := gb_some ho
      refine g_calli hW (g_runV (As := [.int x3, .int x1]) (rest := []) (i := b) hC hW (c_X0_isThere l D y ad hb x3 x1 _ _ h5) ok_X0_108 ⟨rfl, rfl, Nat.le_of_ble_eq_true rfl, Nat.le_of_ble_eq_true rfl⟩ (g_lt_air hb) (g_sh_air hb) rfl rfl rfl hl.1 rfl (Nat.le_of_ble_eq_true rfl) dX0_thereAt_21 ⟨Nat.zero_le _, Nat.zero_le _⟩) (fun H locs hW => ?_)
      refine lv_if_eq (tgt := 30) hx hcd dX0_thereAt_24 (by decide) (fun c7 => ?_) (fun c7 => ?_)
      · have ho := gif_p ho c7
        refine lv_iinc (v := x3 + 1) (lv' := [(3, .int (x3 + 1)), (0, .ref (ad b)), (1, .int x1), (2, .int x2)]) hx hcd dX0_thereAt_30 hl (k := 3) rfl rfl (by decide) rfl (fun ls hl => ?_)
        refine lv_goto (tgt := 4) hx hcd dX0_thereAt_33 (by decide) ?_
        exact hjmp _ (Option.some.inj ho).symm _ _ _ hW (lv_sub hl [1, 2, 3, 0] rfl)
      · have ho := gif_n ho c7
        refine lv_iinc (v := x2 + 1) (lv' := [(2, .int (x2 + 1)), (0, .ref (ad b)), (1, .int x1), (3, .int x3)]) hx hcd dX0_thereAt_27 hl (k := 2) rfl rfl (by decide) rfl (fun ls hl => ?_)
        refine lv_iinc (v := x3 + 1) (lv' := [(3, .int (x3 + 1)), (2, .int (x2 + 1)), (0, .ref (ad b)), (1, .int x1)]) hx hcd dX0_thereAt_30 hl (k := 3) rfl rfl (by decide) rfl (fun ls hl => ?_)
        refine lv_goto (tgt := 4) hx hcd dX0_thereAt_33 (by decide) ?_
        exact hjmp _ (Option.some.inj ho).symm _ _ _ hW (lv_sub hl [2, 3, 1, 0] rfl)
set_option maxHeartbeats 4000000 in
set_option maxRecDepth 100000 in
theorem c_X0_thereAt (l : Launch) (D : va_G) (y : ClassId × ClassId × ClassId) (ad : Nat → Nat) {b : Nat} (hb : g_air b) (x1 : Int32) (σ : gS) (sz : Nat) {q : Int32} (h : X0_thereAt σ b x1 = some q) : Met l yX0_thereAt (Cond.code yX0_thereAt cX0_thereAt 4 (some .int) :: gl) ({ frames := 1, cells := 0, slots := 0, locals := 22 }) (g_Pc D y ad σ sz [.ref (ad b), .int x1]) (g_Qi D y ad σ sz q) 0 0 (g_A ad sz) := by
  have ho := h
  unfold X0_thereAt at ho
  refine g_start (by decide) (Nat.le_of_ble_eq_true rfl) (fun p e s m below meth c ls hC hr hlk hsz hW hl => ?_)
  have hx := hC.1
  have hcd := hC.2.1
  have hl : lv_has ls 4 [(0, .ref (ad b)), (1, .int x1)] := hl
  refine lv_iconst (v := 0) hx hcd dX0_thereAt_0 (by decide) ?_
  refine lv_istore_n (lv' := [(2, .int 0), (0, .ref (ad b)), (1, .int x1)]) hx hcd dX0_thereAt_1 rfl hl (by decide) rfl (fun ls hl => ?_)
  refine lv_iconst (v := 0) hx hcd dX0_thereAt_2 (by decide) ?_
  refine lv_istore_n (lv' := [(3, .int 0), (2, .int 0), (0, .ref (ad b)), (1, .int x1)]) hx hcd dX0_thereAt_3 rfl hl (by decide) rfl (fun ls hl => ?_)
  exact l_X0_thereAt l D y ad hb σ sz hC hr hlk hsz _ ho _ _ _ hW (lv_sub hl [2, 3, 1, 0] rfl)
noncomputable def X0_isSound_k0 (σ : gS) (b : Nat) (x1 : Int32) : Option ((Int32) ⊕ (Int32)) :=
  if 20 ≤ x1 then (some (.inr 1)) else ((X0_isTroubled σ b x1).bind fun r3 => if r3 = 0 then (some (.inl (x1 + 1))) else (some (.inr 0)))
noncomputable def X0_isSound_s (σ : gS) (b : Nat) (a : Int32) : Option ((Int32) ⊕ (Int32)) :=
  X0_isSound_k0 σ b a
noncomputable def X0_isSound (σ : gS) (b : Nat) : Option (Int32) :=
  gr (X0_isSound_s σ b) 0
set_option maxHeartbeats 4000000 in
set_option maxRecDepth 100000 in
theorem l_X0_isSound {p : Program} {e : Env} {s : State} {m : MethodId} {args : Array Value} {below : List Frame} {meth : Method} {c : Code} (l : Launch) (D : va_G) (y : ClassId × ClassId × ClassId) (ad : Nat → Nat) {b : Nat} (hb : g_air b) (σ : gS) (sz : Nat) (hC : g_C p s m args c cX0_isSound 2 RX0 D y) (hr : meth.sig.returnType = (some .boolean)) (hlk : meth.locks = false) (hsz : s.heap.size = sz) {r0 : Int32} : ∀ a : Int32, gr (X0_isSound_s σ b) a = some r0 → ∀ (H : Heap) (locs : List Loc) (ls : Array Slot), g_W (g_A ad sz) s.heap D y ad [] σ H locs → lv_has ls 2 [(0, .ref (ad b)), (1, .int a)] → W p l e ({ frames := 4, cells := 0, slots := 0, locals := 92 }) s m args below meth c H locs 0 0 (MQ below (g_Qi D y ad σ sz r0) args s 0 0 (g_A ad sz)) (F0 m 2 ls []) := by
  have hx := hC.1
  have hcd := hC.2.1
  refine gr_all (fun x1 o ho hret hjmp => ?_)
  intro H locs ls hW hl
  have ho : X0_isSound_k0 σ b x1 = some o := ho
  unfold X0_isSound_k0 at ho
  refine lv_iload_n hx hcd dX0_isSound_2 rfl (lv_at hl 1 rfl) ?_
  refine lv_bipush (v := 20) hx hcd dX0_isSound_3 (by decide) ?_
  refine lv_icmp_ge (tgt := 24) hx hcd dX0_isSound_5 (by decide) (fun c1 => ?_) (fun c1 => ?_)
  · have ho := gif_p ho c1
    refine lv_iconst (v := 1) hx hcd dX0_isSound_24 (by decide) ?_
    obtain rfl := hret _ (Option.some.inj ho).symm
    exact g_zret (r := 1) hC hr hlk hsz hW (by decide) dX0_isSound_25
  · have ho := gif_n ho c1
    refine lv_aload_n hx hcd dX0_isSound_8 rfl (lv_at hl 0 rfl) ?_
    refine lv_iload_n hx hcd dX0_isSound_9 rfl (lv_at hl 1 rfl) ?_
    obtain ⟨r3, h2, ho⟩ := gb_some ho
    refine g_calli hW (g_runV (As := [.int x1]) (rest := []) (i := b) hC hW (c_X0_isTroubled l D y ad hb x1 _ _ h2) ok_X0_105 ⟨rfl, rfl, Nat.le_of_ble_eq_true rfl, Nat.le_of_ble_eq_true rfl⟩ (g_lt_air hb) (g_sh_air hb) rfl rfl rfl hl.1 rfl (Nat.le_of_ble_eq_true rfl) dX0_isSound_10 ⟨Nat.zero_le _, Nat.zero_le _⟩) (fun H locs hW => ?_)
    refine lv_if_eq (tgt := 18) hx hcd dX0_isSound_13 (by decide) (fun c4 => ?_) (fun c4 => ?_)
    · have ho := gif_p ho c4
      refine lv_iinc (v := x1 + 1) (lv' := [(1, .int (x1 + 1)), (0, .ref (ad b))]) hx hcd dX0_isSound_18 hl (k := 1) rfl rfl (by decide) rfl (fun ls hl => ?_)
      refine lv_goto (tgt := 2) hx hcd dX0_isSound_21 (by decide) ?_
      exact hjmp _ (Option.some.inj ho).symm _ _ _ hW (lv_sub hl [1, 0] rfl)
    · have ho := gif_n ho c4
      refine lv_iconst (v := 0) hx hcd dX0_isSound_16 (by decide) ?_
      obtain rfl := hret _ (Option.some.inj ho).symm
      exact g_zret (r := 0) hC hr hlk hsz hW (by decide) dX0_isSound_17
set_option maxHeartbeats 4000000 in
set_option maxRecDepth 100000 in
theorem c_X0_isSound (l : Launch) (D : va_G) (y : ClassId × ClassId × ClassId) (ad : Nat → Nat) {b : Nat} (hb : g_air b) (σ : gS) (sz : Nat) {q : Int32} (h : X0_isSound σ b = some q) : Met l yX0_isSound (Cond.code yX0_isSound cX0_isSound 2 (some .boolean) :: gl) ({ frames := 4, cells := 0, slots := 0, locals := 92 }) (g_Pc D y ad σ sz [.ref (ad b)]) (g_Qi D y ad σ sz q) 0 0 (g_A ad sz) := by
  have ho := h
  unfold X0_isSound at ho
  refine g_start (by decide) (Nat.le_of_ble_eq_true rfl) (fun p e s m below meth c ls hC hr hlk hsz hW hl => ?_)
  have hx := hC.1
  have hcd := hC.2.1
  have hl : lv_has ls 2 [(0, .ref (ad b))] := hl
  refine lv_iconst (v := 0) hx hcd dX0_isSound_0 (by decide) ?_
  refine lv_istore_n (lv' := [(1, .int 0), (0, .ref (ad b))]) hx hcd dX0_isSound_1 rfl hl (by decide) rfl (fun ls hl => ?_)
  exact l_X0_isSound l D y ad hb σ sz hC hr hlk hsz _ ho _ _ _ hW (lv_sub hl [1, 0] rfl)
noncomputable def X0_refusal (σ : gS) (b : Nat) (x1 : Int32) (x2 : Int32) : Option (Int32) :=
  gd (ib x1 20) <| if (σ (b + 11) x1.toNatClampNeg) = x2 then (some 1) else ((X0_isOpened σ b x2).bind fun r4 => if r4 = 0 then (some 2) else ((X0_isLargeEnough σ b x2 x1).bind fun r7 => if r7 = 0 then (some 3) else ((X0_clashesOn σ b x1 x2).bind fun r10 => if r10 = 0 then (some 0) else ((X0_staysOn σ b x2).bind fun r13 => if (r10 &&& r13) = 0 then (some 5) else (some 4)))))
set_option maxHeartbeats 4000000 in
set_option maxRecDepth 100000 in
theorem c_X0_refusal (l : Launch) (D : va_G) (y : ClassId × ClassId × ClassId) (ad : Nat → Nat) {b : Nat} (hb : g_air b) (x1 : Int32) (x2 : Int32) (σ : gS) (sz : Nat) {q : Int32} (h : X0_refusal σ b x1 x2 = some q) : Met l yX0_refusal (Cond.code yX0_refusal cX0_refusal 4 (some .int) :: gl) ({ frames := 2, cells := 0, slots := 0, locals := 50 }) (g_Pc D y ad σ sz [.ref (ad b), .int x1, .int x2]) (g_Qi D y ad σ sz q) 0 0 (g_A ad sz) := by
  have ho := h
  unfold X0_refusal at ho
  refine g_start (by decide) (Nat.le_of_ble_eq_true rfl) (fun p e s m below meth c ls hC hr hlk hsz hW hl => ?_)
  have hx := hC.1
  have hcd := hC.2.1
  have hl : lv_has ls 4 [(0, .ref (ad b)), (1, .int x1), (2, .int x2)] := hl
  refine lv_aload_n hx hcd dX0_refusal_0 rfl (lv_at hl 0 rfl) ?_
  refine g_getr hC hW (C := RX0) (T := TX0) (N := 16) (ci := 2) (k := 15) (index := 46) (i := b) (r := (b + 11)) inGX0 rfl (by decide) fl_X0_46 (g_lt_air hb) (g_sh_air hb) rfl dX0_refusal_1 ?_
  refine lv_iload_n hx hcd dX0_refusal_4 rfl (lv_at hl 1 rfl) ?_
  obtain ⟨i1, ho⟩ := gd_some ho
  refine g_iald hC hW (i := (b + 11)) (g_lt_arr (j := 11) hb (by decide)) (g_sa11 hb) i1 dX0_refusal_5 ?_
  refine lv_iload_n hx hcd dX0_refusal_6 rfl (lv_at hl 2 rfl) ?_
  refine lv_icmp_ne (tgt := 12) hx hcd dX0_refusal_7 (by decide) (fun c2 => ?_) (fun c2 => ?_)
  · have ho := gif_n ho c2
    refine lv_aload_n hx hcd dX0_refusal_12 rfl (lv_at hl 0 rfl) ?_
    refine lv_iload_n hx hcd dX0_refusal_13 rfl (lv_at hl 2 rfl) ?_
    obtain ⟨r4, h3, ho⟩ := gb_some ho
    refine g_calli hW (g_runV (As := [.int x2]) (rest := []) (i := b) hC hW (c_X0_isOpened l D y ad hb x2 _ _ h3) ok_X0_80 ⟨rfl, rfl, Nat.le_of_ble_eq_true rfl, Nat.le_of_ble_eq_true rfl⟩ (g_lt_air hb) (g_sh_air hb) rfl rfl rfl hl.1 rfl (Nat.le_of_ble_eq_true rfl) dX0_refusal_14 ⟨Nat.zero_le _, Nat.zero_le _⟩) (fun H locs hW => ?_)
    refine lv_if_ne (tgt := 22) hx hcd dX0_refusal_17 (by decide) (fun c5 => ?_) (fun c5 => ?_)
    · have ho := gif_n ho c5
      refine lv_aload_n hx hcd dX0_refusal_22 rfl (lv_at hl 0 rfl) ?_
      refine lv_iload_n hx hcd dX0_refusal_23 rfl (lv_at hl 2 rfl) ?_
      refine lv_iload_n hx hcd dX0_refusal_24 rfl (lv_at hl 1 rfl) ?_
      obtain ⟨r7, h6, ho⟩ := gb_some ho
      refine g_calli hW (g_runV (As := [.int x2, .int x1]) (rest := []) (i := b) hC hW (c_X0_isLargeEnough l D y ad hb x2 x1 _ _ h6) ok_X0_118 ⟨rfl, rfl, Nat.le_of_ble_eq_true rfl, Nat.le_of_ble_eq_true rfl⟩ (g_lt_air hb) (g_sh_air hb) rfl rfl rfl hl.1 rfl (Nat.le_of_ble_eq_true rfl) dX0_refusal_25 ⟨Nat.zero_le _, Nat.zero_le _⟩) (fun H locs hW => ?_)
      refine lv_if_ne (tgt := 33) hx hcd dX0_refusal_28 (by decide) (fun c8 => ?_) (fun c8 => ?_)
      · have ho := gif_n ho c8
        refine lv_aload_n hx hcd dX0_refusal_33 rfl (lv_at hl 0 rfl) ?_
        refine lv_iload_n hx hcd dX0_refusal_34 rfl (lv_at hl 1 rfl) ?_
        refine lv_iload_n hx hcd dX0_refusal_35 rfl (lv_at hl 2 rfl) ?_
        obtain ⟨r10, h9, ho⟩ := gb_some ho
        refine g_calli hW (g_runV (As := [.int x1, .int x2]) (rest := []) (i := b) hC hW (c_X0_clashesOn l D y ad hb x1 x2 _ _ h9) ok_X0_129 ⟨rfl, rfl, Nat.le_of_ble_eq_true rfl, Nat.le_of_ble_eq_true rfl⟩ (g_lt_air hb) (g_sh_air hb) rfl rfl rfl hl.1 rfl (Nat.le_of_ble_eq_true rfl) dX0_refusal_36 ⟨Nat.zero_le _, Nat.zero_le _⟩) (fun H locs hW => ?_)
        refine lv_istore_n (lv' := [(3, .int r10), (0, .ref (ad b)), (1, .int x1), (2, .int x2)]) hx hcd dX0_refusal_39 rfl hl (by decide) rfl (fun ls hl => ?_)
        refine lv_iload_n hx hcd dX0_refusal_40 rfl (lv_at hl 0 rfl) ?_
        refine lv_if_ne (tgt := 46) hx hcd dX0_refusal_41 (by decide) (fun c11 => ?_) (fun c11 => ?_)
        · have ho := gif_n ho c11
          refine lv_iload_n hx hcd dX0_refusal_46 rfl (lv_at hl 0 rfl) ?_
          refine lv_aload_n hx hcd dX0_refusal_47 rfl (lv_at hl 1 rfl) ?_
          refine lv_iload_n hx hcd dX0_refusal_48 rfl (lv_at hl 3 rfl) ?_
          obtain ⟨r13, h12, ho⟩ := gb_some ho
          refine g_calli hW (g_runV (As := [.int x2]) (rest := [.int r10]) (i := b) hC hW (c_X0_staysOn l D y ad hb x2 _ _ h12) ok_X0_132 ⟨rfl, rfl, Nat.le_of_ble_eq_true rfl, Nat.le_of_ble_eq_true rfl⟩ (g_lt_air hb) (g_sh_air hb) rfl rfl rfl hl.1 rfl (Nat.le_of_ble_eq_true rfl) dX0_refusal_49 ⟨Nat.zero_le _, Nat.zero_le _⟩) (fun H locs hW => ?_)
          refine lv_iand hx hcd dX0_refusal_52 ?_
          refine lv_if_eq (tgt := 60) hx hcd dX0_refusal_53 (by decide) (fun c14 => ?_) (fun c14 => ?_)
          · have ho := gif_p ho c14
            refine lv_iconst (v := 5) hx hcd dX0_refusal_60 (by decide) ?_
            obtain rfl := Option.some.inj ho
            exact g_iret hC hr hlk hsz hW dX0_refusal_61
          · have ho := gif_n ho c14
            refine lv_iconst (v := 4) hx hcd dX0_refusal_56 (by decide) ?_
            refine lv_goto (tgt := 61) hx hcd dX0_refusal_57 (by decide) ?_
            obtain rfl := Option.some.inj ho
            exact g_iret hC hr hlk hsz hW dX0_refusal_61
        · have ho := gif_p ho c11
          refine lv_iconst (v := 0) hx hcd dX0_refusal_44 (by decide) ?_
          obtain rfl := Option.some.inj ho
          exact g_iret hC hr hlk hsz hW dX0_refusal_45
      · have ho := gif_p ho c8
        refine lv_iconst (v := 3) hx hcd dX0_refusal_31 (by decide) ?_
        obtain rfl := Option.some.inj ho
        exact g_iret hC hr hlk hsz hW dX0_refusal_32
    · have ho := gif_p ho c5
      refine lv_iconst (v := 2) hx hcd dX0_refusal_20 (by decide) ?_
      obtain rfl := Option.some.inj ho
      exact g_iret hC hr hlk hsz hW dX0_refusal_21
  · have ho := gif_p ho c2
    refine lv_iconst (v := 1) hx hcd dX0_refusal_10 (by decide) ?_
    obtain rfl := Option.some.inj ho
    exact g_iret hC hr hlk hsz hW dX0_refusal_11
noncomputable def X0_standsFor_k0 (σ : gS) (b : Nat) (x1 : Int32) (x2 : Int32) (x3 : Int32) : Option ((Int32 × Int32 × Int32) ⊕ (Int32)) :=
  if (σ b 0) ≤ x3 then (some (.inr x2)) else ((X0_refusal σ b x1 x3).bind fun r3 => if r3 = 0 then (some (.inl (x1, (x2 ||| ((1 : Int32) <<< (x3 &&& 31))), (x3 + 1)))) else (some (.inl (x1, x2, (x3 + 1)))))
noncomputable def X0_standsFor_s (σ : gS) (b : Nat) (a : Int32 × Int32 × Int32) : Option ((Int32 × Int32 × Int32) ⊕ (Int32)) :=
  X0_standsFor_k0 σ b a.1 a.2.1 a.2.2
noncomputable def X0_standsFor (σ : gS) (b : Nat) (x1 : Int32) : Option (Int32) :=
  gr (X0_standsFor_s σ b) (x1, 0, 0)
set_option maxHeartbeats 4000000 in
set_option maxRecDepth 100000 in
theorem l_X0_standsFor {p : Program} {e : Env} {s : State} {m : MethodId} {args : Array Value} {below : List Frame} {meth : Method} {c : Code} (l : Launch) (D : va_G) (y : ClassId × ClassId × ClassId) (ad : Nat → Nat) {b : Nat} (hb : g_air b) (σ : gS) (sz : Nat) (hC : g_C p s m args c cX0_standsFor 4 RX0 D y) (hr : meth.sig.returnType = (some .int)) (hlk : meth.locks = false) (hsz : s.heap.size = sz) {r0 : Int32} : ∀ a : Int32 × Int32 × Int32, gr (X0_standsFor_s σ b) a = some r0 → ∀ (H : Heap) (locs : List Loc) (ls : Array Slot), g_W (g_A ad sz) s.heap D y ad [] σ H locs → lv_has ls 4 [(0, .ref (ad b)), (1, .int a.1), (2, .int a.2.1), (3, .int a.2.2)] → W p l e ({ frames := 3, cells := 0, slots := 0, locals := 73 }) s m args below meth c H locs 0 0 (MQ below (g_Qi D y ad σ sz r0) args s 0 0 (g_A ad sz)) (F0 m 4 ls []) := by
  have hx := hC.1
  have hcd := hC.2.1
  refine gr_all (fun a o ho hret hjmp => ?_)
  obtain ⟨x1, x2, x3⟩ := a
  intro H locs ls hW hl
  have ho : X0_standsFor_k0 σ b x1 x2 x3 = some o := ho
  unfold X0_standsFor_k0 at ho
  refine lv_iload_n hx hcd dX0_standsFor_4 rfl (lv_at hl 3 rfl) ?_
  refine lv_aload_n hx hcd dX0_standsFor_5 rfl (lv_at hl 0 rfl) ?_
  refine g_geti hC hW (C := RX0) (T := TX0) (N := 16) (ci := 2) (k := 0) (index := 55) (i := b) inGX0 rfl (by decide) fl_X0_55 (g_lt_air hb) (g_sh_air hb) rfl dX0_standsFor_6 ?_
  refine lv_icmp_ge (tgt := 33) hx hcd dX0_standsFor_9 (by decide) (fun c1 => ?_) (fun c1 => ?_)
  · have ho := gif_p ho c1
    refine lv_iload_n hx hcd dX0_standsFor_33 rfl (lv_at hl 2 rfl) ?_
    obtain rfl := hret _ (Option.some.inj ho).symm
    exact g_iret hC hr hlk hsz hW dX0_standsFor_34
  · have ho := gif_n ho c1
    refine lv_aload_n hx hcd dX0_standsFor_12 rfl (lv_at hl 0 rfl) ?_
    refine lv_iload_n hx hcd dX0_standsFor_13 rfl (lv_at hl 1 rfl) ?_
    refine lv_iload_n hx hcd dX0_standsFor_14 rfl (lv_at hl 3 rfl) ?_
    obtain ⟨r3, h2, ho⟩ := gb_some ho
    refine g_calli hW (g_runV (As := [.int x1, .int x3]) (rest := []) (i := b) hC hW (c_X0_refusal l D y ad hb x1 x3 _ _ h2) ok_X0_135 ⟨rfl, rfl, Nat.le_of_ble_eq_true rfl, Nat.le_of_ble_eq_true rfl⟩ (g_lt_air hb) (g_sh_air hb) rfl rfl rfl hl.1 rfl (Nat.le_of_ble_eq_true rfl) dX0_standsFor_15 ⟨Nat.zero_le _, Nat.zero_le _⟩) (fun H locs hW => ?_)
    refine lv_if_ne (tgt := 27) hx hcd dX0_standsFor_18 (by decide) (fun c4 => ?_) (fun c4 => ?_)
    · have ho := gif_n ho c4
      refine lv_iinc (v := x3 + 1) (lv' := [(3, .int (x3 + 1)), (0, .ref (ad b)), (1, .int x1), (2, .int x2)]) hx hcd dX0_standsFor_27 hl (k := 3) rfl rfl (by decide) rfl (fun ls hl => ?_)
      refine lv_goto (tgt := 4) hx hcd dX0_standsFor_30 (by decide) ?_
      exact hjmp _ (Option.some.inj ho).symm _ _ _ hW (lv_sub hl [1, 2, 3, 0] rfl)
    · have ho := gif_p ho c4
      refine lv_iload_n hx hcd dX0_standsFor_21 rfl (lv_at hl 2 rfl) ?_
      refine lv_iconst (v := 1) hx hcd dX0_standsFor_22 (by decide) ?_
      refine lv_iload_n hx hcd dX0_standsFor_23 rfl (lv_at hl 3 rfl) ?_
      refine lv_ishl hx hcd dX0_standsFor_24 ?_
      refine lv_ior hx hcd dX0_standsFor_25 ?_
      refine lv_istore_n (lv' := [(2, .int (x2 ||| ((1 : Int32) <<< (x3 &&& 31)))), (0, .ref (ad b)), (1, .int x1), (3, .int x3)]) hx hcd dX0_standsFor_26 rfl hl (by decide) rfl (fun ls hl => ?_)
      refine lv_iinc (v := x3 + 1) (lv' := [(3, .int (x3 + 1)), (2, .int (x2 ||| ((1 : Int32) <<< (x3 &&& 31)))), (0, .ref (ad b)), (1, .int x1)]) hx hcd dX0_standsFor_27 hl (k := 3) rfl rfl (by decide) rfl (fun ls hl => ?_)
      refine lv_goto (tgt := 4) hx hcd dX0_standsFor_30 (by decide) ?_
      exact hjmp _ (Option.some.inj ho).symm _ _ _ hW (lv_sub hl [2, 3, 1, 0] rfl)
set_option maxHeartbeats 4000000 in
set_option maxRecDepth 100000 in
theorem c_X0_standsFor (l : Launch) (D : va_G) (y : ClassId × ClassId × ClassId) (ad : Nat → Nat) {b : Nat} (hb : g_air b) (x1 : Int32) (σ : gS) (sz : Nat) {q : Int32} (h : X0_standsFor σ b x1 = some q) : Met l yX0_standsFor (Cond.code yX0_standsFor cX0_standsFor 4 (some .int) :: gl) ({ frames := 3, cells := 0, slots := 0, locals := 73 }) (g_Pc D y ad σ sz [.ref (ad b), .int x1]) (g_Qi D y ad σ sz q) 0 0 (g_A ad sz) := by
  have ho := h
  unfold X0_standsFor at ho
  refine g_start (by decide) (Nat.le_of_ble_eq_true rfl) (fun p e s m below meth c ls hC hr hlk hsz hW hl => ?_)
  have hx := hC.1
  have hcd := hC.2.1
  have hl : lv_has ls 4 [(0, .ref (ad b)), (1, .int x1)] := hl
  refine lv_iconst (v := 0) hx hcd dX0_standsFor_0 (by decide) ?_
  refine lv_istore_n (lv' := [(2, .int 0), (0, .ref (ad b)), (1, .int x1)]) hx hcd dX0_standsFor_1 rfl hl (by decide) rfl (fun ls hl => ?_)
  refine lv_iconst (v := 0) hx hcd dX0_standsFor_2 (by decide) ?_
  refine lv_istore_n (lv' := [(3, .int 0), (2, .int 0), (0, .ref (ad b)), (1, .int x1)]) hx hcd dX0_standsFor_3 rfl hl (by decide) rfl (fun ls hl => ?_)
  exact l_X0_standsFor l D y ad hb σ sz hC hr hlk hsz _ ho _ _ _ hW (lv_sub hl [2, 3, 1, 0] rfl)
noncomputable def X0_cheapestFor_k0 (σ : gS) (b : Nat) (x1 : Int32) (x2 : Int32) (x3 : Int32) : Option ((Int32 × Int32 × Int32) ⊕ (Int32)) :=
  if (σ b 0) ≤ x3 then (some (.inr x2)) else (if x2 < 0 then ((X0_refusal σ b x1 x3).bind fun r4 => if r4 = 0 then (some (.inl (x1, x3, (x3 + 1)))) else (some (.inl (x1, x2, (x3 + 1))))) else (gd (ib x3 8) <| gd (ib x2 8) <| if (σ (b + 1) x2.toNatClampNeg) ≤ (σ (b + 1) x3.toNatClampNeg) then (some (.inl (x1, x2, (x3 + 1)))) else ((X0_refusal σ b x1 x3).bind fun r10 => if r10 = 0 then (some (.inl (x1, x3, (x3 + 1)))) else (some (.inl (x1, x2, (x3 + 1)))))))
noncomputable def X0_cheapestFor_s (σ : gS) (b : Nat) (a : Int32 × Int32 × Int32) : Option ((Int32 × Int32 × Int32) ⊕ (Int32)) :=
  X0_cheapestFor_k0 σ b a.1 a.2.1 a.2.2
noncomputable def X0_cheapestFor (σ : gS) (b : Nat) (x1 : Int32) : Option (Int32) :=
  gr (X0_cheapestFor_s σ b) (x1, (-1), 0)
set_option maxHeartbeats 4000000 in
set_option maxRecDepth 100000 in
theorem l_X0_cheapestFor {p : Program} {e : Env} {s : State} {m : MethodId} {args : Array Value} {below : List Frame} {meth : Method} {c : Code} (l : Launch) (D : va_G) (y : ClassId × ClassId × ClassId) (ad : Nat → Nat) {b : Nat} (hb : g_air b) (σ : gS) (sz : Nat) (hC : g_C p s m args c cX0_cheapestFor 4 RX0 D y) (hr : meth.sig.returnType = (some .int)) (hlk : meth.locks = false) (hsz : s.heap.size = sz) {r0 : Int32} : ∀ a : Int32 × Int32 × Int32, gr (X0_cheapestFor_s σ b) a = some r0 → ∀ (H : Heap) (locs : List Loc) (ls : Array Slot), g_W (g_A ad sz) s.heap D y ad [] σ H locs → lv_has ls 4 [(0, .ref (ad b)), (1, .int a.1), (2, .int a.2.1), (3, .int a.2.2)] → W p l e ({ frames := 3, cells := 0, slots := 0, locals := 73 }) s m args below meth c H locs 0 0 (MQ below (g_Qi D y ad σ sz r0) args s 0 0 (g_A ad sz)) (F0 m 4 ls []) := by
  have hx := hC.1
  have hcd := hC.2.1
  refine gr_all (fun a o ho hret hjmp => ?_)
  obtain ⟨x1, x2, x3⟩ := a
  intro H locs ls hW hl
  have ho : X0_cheapestFor_k0 σ b x1 x2 x3 = some o := ho
  unfold X0_cheapestFor_k0 at ho
  refine lv_iload_n hx hcd dX0_cheapestFor_4 rfl (lv_at hl 3 rfl) ?_
  refine lv_aload_n hx hcd dX0_cheapestFor_5 rfl (lv_at hl 0 rfl) ?_
  refine g_geti hC hW (C := RX0) (T := TX0) (N := 16) (ci := 2) (k := 0) (index := 55) (i := b) inGX0 rfl (by decide) fl_X0_55 (g_lt_air hb) (g_sh_air hb) rfl dX0_cheapestFor_6 ?_
  refine lv_icmp_ge (tgt := 48) hx hcd dX0_cheapestFor_9 (by decide) (fun c1 => ?_) (fun c1 => ?_)
  · have ho := gif_p ho c1
    refine lv_iload_n hx hcd dX0_cheapestFor_48 rfl (lv_at hl 2 rfl) ?_
    obtain rfl := hret _ (Option.some.inj ho).symm
    exact g_iret hC hr hlk hsz hW dX0_cheapestFor_49
  · have ho := gif_n ho c1
    refine lv_iload_n hx hcd dX0_cheapestFor_12 rfl (lv_at hl 2 rfl) ?_
    refine lv_if_lt (tgt := 31) hx hcd dX0_cheapestFor_13 (by decide) (fun c2 => ?_) (fun c2 => ?_)
    · have ho := gif_p ho c2
      refine lv_aload_n hx hcd dX0_cheapestFor_31 rfl (lv_at hl 0 rfl) ?_
      refine lv_iload_n hx hcd dX0_cheapestFor_32 rfl (lv_at hl 1 rfl) ?_
      refine lv_iload_n hx hcd dX0_cheapestFor_33 rfl (lv_at hl 3 rfl) ?_
      obtain ⟨r4, h3, ho⟩ := gb_some ho
      refine g_calli hW (g_runV (As := [.int x1, .int x3]) (rest := []) (i := b) hC hW (c_X0_refusal l D y ad hb x1 x3 _ _ h3) ok_X0_135 ⟨rfl, rfl, Nat.le_of_ble_eq_true rfl, Nat.le_of_ble_eq_true rfl⟩ (g_lt_air hb) (g_sh_air hb) rfl rfl rfl hl.1 rfl (Nat.le_of_ble_eq_true rfl) dX0_cheapestFor_34 ⟨Nat.zero_le _, Nat.zero_le _⟩) (fun H locs hW => ?_)
      refine lv_if_ne (tgt := 42) hx hcd dX0_cheapestFor_37 (by decide) (fun c5 => ?_) (fun c5 => ?_)
      · have ho := gif_n ho c5
        refine lv_iinc (v := x3 + 1) (lv' := [(3, .int (x3 + 1)), (0, .ref (ad b)), (1, .int x1), (2, .int x2)]) hx hcd dX0_cheapestFor_42 hl (k := 3) rfl rfl (by decide) rfl (fun ls hl => ?_)
        refine lv_goto (tgt := 4) hx hcd dX0_cheapestFor_45 (by decide) ?_
        exact hjmp _ (Option.some.inj ho).symm _ _ _ hW (lv_sub hl [1, 2, 3, 0] rfl)
      · have ho := gif_p ho c5
        refine lv_iload_n hx hcd dX0_cheapestFor_40 rfl (lv_at hl 3 rfl) ?_
        refine lv_istore_n (lv' := [(2, .int x3), (0, .ref (ad b)), (1, .int x1), (3, .int x3)]) hx hcd dX0_cheapestFor_41 rfl hl (by decide) rfl (fun ls hl => ?_)
        refine lv_iinc (v := x3 + 1) (lv' := [(3, .int (x3 + 1)), (2, .int x3), (0, .ref (ad b)), (1, .int x1)]) hx hcd dX0_cheapestFor_42 hl (k := 3) rfl rfl (by decide) rfl (fun ls hl => ?_)
        refine lv_goto (tgt := 4) hx hcd dX0_cheapestFor_45 (by decide) ?_
        exact hjmp _ (Option.some.inj ho).symm _ _ _ hW (lv_sub hl [2, 3, 1, 0] rfl)
    · have ho := gif_n ho c2
      refine lv_aload_n hx hcd dX0_cheapestFor_16 rfl (lv_at hl 0 rfl) ?_
      refine g_getr hC hW (C := RX0) (T := TX0) (N := 16) (ci := 2) (k := 5) (index := 15) (i := b) (r := (b + 1)) inGX0 rfl (by decide) fl_X0_15 (g_lt_air hb) (g_sh_air hb) rfl dX0_cheapestFor_17 ?_
      refine lv_iload_n hx hcd dX0_cheapestFor_20 rfl (lv_at hl 3 rfl) ?_
      obtain ⟨i6, ho⟩ := gd_some ho
      refine g_iald hC hW (i := (b + 1)) (g_lt_arr (j := 1) hb (by decide)) (g_sa1 hb) i6 dX0_cheapestFor_21 ?_
      refine lv_aload_n hx hcd dX0_cheapestFor_22 rfl (lv_at hl 0 rfl) ?_
      refine g_getr hC hW (C := RX0) (T := TX0) (N := 16) (ci := 2) (k := 5) (index := 15) (i := b) (r := (b + 1)) inGX0 rfl (by decide) fl_X0_15 (g_lt_air hb) (g_sh_air hb) rfl dX0_cheapestFor_23 ?_
      refine lv_iload_n hx hcd dX0_cheapestFor_26 rfl (lv_at hl 2 rfl) ?_
      obtain ⟨i7, ho⟩ := gd_some ho
      refine g_iald hC hW (i := (b + 1)) (g_lt_arr (j := 1) hb (by decide)) (g_sa1 hb) i7 dX0_cheapestFor_27 ?_
      refine lv_icmp_ge (tgt := 42) hx hcd dX0_cheapestFor_28 (by decide) (fun c8 => ?_) (fun c8 => ?_)
      · have ho := gif_p ho c8
        refine lv_iinc (v := x3 + 1) (lv' := [(3, .int (x3 + 1)), (0, .ref (ad b)), (1, .int x1), (2, .int x2)]) hx hcd dX0_cheapestFor_42 hl (k := 3) rfl rfl (by decide) rfl (fun ls hl => ?_)
        refine lv_goto (tgt := 4) hx hcd dX0_cheapestFor_45 (by decide) ?_
        exact hjmp _ (Option.some.inj ho).symm _ _ _ hW (lv_sub hl [1, 2, 3, 0] rfl)
      · have ho := gif_n ho c8
        refine lv_aload_n hx hcd dX0_cheapestFor_31 rfl (lv_at hl 0 rfl) ?_
        refine lv_iload_n hx hcd dX0_cheapestFor_32 rfl (lv_at hl 1 rfl) ?_
        refine lv_iload_n hx hcd dX0_cheapestFor_33 rfl (lv_at hl 3 rfl) ?_
        obtain ⟨r10, h9, ho⟩ := gb_some ho
        refine g_calli hW (g_runV (As := [.int x1, .int x3]) (rest := []) (i := b) hC hW (c_X0_refusal l D y ad hb x1 x3 _ _ h9) ok_X0_135 ⟨rfl, rfl, Nat.le_of_ble_eq_true rfl, Nat.le_of_ble_eq_true rfl⟩ (g_lt_air hb) (g_sh_air hb) rfl rfl rfl hl.1 rfl (Nat.le_of_ble_eq_true rfl) dX0_cheapestFor_34 ⟨Nat.zero_le _, Nat.zero_le _⟩) (fun H locs hW => ?_)
        refine lv_if_ne (tgt := 42) hx hcd dX0_cheapestFor_37 (by decide) (fun c11 => ?_) (fun c11 => ?_)
        · have ho := gif_n ho c11
          refine lv_iinc (v := x3 + 1) (lv' := [(3, .int (x3 + 1)), (0, .ref (ad b)), (1, .int x1), (2, .int x2)]) hx hcd dX0_cheapestFor_42 hl (k := 3) rfl rfl (by decide) rfl (fun ls hl => ?_)
          refine lv_goto (tgt := 4) hx hcd dX0_cheapestFor_45 (by decide) ?_
          exact hjmp _ (Option.some.inj ho).symm _ _ _ hW (lv_sub hl [1, 2, 3, 0] rfl)
        · have ho := gif_p ho c11
          refine lv_iload_n hx hcd dX0_cheapestFor_40 rfl (lv_at hl 3 rfl) ?_
          refine lv_istore_n (lv' := [(2, .int x3), (0, .ref (ad b)), (1, .int x1), (3, .int x3)]) hx hcd dX0_cheapestFor_41 rfl hl (by decide) rfl (fun ls hl => ?_)
          refine lv_iinc (v := x3 + 1) (lv' := [(3, .int (x3 + 1)), (2, .int x3), (0, .ref (ad b)), (1, .int x1)]) hx hcd dX0_cheapestFor_42 hl (k := 3) rfl rfl (by decide) rfl (fun ls hl => ?_)
          refine lv_goto (tgt := 4) hx hcd dX0_cheapestFor_45 (by decide) ?_
          exact hjmp _ (Option.some.inj ho).symm _ _ _ hW (lv_sub hl [2, 3, 1, 0] rfl)
set_option maxHeartbeats 4000000 in
set_option maxRecDepth 100000 in
theorem c_X0_cheapestFor (l : Launch) (D : va_G) (y : ClassId × ClassId × ClassId) (ad : Nat → Nat) {b : Nat} (hb : g_air b) (x1 : Int32) (σ : gS) (sz : Nat) {q : Int32} (h : X0_cheapestFor σ b x1 = some q) : Met l yX0_cheapestFor (Cond.code yX0_cheapestFor cX0_cheapestFor 4 (some .int) :: gl) ({ frames := 3, cells := 0, slots := 0, locals := 73 }) (g_Pc D y ad σ sz [.ref (ad b), .int x1]) (g_Qi D y ad σ sz q) 0 0 (g_A ad sz) := by
  have ho := h
  unfold X0_cheapestFor at ho
  refine g_start (by decide) (Nat.le_of_ble_eq_true rfl) (fun p e s m below meth c ls hC hr hlk hsz hW hl => ?_)
  have hx := hC.1
  have hcd := hC.2.1
  have hl : lv_has ls 4 [(0, .ref (ad b)), (1, .int x1)] := hl
  refine lv_iconst (v := (-1)) hx hcd dX0_cheapestFor_0 (by decide) ?_
  refine lv_istore_n (lv' := [(2, .int (-1)), (0, .ref (ad b)), (1, .int x1)]) hx hcd dX0_cheapestFor_1 rfl hl (by decide) rfl (fun ls hl => ?_)
  refine lv_iconst (v := 0) hx hcd dX0_cheapestFor_2 (by decide) ?_
  refine lv_istore_n (lv' := [(3, .int 0), (2, .int (-1)), (0, .ref (ad b)), (1, .int x1)]) hx hcd dX0_cheapestFor_3 rfl hl (by decide) rfl (fun ls hl => ?_)
  exact l_X0_cheapestFor l D y ad hb σ sz hC hr hlk hsz _ ho _ _ _ hW (lv_sub hl [2, 3, 1, 0] rfl)
noncomputable def X0_rateOf (σ : gS) (x0 : Int32) : Option (Int32) :=
  if x0 = 0 then (some 0) else (if x0 = 2 then (some 5) else (some 2))
set_option maxHeartbeats 4000000 in
set_option maxRecDepth 100000 in
theorem c_X0_rateOf (l : Launch) (D : va_G) (y : ClassId × ClassId × ClassId) (ad : Nat → Nat) (x0 : Int32) (σ : gS) (sz : Nat) {q : Int32} (h : X0_rateOf σ x0 = some q) : Met l yX0_rateOf (Cond.code yX0_rateOf cX0_rateOf 1 (some .int) :: gl) ({ frames := 0, cells := 0, slots := 0, locals := 0 }) (g_Pc D y ad σ sz [.int x0]) (g_Qi D y ad σ sz q) 0 0 (g_A ad sz) := by
  have ho := h
  unfold X0_rateOf at ho
  refine g_start (by decide) (Nat.le_of_ble_eq_true rfl) (fun p e s m below meth c ls hC hr hlk hsz hW hl => ?_)
  have hx := hC.1
  have hcd := hC.2.1
  have hl : lv_has ls 1 [(0, .int x0)] := hl
  refine lv_iload_n hx hcd dX0_rateOf_0 rfl (lv_at hl 0 rfl) ?_
  refine lv_if_ne (tgt := 6) hx hcd dX0_rateOf_1 (by decide) (fun c1 => ?_) (fun c1 => ?_)
  · have ho := gif_n ho c1
    refine lv_iload_n hx hcd dX0_rateOf_6 rfl (lv_at hl 0 rfl) ?_
    refine lv_iconst (v := 2) hx hcd dX0_rateOf_7 (by decide) ?_
    refine lv_icmp_ne (tgt := 15) hx hcd dX0_rateOf_8 (by decide) (fun c2 => ?_) (fun c2 => ?_)
    · have ho := gif_n ho c2
      refine lv_iconst (v := 2) hx hcd dX0_rateOf_15 (by decide) ?_
      obtain rfl := Option.some.inj ho
      exact g_iret hC hr hlk hsz hW dX0_rateOf_16
    · have ho := gif_p ho c2
      refine lv_iconst (v := 5) hx hcd dX0_rateOf_11 (by decide) ?_
      refine lv_goto (tgt := 16) hx hcd dX0_rateOf_12 (by decide) ?_
      obtain rfl := Option.some.inj ho
      exact g_iret hC hr hlk hsz hW dX0_rateOf_16
  · have ho := gif_p ho c1
    refine lv_iconst (v := 0) hx hcd dX0_rateOf_4 (by decide) ?_
    obtain rfl := Option.some.inj ho
    exact g_iret hC hr hlk hsz hW dX0_rateOf_5
