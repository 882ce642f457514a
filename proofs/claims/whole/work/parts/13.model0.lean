noncomputable def X7_in (σ : gS) (x0 : Int32) (x1 : Int32) (x2 : Int32) : Option (Int32) :=
  if x0 < x1 then (some 0) else (if x2 < x0 then (some 0) else (some 1))
set_option maxHeartbeats 4000000 in
set_option maxRecDepth 100000 in
theorem c_X7_in (l : Launch) (D : va_G) (y : ClassId × ClassId × ClassId) (ad : Nat → Nat) (x0 : Int32) (x1 : Int32) (x2 : Int32) (σ : gS) (sz : Nat) {q : Int32} (h : X7_in σ x0 x1 x2 = some q) : Met l yX7_in (Cond.code yX7_in cX7_in 3 (some .boolean) :: gl) ({ frames := 0, cells := 0, slots := 0, locals := 0 }) (g_Pc D y ad σ sz [.int x0, .int x1, .int x2]) (g_Qi D y ad σ sz q) 0 0 (g_A ad sz) := by
  have ho := h
  unfold X7_in at ho
  refine g_start (by decide) (Nat.le_of_ble_eq_true rfl) (fun p e s m below meth c ls hC hr hlk hsz hW hl => ?_)
  have hx := hC.1
  have hcd := hC.2.1
  have hl : lv_has ls 3 [(0, .int x0), (1, .int x1), (2, .int x2)] := hl
  refine lv_iload_n hx hcd dX7_in_0 rfl (lv_at hl 0 rfl) ?_
  refine lv_iload_n hx hcd dX7_in_1 rfl (lv_at hl 1 rfl) ?_
  refine lv_icmp_lt (tgt := 14) hx hcd dX7_in_2 (by decide) (fun c1 => ?_) (fun c1 => ?_)
  · have ho := gif_p ho c1
    refine lv_iconst (v := 0) hx hcd dX7_in_14 (by decide) ?_
    obtain rfl := Option.some.inj ho
    exact g_zret (r := 0) hC hr hlk hsz hW (by decide) dX7_in_15
  · have ho := gif_n ho c1
    refine lv_iload_n hx hcd dX7_in_5 rfl (lv_at hl 0 rfl) ?_
    refine lv_iload_n hx hcd dX7_in_6 rfl (lv_at hl 2 rfl) ?_
    refine lv_icmp_gt (tgt := 14) hx hcd dX7_in_7 (by decide) (fun c2 => ?_) (fun c2 => ?_)
    · have ho := gif_p ho c2
      refine lv_iconst (v := 0) hx hcd dX7_in_14 (by decide) ?_
      obtain rfl := Option.some.inj ho
      exact g_zret (r := 0) hC hr hlk hsz hW (by decide) dX7_in_15
    · have ho := gif_n ho c2
      refine lv_iconst (v := 1) hx hcd dX7_in_10 (by decide) ?_
      refine lv_goto (tgt := 15) hx hcd dX7_in_11 (by decide) ?_
      obtain rfl := Option.some.inj ho
      exact g_zret (r := 1) hC hr hlk hsz hW (by decide) dX7_in_15
noncomputable def X7_begin_k0 (σ : gS) (x1 : Int32) : Option ((Int32 × gS) ⊕ (gS)) :=
  if 162 ≤ x1 then (lt_ (g_up σ 133 (2 : Int32).toNatClampNeg 15) fun σ2 => lt_ (g_up σ2 132 6 0) fun σ3 => some (.inr σ3)) else ((X7_in σ x1 28 91).bind fun r5 => if r5 = 0 then (gd (ib x1 162) <| lt_ (g_up σ 133 x1.toNatClampNeg 0) fun σ8 => some (.inl ((x1 + 1), σ8))) else (gd (ib x1 162) <| lt_ (g_up σ 133 x1.toNatClampNeg (-1)) fun σ10 => some (.inl ((x1 + 1), σ10))))
noncomputable def X7_begin_s (a : Int32 × gS) : Option ((Int32 × gS) ⊕ (gS)) :=
  X7_begin_k0 a.2 a.1
noncomputable def X7_begin (σ : gS) : Option (gS) :=
  gr (X7_begin_s) (0, σ)
set_option maxHeartbeats 4000000 in
set_option maxRecDepth 100000 in
theorem l_X7_begin {p : Program} {e : Env} {s : State} {m : MethodId} {args : Array Value} {below : List Frame} {meth : Method} {c : Code} (l : Launch) (D : va_G) (y : ClassId × ClassId × ClassId) (ad : Nat → Nat) (sz : Nat) (hC : g_C p s m args c cX7_begin 2 RX7 D y) (hr : meth.sig.returnType = none) (hlk : meth.locks = false) (hsz : s.heap.size = sz) {r0 : gS} : ∀ a : Int32 × gS, gr (X7_begin_s) a = some r0 → ∀ (H : Heap) (locs : List Loc) (ls : Array Slot), g_W (g_A ad sz) s.heap D y ad [] a.2 H locs → lv_has ls 2 [(0, .ref (ad 132)), (1, .int a.1)] → W p l e ({ frames := 1, cells := 0, slots := 0, locals := 22 }) s m args below meth c H locs 0 0 (MQ below (g_Qv D y ad r0 sz) args s 0 0 (g_A ad sz)) (F0 m 2 ls []) := by
  have hx := hC.1
  have hcd := hC.2.1
  refine gr_all (fun a o ho hret hjmp => ?_)
  obtain ⟨x1, σ⟩ := a
  intro H locs ls hW hl
  have ho : X7_begin_k0 σ x1 = some o := ho
  unfold X7_begin_k0 at ho
  refine lv_iload_n hx hcd dX7_begin_2 rfl (lv_at hl 1 rfl) ?_
  refine lv_sipush (v := 162) hx hcd dX7_begin_3 (by decide) ?_
  refine lv_icmp_ge (tgt := 37) hx hcd dX7_begin_6 (by decide) (fun c1 => ?_) (fun c1 => ?_)
  · have ho := gif_p ho c1
    refine lv_aload_n hx hcd dX7_begin_37 rfl (lv_at hl 0 rfl) ?_
    refine g_getr hC hW (C := RX7) (T := TX7) (N := 19) (ci := 9) (k := 0) (index := 9) (i := 132) (r := 133) inGX7 rfl (by decide) fl_X7_9 (by decide) rfl rfl dX7_begin_38 ?_
    refine lv_iconst (v := 2) hx hcd dX7_begin_41 (by decide) ?_
    refine lv_bipush (v := 15) hx hcd dX7_begin_42 (by decide) ?_
    obtain ⟨σ2, eσ2, ho⟩ := lt_ex ho
    refine g_iast hC hW (i := 133) (by decide) rfl (by decide) dX7_begin_44 (fun H locs hW => ?_)
    rw [← eσ2] at hW
    refine lv_aload_n hx hcd dX7_begin_45 rfl (lv_at hl 0 rfl) ?_
    refine lv_iconst (v := 0) hx hcd dX7_begin_46 (by decide) ?_
    obtain ⟨σ3, eσ3, ho⟩ := lt_ex ho
    refine g_puti hC hW (C := RX7) (T := TX7) (N := 19) (ci := 9) (k := 6) (index := 55) (i := 132) inGX7 tyX7 tyX7_ok nmX7 rfl (by decide) fl_X7_55 rfl (by decide) rfl rfl rfl rfl dX7_begin_47 (fun H locs hW => ?_)
    rw [← eσ3] at hW
    obtain rfl := hret _ (Option.some.inj ho).symm
    exact g_vret hC hr hlk hsz hW dX7_begin_50
  · have ho := gif_n ho c1
    refine lv_aload_n hx hcd dX7_begin_9 rfl (lv_at hl 0 rfl) ?_
    refine g_getr hC hW (C := RX7) (T := TX7) (N := 19) (ci := 9) (k := 0) (index := 9) (i := 132) (r := 133) inGX7 rfl (by decide) fl_X7_9 (by decide) rfl rfl dX7_begin_10 ?_
    refine lv_iload_n hx hcd dX7_begin_13 rfl (lv_at hl 1 rfl) ?_
    refine lv_iload_n hx hcd dX7_begin_14 rfl (lv_at hl 1 rfl) ?_
    refine lv_bipush (v := 28) hx hcd dX7_begin_15 (by decide) ?_
    refine lv_bipush (v := 91) hx hcd dX7_begin_17 (by decide) ?_
    obtain ⟨r5, h4, ho⟩ := gb_some ho
    refine g_calli hW (g_runS (As := [.int x1, .int 28, .int 91]) (rest := [.int x1, .ref (ad 133)]) hC hW (c_X7_in l D y ad x1 28 91 _ _ h4) ok_X7_51 ⟨rfl, rfl, Nat.le_of_ble_eq_true rfl, Nat.le_of_ble_eq_true rfl⟩ rfl hl.1 rfl (Nat.le_of_ble_eq_true rfl) dX7_begin_19 ⟨Nat.zero_le _, Nat.zero_le _⟩) (fun H locs hW => ?_)
    refine lv_if_eq (tgt := 29) hx hcd dX7_begin_22 (by decide) (fun c6 => ?_) (fun c6 => ?_)
    · have ho := gif_p ho c6
      refine lv_iconst (v := 0) hx hcd dX7_begin_29 (by decide) ?_
      obtain ⟨i7, ho⟩ := gd_some ho
      obtain ⟨σ8, eσ8, ho⟩ := lt_ex ho
      refine g_iast hC hW (i := 133) (by decide) rfl i7 dX7_begin_30 (fun H locs hW => ?_)
      rw [← eσ8] at hW
      refine lv_iinc (v := x1 + 1) (lv' := [(1, .int (x1 + 1)), (0, .ref (ad 132))]) hx hcd dX7_begin_31 hl (k := 1) rfl rfl (by decide) rfl (fun ls hl => ?_)
      refine lv_goto (tgt := 2) hx hcd dX7_begin_34 (by decide) ?_
      exact hjmp _ (Option.some.inj ho).symm _ _ _ hW (lv_sub hl [1, 0] rfl)
    · have ho := gif_n ho c6
      refine lv_iconst (v := (-1)) hx hcd dX7_begin_25 (by decide) ?_
      refine lv_goto (tgt := 30) hx hcd dX7_begin_26 (by decide) ?_
      obtain ⟨i9, ho⟩ := gd_some ho
      obtain ⟨σ10, eσ10, ho⟩ := lt_ex ho
      refine g_iast hC hW (i := 133) (by decide) rfl i9 dX7_begin_30 (fun H locs hW => ?_)
      rw [← eσ10] at hW
      refine lv_iinc (v := x1 + 1) (lv' := [(1, .int (x1 + 1)), (0, .ref (ad 132))]) hx hcd dX7_begin_31 hl (k := 1) rfl rfl (by decide) rfl (fun ls hl => ?_)
      refine lv_goto (tgt := 2) hx hcd dX7_begin_34 (by decide) ?_
      exact hjmp _ (Option.some.inj ho).symm _ _ _ hW (lv_sub hl [1, 0] rfl)
set_option maxHeartbeats 4000000 in
set_option maxRecDepth 100000 in
theorem c_X7_begin (l : Launch) (D : va_G) (y : ClassId × ClassId × ClassId) (ad : Nat → Nat) (σ : gS) (sz : Nat) {q : gS} (h : X7_begin σ = some q) : Met l yX7_begin (Cond.code yX7_begin cX7_begin 2 none :: gl) ({ frames := 1, cells := 0, slots := 0, locals := 22 }) (g_Pc D y ad σ sz [.ref (ad 132)]) (g_Qv D y ad q sz) 0 0 (g_A ad sz) := by
  have ho := h
  unfold X7_begin at ho
  refine g_start (by decide) (Nat.le_of_ble_eq_true rfl) (fun p e s m below meth c ls hC hr hlk hsz hW hl => ?_)
  have hx := hC.1
  have hcd := hC.2.1
  have hl : lv_has ls 2 [(0, .ref (ad 132))] := hl
  refine lv_iconst (v := 0) hx hcd dX7_begin_0 (by decide) ?_
  refine lv_istore_n (lv' := [(1, .int 0), (0, .ref (ad 132))]) hx hcd dX7_begin_1 rfl hl (by decide) rfl (fun ls hl => ?_)
  exact l_X7_begin l D y ad sz hC hr hlk hsz _ ho _ _ _ hW (lv_sub hl [1, 0] rfl)
noncomputable def X7_thrown (σ : gS) : Option (Int32) :=
  some (σ 132 8)
set_option maxHeartbeats 4000000 in
set_option maxRecDepth 100000 in
theorem c_X7_thrown (l : Launch) (D : va_G) (y : ClassId × ClassId × ClassId) (ad : Nat → Nat) (σ : gS) (sz : Nat) {q : Int32} (h : X7_thrown σ = some q) : Met l yX7_thrown (Cond.code yX7_thrown cX7_thrown 1 (some .int) :: gl) ({ frames := 0, cells := 0, slots := 0, locals := 0 }) (g_Pc D y ad σ sz [.ref (ad 132)]) (g_Qi D y ad σ sz q) 0 0 (g_A ad sz) := by
  have ho := h
  unfold X7_thrown at ho
  refine g_start (by decide) (Nat.le_of_ble_eq_true rfl) (fun p e s m below meth c ls hC hr hlk hsz hW hl => ?_)
  have hx := hC.1
  have hcd := hC.2.1
  have hl : lv_has ls 1 [(0, .ref (ad 132))] := hl
  refine lv_aload_n hx hcd dX7_thrown_0 rfl (lv_at hl 0 rfl) ?_
  refine g_geti hC hW (C := RX7) (T := TX7) (N := 19) (ci := 9) (k := 8) (index := 48) (i := 132) inGX7 rfl (by decide) fl_X7_48 (by decide) rfl rfl dX7_thrown_1 ?_
  obtain rfl := Option.some.inj ho
  exact g_iret hC hr hlk hsz hW dX7_thrown_4
noncomputable def X7_keepState (σ : gS) : Option (gS) :=
  lt_ (g_row σ 135 (va_cpy (σ 133) (σ 135) (0 : Int32).toNatClampNeg (0 : Int32).toNatClampNeg (162 : Int32).toNatClampNeg)) fun σ1 => some σ1
set_option maxHeartbeats 4000000 in
set_option maxRecDepth 100000 in
theorem c_X7_keepState (l : Launch) (D : va_G) (y : ClassId × ClassId × ClassId) (ad : Nat → Nat) (σ : gS) (sz : Nat) {q : gS} (h : X7_keepState σ = some q) : Met l yX7_keepState (Cond.code yX7_keepState cX7_keepState 1 none :: gl) ({ frames := 1, cells := 0, slots := 0, locals := 40 }) (g_Pc D y ad σ sz [.ref (ad 132)]) (g_Qv D y ad q sz) 0 0 (g_A ad sz) := by
  have ho := h
  unfold X7_keepState at ho
  refine g_start (by decide) (Nat.le_of_ble_eq_true rfl) (fun p e s m below meth c ls hC hr hlk hsz hW hl => ?_)
  have hx := hC.1
  have hcd := hC.2.1
  have hl : lv_has ls 1 [(0, .ref (ad 132))] := hl
  refine lv_aload_n hx hcd dX7_keepState_0 rfl (lv_at hl 0 rfl) ?_
  refine g_getr hC hW (C := RX7) (T := TX7) (N := 19) (ci := 9) (k := 0) (index := 9) (i := 132) (r := 133) inGX7 rfl (by decide) fl_X7_9 (by decide) rfl rfl dX7_keepState_1 ?_
  refine lv_iconst (v := 0) hx hcd dX7_keepState_4 (by decide) ?_
  refine lv_aload_n hx hcd dX7_keepState_5 rfl (lv_at hl 0 rfl) ?_
  refine g_getr hC hW (C := RX7) (T := TX7) (N := 19) (ci := 9) (k := 2) (index := 16) (i := 132) (r := 135) inGX7 rfl (by decide) fl_X7_16 (by decide) rfl rfl dX7_keepState_6 ?_
  refine lv_iconst (v := 0) hx hcd dX7_keepState_9 (by decide) ?_
  refine lv_sipush (v := 162) hx hcd dX7_keepState_10 (by decide) ?_
  obtain ⟨σ1, eσ1, ho⟩ := lt_ex ho
  refine g_copy hC hW hl.1 ml_X7_58 (i0 := 133) (i1 := 135) (n0 := 162) (n1 := 162) (by decide) (by decide) rfl rfl (by decide +kernel) ac_w ⟨Nat.le_of_ble_eq_true rfl, Nat.le_of_ble_eq_true rfl⟩ dX7_keepState_13 (fun H locs hW => ?_)
  rw [← eσ1] at hW
  obtain rfl := Option.some.inj ho
  exact g_vret hC hr hlk hsz hW dX7_keepState_16
noncomputable def X7_change (σ : gS) : Option (gS) :=
  if (σ 132 6) = 6 then (lt_ (g_row σ 137 (va_cpy (σ 137) (σ 137) (162 : Int32).toNatClampNeg (0 : Int32).toNatClampNeg (810 : Int32).toNatClampNeg)) fun σ5 => lt_ (g_up σ5 132 6 ((σ5 132 6) - (1 : Int32))) fun σ6 => gd (decide (0 ≤ (0 : Int32).toInt ∧ 0 ≤ ((162 : Int32) * (σ6 132 6) : Int32).toInt ∧ 0 ≤ (162 : Int32).toInt ∧ (0 : Int32).toNatClampNeg + (162 : Int32).toNatClampNeg ≤ 162 ∧ ((162 : Int32) * (σ6 132 6) : Int32).toNatClampNeg + (162 : Int32).toNatClampNeg ≤ 972)) <| lt_ (g_row σ6 137 (va_cpy (σ6 135) (σ6 137) (0 : Int32).toNatClampNeg ((162 : Int32) * (σ6 132 6) : Int32).toNatClampNeg (162 : Int32).toNatClampNeg)) fun σ8 => lt_ (g_up σ8 132 6 ((σ8 132 6) + (1 : Int32))) fun σ9 => some σ9) else (gd (decide (0 ≤ (0 : Int32).toInt ∧ 0 ≤ ((162 : Int32) * (σ 132 6) : Int32).toInt ∧ 0 ≤ (162 : Int32).toInt ∧ (0 : Int32).toNatClampNeg + (162 : Int32).toNatClampNeg ≤ 162 ∧ ((162 : Int32) * (σ 132 6) : Int32).toNatClampNeg + (162 : Int32).toNatClampNeg ≤ 972)) <| lt_ (g_row σ 137 (va_cpy (σ 135) (σ 137) (0 : Int32).toNatClampNeg ((162 : Int32) * (σ 132 6) : Int32).toNatClampNeg (162 : Int32).toNatClampNeg)) fun σ3 => lt_ (g_up σ3 132 6 ((σ3 132 6) + (1 : Int32))) fun σ4 => some σ4)
set_option maxHeartbeats 4000000 in
set_option maxRecDepth 100000 in
theorem c_X7_change (l : Launch) (D : va_G) (y : ClassId × ClassId × ClassId) (ad : Nat → Nat) (σ : gS) (sz : Nat) {q : gS} (h : X7_change σ = some q) : Met l yX7_change (Cond.code yX7_change cX7_change 1 none :: gl) ({ frames := 1, cells := 0, slots := 0, locals := 40 }) (g_Pc D y ad σ sz [.ref (ad 132)]) (g_Qv D y ad q sz) 0 0 (g_A ad sz) := by
  have ho := h
  unfold X7_change at ho
  refine g_start (by decide) (Nat.le_of_ble_eq_true rfl) (fun p e s m below meth c ls hC hr hlk hsz hW hl => ?_)
  have hx := hC.1
  have hcd := hC.2.1
  have hl : lv_has ls 1 [(0, .ref (ad 132))] := hl
  refine lv_aload_n hx hcd dX7_change_0 rfl (lv_at hl 0 rfl) ?_
  refine g_geti hC hW (C := RX7) (T := TX7) (N := 19) (ci := 9) (k := 6) (index := 55) (i := 132) inGX7 rfl (by decide) fl_X7_55 (by decide) rfl rfl dX7_change_1 ?_
  refine lv_bipush (v := 6) hx hcd dX7_change_4 (by decide) ?_
  refine lv_icmp_ne (tgt := 37) hx hcd dX7_change_6 (by decide) (fun c1 => ?_) (fun c1 => ?_)
  · have ho := gif_n ho c1
    refine lv_aload_n hx hcd dX7_change_37 rfl (lv_at hl 0 rfl) ?_
    refine g_getr hC hW (C := RX7) (T := TX7) (N := 19) (ci := 9) (k := 2) (index := 16) (i := 132) (r := 135) inGX7 rfl (by decide) fl_X7_16 (by decide) rfl rfl dX7_change_38 ?_
    refine lv_iconst (v := 0) hx hcd dX7_change_41 (by decide) ?_
    refine lv_aload_n hx hcd dX7_change_42 rfl (lv_at hl 0 rfl) ?_
    refine g_getr hC hW (C := RX7) (T := TX7) (N := 19) (ci := 9) (k := 5) (index := 22) (i := 132) (r := 137) inGX7 rfl (by decide) fl_X7_22 (by decide) rfl rfl dX7_change_43 ?_
    refine lv_sipush (v := 162) hx hcd dX7_change_46 (by decide) ?_
    refine lv_aload_n hx hcd dX7_change_49 rfl (lv_at hl 0 rfl) ?_
    refine g_geti hC hW (C := RX7) (T := TX7) (N := 19) (ci := 9) (k := 6) (index := 55) (i := 132) inGX7 rfl (by decide) fl_X7_55 (by decide) rfl rfl dX7_change_50 ?_
    refine lv_imul hx hcd dX7_change_53 ?_
    refine lv_sipush (v := 162) hx hcd dX7_change_54 (by decide) ?_
    obtain ⟨i2, ho⟩ := gd_some ho
    obtain ⟨σ3, eσ3, ho⟩ := lt_ex ho
    refine g_copy hC hW hl.1 ml_X7_58 (i0 := 135) (i1 := 137) (n0 := 162) (n1 := 972) (by decide) (by decide) rfl rfl i2 ac_w ⟨Nat.le_of_ble_eq_true rfl, Nat.le_of_ble_eq_true rfl⟩ dX7_change_57 (fun H locs hW => ?_)
    rw [← eσ3] at hW
    refine lv_aload_n hx hcd dX7_change_60 rfl (lv_at hl 0 rfl) ?_
    refine lv_dup hx hcd dX7_change_61 rfl ?_
    refine g_geti hC hW (C := RX7) (T := TX7) (N := 19) (ci := 9) (k := 6) (index := 55) (i := 132) inGX7 rfl (by decide) fl_X7_55 (by decide) rfl rfl dX7_change_62 ?_
    refine lv_iconst (v := 1) hx hcd dX7_change_65 (by decide) ?_
    refine lv_iadd hx hcd dX7_change_66 ?_
    obtain ⟨σ4, eσ4, ho⟩ := lt_ex ho
    refine g_puti hC hW (C := RX7) (T := TX7) (N := 19) (ci := 9) (k := 6) (index := 55) (i := 132) inGX7 tyX7 tyX7_ok nmX7 rfl (by decide) fl_X7_55 rfl (by decide) rfl rfl rfl rfl dX7_change_67 (fun H locs hW => ?_)
    rw [← eσ4] at hW
    obtain rfl := Option.some.inj ho
    exact g_vret hC hr hlk hsz hW dX7_change_70
  · have ho := gif_p ho c1
    refine lv_aload_n hx hcd dX7_change_9 rfl (lv_at hl 0 rfl) ?_
    refine g_getr hC hW (C := RX7) (T := TX7) (N := 19) (ci := 9) (k := 5) (index := 22) (i := 132) (r := 137) inGX7 rfl (by decide) fl_X7_22 (by decide) rfl rfl dX7_change_10 ?_
    refine lv_sipush (v := 162) hx hcd dX7_change_13 (by decide) ?_
    refine lv_aload_n hx hcd dX7_change_16 rfl (lv_at hl 0 rfl) ?_
    refine g_getr hC hW (C := RX7) (T := TX7) (N := 19) (ci := 9) (k := 5) (index := 22) (i := 132) (r := 137) inGX7 rfl (by decide) fl_X7_22 (by decide) rfl rfl dX7_change_17 ?_
    refine lv_iconst (v := 0) hx hcd dX7_change_20 (by decide) ?_
    refine lv_sipush (v := 810) hx hcd dX7_change_21 (by decide) ?_
    obtain ⟨σ5, eσ5, ho⟩ := lt_ex ho
    refine g_copy hC hW hl.1 ml_X7_58 (i0 := 137) (i1 := 137) (n0 := 972) (n1 := 972) (by decide) (by decide) rfl rfl (by decide +kernel) ac_w ⟨Nat.le_of_ble_eq_true rfl, Nat.le_of_ble_eq_true rfl⟩ dX7_change_24 (fun H locs hW => ?_)
    rw [← eσ5] at hW
    refine lv_aload_n hx hcd dX7_change_27 rfl (lv_at hl 0 rfl) ?_
    refine lv_dup hx hcd dX7_change_28 rfl ?_
    refine g_geti hC hW (C := RX7) (T := TX7) (N := 19) (ci := 9) (k := 6) (index := 55) (i := 132) inGX7 rfl (by decide) fl_X7_55 (by decide) rfl rfl dX7_change_29 ?_
    refine lv_iconst (v := 1) hx hcd dX7_change_32 (by decide) ?_
    refine lv_isub hx hcd dX7_change_33 ?_
    obtain ⟨σ6, eσ6, ho⟩ := lt_ex ho
    refine g_puti hC hW (C := RX7) (T := TX7) (N := 19) (ci := 9) (k := 6) (index := 55) (i := 132) inGX7 tyX7 tyX7_ok nmX7 rfl (by decide) fl_X7_55 rfl (by decide) rfl rfl rfl rfl dX7_change_34 (fun H locs hW => ?_)
    rw [← eσ6] at hW
    refine lv_aload_n hx hcd dX7_change_37 rfl (lv_at hl 0 rfl) ?_
    refine g_getr hC hW (C := RX7) (T := TX7) (N := 19) (ci := 9) (k := 2) (index := 16) (i := 132) (r := 135) inGX7 rfl (by decide) fl_X7_16 (by decide) rfl rfl dX7_change_38 ?_
    refine lv_iconst (v := 0) hx hcd dX7_change_41 (by decide) ?_
    refine lv_aload_n hx hcd dX7_change_42 rfl (lv_at hl 0 rfl) ?_
    refine g_getr hC hW (C := RX7) (T := TX7) (N := 19) (ci := 9) (k := 5) (index := 22) (i := 132) (r := 137) inGX7 rfl (by decide) fl_X7_22 (by decide) rfl rfl dX7_change_43 ?_
    refine lv_sipush (v := 162) hx hcd dX7_change_46 (by decide) ?_
    refine lv_aload_n hx hcd dX7_change_49 rfl (lv_at hl 0 rfl) ?_
    refine g_geti hC hW (C := RX7) (T := TX7) (N := 19) (ci := 9) (k := 6) (index := 55) (i := 132) inGX7 rfl (by decide) fl_X7_55 (by decide) rfl rfl dX7_change_50 ?_
    refine lv_imul hx hcd dX7_change_53 ?_
    refine lv_sipush (v := 162) hx hcd dX7_change_54 (by decide) ?_
    obtain ⟨i7, ho⟩ := gd_some ho
    obtain ⟨σ8, eσ8, ho⟩ := lt_ex ho
    refine g_copy hC hW hl.1 ml_X7_58 (i0 := 135) (i1 := 137) (n0 := 162) (n1 := 972) (by decide) (by decide) rfl rfl i7 ac_w ⟨Nat.le_of_ble_eq_true rfl, Nat.le_of_ble_eq_true rfl⟩ dX7_change_57 (fun H locs hW => ?_)
    rw [← eσ8] at hW
    refine lv_aload_n hx hcd dX7_change_60 rfl (lv_at hl 0 rfl) ?_
    refine lv_dup hx hcd dX7_change_61 rfl ?_
    refine g_geti hC hW (C := RX7) (T := TX7) (N := 19) (ci := 9) (k := 6) (index := 55) (i := 132) inGX7 rfl (by decide) fl_X7_55 (by decide) rfl rfl dX7_change_62 ?_
    refine lv_iconst (v := 1) hx hcd dX7_change_65 (by decide) ?_
    refine lv_iadd hx hcd dX7_change_66 ?_
    obtain ⟨σ9, eσ9, ho⟩ := lt_ex ho
    refine g_puti hC hW (C := RX7) (T := TX7) (N := 19) (ci := 9) (k := 6) (index := 55) (i := 132) inGX7 tyX7 tyX7_ok nmX7 rfl (by decide) fl_X7_55 rfl (by decide) rfl rfl rfl rfl dX7_change_67 (fun H locs hW => ?_)
    rw [← eσ9] at hW
    obtain rfl := Option.some.inj ho
    exact g_vret hC hr hlk hsz hW dX7_change_70
noncomputable def X7_changes (σ : gS) : Option (gS) :=
  (X7_keepState σ).bind fun σ2 => (X7_change σ2).bind fun σ4 => some σ4
set_option maxHeartbeats 4000000 in
set_option maxRecDepth 100000 in
theorem c_X7_changes (l : Launch) (D : va_G) (y : ClassId × ClassId × ClassId) (ad : Nat → Nat) (σ : gS) (sz : Nat) {q : gS} (h : X7_changes σ = some q) : Met l yX7_changes (Cond.code yX7_changes cX7_changes 1 none :: gl) ({ frames := 2, cells := 0, slots := 0, locals := 60 }) (g_Pc D y ad σ sz [.ref (ad 132)]) (g_Qv D y ad q sz) 0 0 (g_A ad sz) := by
  have ho := h
  unfold X7_changes at ho
  refine g_start (by decide) (Nat.le_of_ble_eq_true rfl) (fun p e s m below meth c ls hC hr hlk hsz hW hl => ?_)
  have hx := hC.1
  have hcd := hC.2.1
  have hl : lv_has ls 1 [(0, .ref (ad 132))] := hl
  refine lv_aload_n hx hcd dX7_changes_0 rfl (lv_at hl 0 rfl) ?_
  obtain ⟨σ2, h1, ho⟩ := gb_some ho
  refine g_callv hW (g_runV (As := []) (rest := []) (i := 132) hC hW (c_X7_keepState l D y ad _ _ h1) ok_X7_64 ⟨rfl, rfl, Nat.le_of_ble_eq_true rfl, Nat.le_of_ble_eq_true rfl⟩ (by decide) rfl rfl rfl rfl hl.1 rfl (Nat.le_of_ble_eq_true rfl) dX7_changes_1 ⟨Nat.zero_le _, Nat.zero_le _⟩) (fun H locs hW => ?_)
  refine lv_aload_n hx hcd dX7_changes_4 rfl (lv_at hl 0 rfl) ?_
  obtain ⟨σ4, h3, ho⟩ := gb_some ho
  refine g_callv hW (g_runV (As := []) (rest := []) (i := 132) hC hW (c_X7_change l D y ad _ _ h3) ok_X7_67 ⟨rfl, rfl, Nat.le_of_ble_eq_true rfl, Nat.le_of_ble_eq_true rfl⟩ (by decide) rfl rfl rfl rfl hl.1 rfl (Nat.le_of_ble_eq_true rfl) dX7_changes_5 ⟨Nat.zero_le _, Nat.zero_le _⟩) (fun H locs hW => ?_)
  obtain rfl := Option.some.inj ho
  exact g_vret hC hr hlk hsz hW dX7_changes_8
noncomputable def X7_clear (σ : gS) : Option (Int32 × gS) :=
  lt_ (g_up σ 132 8 0) fun σ1 => (X7_begin σ1).bind fun σ3 => some ((σ1 133 (1 : Int32).toNatClampNeg), σ3)
set_option maxHeartbeats 4000000 in
set_option maxRecDepth 100000 in
theorem c_X7_clear (l : Launch) (D : va_G) (y : ClassId × ClassId × ClassId) (ad : Nat → Nat) (σ : gS) (sz : Nat) {q : Int32 × gS} (h : X7_clear σ = some q) : Met l yX7_clear (Cond.code yX7_clear cX7_clear 2 (some .int) :: gl) ({ frames := 2, cells := 0, slots := 0, locals := 43 }) (g_Pc D y ad σ sz [.ref (ad 132)]) (g_Qi D y ad q.2 sz q.1) 0 0 (g_A ad sz) := by
  have ho := h
  unfold X7_clear at ho
  refine g_start (by decide) (Nat.le_of_ble_eq_true rfl) (fun p e s m below meth c ls hC hr hlk hsz hW hl => ?_)
  have hx := hC.1
  have hcd := hC.2.1
  have hl : lv_has ls 2 [(0, .ref (ad 132))] := hl
  refine lv_aload_n hx hcd dX7_clear_0 rfl (lv_at hl 0 rfl) ?_
  refine lv_iconst (v := 0) hx hcd dX7_clear_1 (by decide) ?_
  obtain ⟨σ1, eσ1, ho⟩ := lt_ex ho
  refine g_puti hC hW (C := RX7) (T := TX7) (N := 19) (ci := 9) (k := 8) (index := 48) (i := 132) inGX7 tyX7 tyX7_ok nmX7 rfl (by decide) fl_X7_48 rfl (by decide) rfl rfl rfl rfl dX7_clear_2 (fun H locs hW => ?_)
  rw [← eσ1] at hW
  refine lv_aload_n hx hcd dX7_clear_5 rfl (lv_at hl 0 rfl) ?_
  refine g_getr hC hW (C := RX7) (T := TX7) (N := 19) (ci := 9) (k := 0) (index := 9) (i := 132) (r := 133) inGX7 rfl (by decide) fl_X7_9 (by decide) rfl rfl dX7_clear_6 ?_
  refine lv_iconst (v := 1) hx hcd dX7_clear_9 (by decide) ?_
  refine g_iald hC hW (i := 133) (by decide) rfl (by decide) dX7_clear_10 ?_
  refine lv_istore_n (lv' := [(1, .int (σ1 133 (1 : Int32).toNatClampNeg)), (0, .ref (ad 132))]) hx hcd dX7_clear_11 rfl hl (by decide) rfl (fun ls hl => ?_)
  refine lv_aload_n hx hcd dX7_clear_12 rfl (lv_at hl 1 rfl) ?_
  obtain ⟨σ3, h2, ho⟩ := gb_some ho
  refine g_callv hW (g_runV (As := []) (rest := []) (i := 132) hC hW (c_X7_begin l D y ad _ _ h2) ok_X7_45 ⟨rfl, rfl, Nat.le_of_ble_eq_true rfl, Nat.le_of_ble_eq_true rfl⟩ (by decide) rfl rfl rfl rfl hl.1 rfl (Nat.le_of_ble_eq_true rfl) dX7_clear_13 ⟨Nat.zero_le _, Nat.zero_le _⟩) (fun H locs hW => ?_)
  refine lv_iload_n hx hcd dX7_clear_16 rfl (lv_at hl 0 rfl) ?_
  obtain rfl := Option.some.inj ho
  exact g_iret hC hr hlk hsz hW dX7_clear_17
noncomputable def X7_isStand (σ : gS) (x1 : Int32) : Option (Int32) :=
  (X7_in σ x1 0 ((σ 133 (0 : Int32).toNatClampNeg) - (1 : Int32))).bind fun r2 => gd (bz r2) <| some r2
set_option maxHeartbeats 4000000 in
set_option maxRecDepth 100000 in
theorem c_X7_isStand (l : Launch) (D : va_G) (y : ClassId × ClassId × ClassId) (ad : Nat → Nat) (x1 : Int32) (σ : gS) (sz : Nat) {q : Int32} (h : X7_isStand σ x1 = some q) : Met l yX7_isStand (Cond.code yX7_isStand cX7_isStand 2 (some .boolean) :: gl) ({ frames := 1, cells := 0, slots := 0, locals := 22 }) (g_Pc D y ad σ sz [.ref (ad 132), .int x1]) (g_Qi D y ad σ sz q) 0 0 (g_A ad sz) := by
  have ho := h
  unfold X7_isStand at ho
  refine g_start (by decide) (Nat.le_of_ble_eq_true rfl) (fun p e s m below meth c ls hC hr hlk hsz hW hl => ?_)
  have hx := hC.1
  have hcd := hC.2.1
  have hl : lv_has ls 2 [(0, .ref (ad 132)), (1, .int x1)] := hl
  refine lv_iload_n hx hcd dX7_isStand_0 rfl (lv_at hl 1 rfl) ?_
  refine lv_iconst (v := 0) hx hcd dX7_isStand_1 (by decide) ?_
  refine lv_aload_n hx hcd dX7_isStand_2 rfl (lv_at hl 0 rfl) ?_
  refine g_getr hC hW (C := RX7) (T := TX7) (N := 19) (ci := 9) (k := 0) (index := 9) (i := 132) (r := 133) inGX7 rfl (by decide) fl_X7_9 (by decide) rfl rfl dX7_isStand_3 ?_
  refine lv_iconst (v := 0) hx hcd dX7_isStand_6 (by decide) ?_
  refine g_iald hC hW (i := 133) (by decide) rfl (by decide) dX7_isStand_7 ?_
  refine lv_iconst (v := 1) hx hcd dX7_isStand_8 (by decide) ?_
  refine lv_isub hx hcd dX7_isStand_9 ?_
  obtain ⟨r2, h1, ho⟩ := gb_some ho
  refine g_calli hW (g_runS (As := [.int x1, .int 0, .int ((σ 133 (0 : Int32).toNatClampNeg) - (1 : Int32))]) (rest := []) hC hW (c_X7_in l D y ad x1 0 ((σ 133 (0 : Int32).toNatClampNeg) - (1 : Int32)) _ _ h1) ok_X7_51 ⟨rfl, rfl, Nat.le_of_ble_eq_true rfl, Nat.le_of_ble_eq_true rfl⟩ rfl hl.1 rfl (Nat.le_of_ble_eq_true rfl) dX7_isStand_10 ⟨Nat.zero_le _, Nat.zero_le _⟩) (fun H locs hW => ?_)
  obtain ⟨z3, ho⟩ := gd_some ho
  obtain rfl := Option.some.inj ho
  exact g_zret (r := r2) hC hr hlk hsz hW z3 dX7_isStand_13
noncomputable def X7_limit (σ : gS) (x1 : Int32) (x2 : Int32) : Option (Int32) :=
  gd (ib (((28 : Int32) + ((8 : Int32) * x1)) + x2) 162) <| some (σ 133 (((28 : Int32) + ((8 : Int32) * x1)) + x2).toNatClampNeg)
set_option maxHeartbeats 4000000 in
set_option maxRecDepth 100000 in
theorem c_X7_limit (l : Launch) (D : va_G) (y : ClassId × ClassId × ClassId) (ad : Nat → Nat) (x1 : Int32) (x2 : Int32) (σ : gS) (sz : Nat) {q : Int32} (h : X7_limit σ x1 x2 = some q) : Met l yX7_limit (Cond.code yX7_limit cX7_limit 3 (some .int) :: gl) ({ frames := 0, cells := 0, slots := 0, locals := 0 }) (g_Pc D y ad σ sz [.ref (ad 132), .int x1, .int x2]) (g_Qi D y ad σ sz q) 0 0 (g_A ad sz) := by
  have ho := h
  unfold X7_limit at ho
  refine g_start (by decide) (Nat.le_of_ble_eq_true rfl) (fun p e s m below meth c ls hC hr hlk hsz hW hl => ?_)
  have hx := hC.1
  have hcd := hC.2.1
  have hl : lv_has ls 3 [(0, .ref (ad 132)), (1, .int x1), (2, .int x2)] := hl
  refine lv_aload_n hx hcd dX7_limit_0 rfl (lv_at hl 0 rfl) ?_
  refine g_getr hC hW (C := RX7) (T := TX7) (N := 19) (ci := 9) (k := 0) (index := 9) (i := 132) (r := 133) inGX7 rfl (by decide) fl_X7_9 (by decide) rfl rfl dX7_limit_1 ?_
  refine lv_bipush (v := 28) hx hcd dX7_limit_4 (by decide) ?_
  refine lv_bipush (v := 8) hx hcd dX7_limit_6 (by decide) ?_
  refine lv_iload_n hx hcd dX7_limit_8 rfl (lv_at hl 1 rfl) ?_
  refine lv_imul hx hcd dX7_limit_9 ?_
  refine lv_iadd hx hcd dX7_limit_10 ?_
  refine lv_iload_n hx hcd dX7_limit_11 rfl (lv_at hl 2 rfl) ?_
  refine lv_iadd hx hcd dX7_limit_12 ?_
  obtain ⟨i1, ho⟩ := gd_some ho
  refine g_iald hC hW (i := 133) (by decide) rfl i1 dX7_limit_13 ?_
  obtain rfl := Option.some.inj ho
  exact g_iret hC hr hlk hsz hW dX7_limit_14
noncomputable def X7_addStand (σ : gS) (x1 : Int32) (x2 : Int32) : Option (Int32 × gS) :=
  (X7_in σ x1 0 2).bind fun r2 => if r2 = 0 then (lt_ (g_up σ 132 8 1) fun σ4 => if (σ4 132 8) ≤ 0 then ((X7_changes σ4).bind fun σ7 => gd (ib ((4 : Int32) + (σ7 133 (0 : Int32).toNatClampNeg)) 162) <| lt_ (g_up σ7 133 ((4 : Int32) + (σ7 133 (0 : Int32).toNatClampNeg)).toNatClampNeg x1) fun σ9 => gd (ib ((12 : Int32) + (σ7 133 (0 : Int32).toNatClampNeg)) 162) <| lt_ (g_up σ9 133 ((12 : Int32) + (σ7 133 (0 : Int32).toNatClampNeg)).toNatClampNeg x2) fun σ11 => gd (ib ((20 : Int32) + (σ7 133 (0 : Int32).toNatClampNeg)) 162) <| lt_ (g_up σ11 133 ((20 : Int32) + (σ7 133 (0 : Int32).toNatClampNeg)).toNatClampNeg 1) fun σ13 => lt_ (g_up σ13 133 (0 : Int32).toNatClampNeg ((σ13 133 (0 : Int32).toNatClampNeg) + (1 : Int32))) fun σ14 => some ((σ7 133 (0 : Int32).toNatClampNeg), σ14)) else (some (0, σ4))) else ((X7_in σ x2 0 3).bind fun r16 => if r16 = 0 then (lt_ (g_up σ 132 8 1) fun σ41 => if (σ41 132 8) ≤ 0 then ((X7_changes σ41).bind fun σ44 => gd (ib ((4 : Int32) + (σ44 133 (0 : Int32).toNatClampNeg)) 162) <| lt_ (g_up σ44 133 ((4 : Int32) + (σ44 133 (0 : Int32).toNatClampNeg)).toNatClampNeg x1) fun σ46 => gd (ib ((12 : Int32) + (σ44 133 (0 : Int32).toNatClampNeg)) 162) <| lt_ (g_up σ46 133 ((12 : Int32) + (σ44 133 (0 : Int32).toNatClampNeg)).toNatClampNeg x2) fun σ48 => gd (ib ((20 : Int32) + (σ44 133 (0 : Int32).toNatClampNeg)) 162) <| lt_ (g_up σ48 133 ((20 : Int32) + (σ44 133 (0 : Int32).toNatClampNeg)).toNatClampNeg 1) fun σ50 => lt_ (g_up σ50 133 (0 : Int32).toNatClampNeg ((σ50 133 (0 : Int32).toNatClampNeg) + (1 : Int32))) fun σ51 => some ((σ44 133 (0 : Int32).toNatClampNeg), σ51)) else (some (0, σ41))) else (if (σ 133 (0 : Int32).toNatClampNeg) = 8 then (lt_ (g_up σ 132 8 2) fun σ30 => if (σ30 132 8) ≤ 0 then ((X7_changes σ30).bind fun σ33 => gd (ib ((4 : Int32) + (σ33 133 (0 : Int32).toNatClampNeg)) 162) <| lt_ (g_up σ33 133 ((4 : Int32) + (σ33 133 (0 : Int32).toNatClampNeg)).toNatClampNeg x1) fun σ35 => gd (ib ((12 : Int32) + (σ33 133 (0 : Int32).toNatClampNeg)) 162) <| lt_ (g_up σ35 133 ((12 : Int32) + (σ33 133 (0 : Int32).toNatClampNeg)).toNatClampNeg x2) fun σ37 => gd (ib ((20 : Int32) + (σ33 133 (0 : Int32).toNatClampNeg)) 162) <| lt_ (g_up σ37 133 ((20 : Int32) + (σ33 133 (0 : Int32).toNatClampNeg)).toNatClampNeg 1) fun σ39 => lt_ (g_up σ39 133 (0 : Int32).toNatClampNeg ((σ39 133 (0 : Int32).toNatClampNeg) + (1 : Int32))) fun σ40 => some ((σ33 133 (0 : Int32).toNatClampNeg), σ40)) else (some (0, σ30))) else (lt_ (g_up σ 132 8 0) fun σ19 => if (σ19 132 8) ≤ 0 then ((X7_changes σ19).bind fun σ22 => gd (ib ((4 : Int32) + (σ22 133 (0 : Int32).toNatClampNeg)) 162) <| lt_ (g_up σ22 133 ((4 : Int32) + (σ22 133 (0 : Int32).toNatClampNeg)).toNatClampNeg x1) fun σ24 => gd (ib ((12 : Int32) + (σ22 133 (0 : Int32).toNatClampNeg)) 162) <| lt_ (g_up σ24 133 ((12 : Int32) + (σ22 133 (0 : Int32).toNatClampNeg)).toNatClampNeg x2) fun σ26 => gd (ib ((20 : Int32) + (σ22 133 (0 : Int32).toNatClampNeg)) 162) <| lt_ (g_up σ26 133 ((20 : Int32) + (σ22 133 (0 : Int32).toNatClampNeg)).toNatClampNeg 1) fun σ28 => lt_ (g_up σ28 133 (0 : Int32).toNatClampNeg ((σ28 133 (0 : Int32).toNatClampNeg) + (1 : Int32))) fun σ29 => some ((σ22 133 (0 : Int32).toNatClampNeg), σ29)) else (some (0, σ19)))))
set_option maxHeartbeats 4000000 in
set_option maxRecDepth 100000 in
theorem c_X7_addStand (l : Launch) (D : va_G) (y : ClassId × ClassId × ClassId) (ad : Nat → Nat) (x1 : Int32) (x2 : Int32) (σ : gS) (sz : Nat) {q : Int32 × gS} (h : X7_addStand σ x1 x2 = some q) : Met l yX7_addStand (Cond.code yX7_addStand cX7_addStand 4 (some .int) :: gl) ({ frames := 3, cells := 0, slots := 0, locals := 80 }) (g_Pc D y ad σ sz [.ref (ad 132), .int x1, .int x2]) (g_Qi D y ad q.2 sz q.1) 0 0 (g_A ad sz) := by
  have ho := h
  unfold X7_addStand at ho
  refine g_start (by decide) (Nat.le_of_ble_eq_true rfl) (fun p e s m below meth c ls hC hr hlk hsz hW hl => ?_)
  have hx := hC.1
  have hcd := hC.2.1
  have hl : lv_has ls 4 [(0, .ref (ad 132)), (1, .int x1), (2, .int x2)] := hl
  refine lv_aload_n hx hcd dX7_addStand_0 rfl (lv_at hl 0 rfl) ?_
  refine lv_iload_n hx hcd dX7_addStand_1 rfl (lv_at hl 1 rfl) ?_
  refine lv_iconst (v := 0) hx hcd dX7_addStand_2 (by decide) ?_
  refine lv_iconst (v := 2) hx hcd dX7_addStand_3 (by decide) ?_
  obtain ⟨r2, h1, ho⟩ := gb_some ho
  refine g_calli hW (g_runS (As := [.int x1, .int 0, .int 2]) (rest := [.ref (ad 132)]) hC hW (c_X7_in l D y ad x1 0 2 _ _ h1) ok_X7_51 ⟨rfl, rfl, Nat.le_of_ble_eq_true rfl, Nat.le_of_ble_eq_true rfl⟩ rfl hl.1 rfl (Nat.le_of_ble_eq_true rfl) dX7_addStand_4 ⟨Nat.zero_le _, Nat.zero_le _⟩) (fun H locs hW => ?_)
  refine lv_if_eq (tgt := 19) hx hcd dX7_addStand_7 (by decide) (fun c3 => ?_) (fun c3 => ?_)
  · have ho := gif_p ho c3
    refine lv_iconst (v := 1) hx hcd dX7_addStand_19 (by decide) ?_
    refine lv_goto (tgt := 39) hx hcd dX7_addStand_20 (by decide) ?_
    obtain ⟨σ4, eσ4, ho⟩ := lt_ex ho
    refine g_puti hC hW (C := RX7) (T := TX7) (N := 19) (ci := 9) (k := 8) (index := 48) (i := 132) inGX7 tyX7 tyX7_ok nmX7 rfl (by decide) fl_X7_48 rfl (by decide) rfl rfl rfl rfl dX7_addStand_39 (fun H locs hW => ?_)
    rw [← eσ4] at hW
    refine lv_aload_n hx hcd dX7_addStand_42 rfl (lv_at hl 0 rfl) ?_
    refine g_geti hC hW (C := RX7) (T := TX7) (N := 19) (ci := 9) (k := 8) (index := 48) (i := 132) inGX7 rfl (by decide) fl_X7_48 (by decide) rfl rfl dX7_addStand_43 ?_
    refine lv_if_le (tgt := 51) hx hcd dX7_addStand_46 (by decide) (fun c5 => ?_) (fun c5 => ?_)
    · have ho := gif_p ho c5
      refine lv_aload_n hx hcd dX7_addStand_51 rfl (lv_at hl 0 rfl) ?_
      obtain ⟨σ7, h6, ho⟩ := gb_some ho
      refine g_callv hW (g_runV (As := []) (rest := []) (i := 132) hC hW (c_X7_changes l D y ad _ _ h6) ok_X7_70 ⟨rfl, rfl, Nat.le_of_ble_eq_true rfl, Nat.le_of_ble_eq_true rfl⟩ (by decide) rfl rfl rfl rfl hl.1 rfl (Nat.le_of_ble_eq_true rfl) dX7_addStand_52 ⟨Nat.zero_le _, Nat.zero_le _⟩) (fun H locs hW => ?_)
      refine lv_aload_n hx hcd dX7_addStand_55 rfl (lv_at hl 0 rfl) ?_
      refine g_getr hC hW (C := RX7) (T := TX7) (N := 19) (ci := 9) (k := 0) (index := 9) (i := 132) (r := 133) inGX7 rfl (by decide) fl_X7_9 (by decide) rfl rfl dX7_addStand_56 ?_
      refine lv_iconst (v := 0) hx hcd dX7_addStand_59 (by decide) ?_
      refine g_iald hC hW (i := 133) (by decide) rfl (by decide) dX7_addStand_60 ?_
      refine lv_istore_n (lv' := [(3, .int (σ7 133 (0 : Int32).toNatClampNeg)), (0, .ref (ad 132)), (1, .int x1), (2, .int x2)]) hx hcd dX7_addStand_61 rfl hl (by decide) rfl (fun ls hl => ?_)
      refine lv_aload_n hx hcd dX7_addStand_62 rfl (lv_at hl 1 rfl) ?_
      refine g_getr hC hW (C := RX7) (T := TX7) (N := 19) (ci := 9) (k := 0) (index := 9) (i := 132) (r := 133) inGX7 rfl (by decide) fl_X7_9 (by decide) rfl rfl dX7_addStand_63 ?_
      refine lv_iconst (v := 4) hx hcd dX7_addStand_66 (by decide) ?_
      refine lv_iload_n hx hcd dX7_addStand_67 rfl (lv_at hl 0 rfl) ?_
      refine lv_iadd hx hcd dX7_addStand_68 ?_
      refine lv_iload_n hx hcd dX7_addStand_69 rfl (lv_at hl 2 rfl) ?_
      obtain ⟨i8, ho⟩ := gd_some ho
      obtain ⟨σ9, eσ9, ho⟩ := lt_ex ho
      refine g_iast hC hW (i := 133) (by decide) rfl i8 dX7_addStand_70 (fun H locs hW => ?_)
      rw [← eσ9] at hW
      refine lv_aload_n hx hcd dX7_addStand_71 rfl (lv_at hl 1 rfl) ?_
      refine g_getr hC hW (C := RX7) (T := TX7) (N := 19) (ci := 9) (k := 0) (index := 9) (i := 132) (r := 133) inGX7 rfl (by decide) fl_X7_9 (by decide) rfl rfl dX7_addStand_72 ?_
      refine lv_bipush (v := 12) hx hcd dX7_addStand_75 (by decide) ?_
      refine lv_iload_n hx hcd dX7_addStand_77 rfl (lv_at hl 0 rfl) ?_
      refine lv_iadd hx hcd dX7_addStand_78 ?_
      refine lv_iload_n hx hcd dX7_addStand_79 rfl (lv_at hl 3 rfl) ?_
      obtain ⟨i10, ho⟩ := gd_some ho
      obtain ⟨σ11, eσ11, ho⟩ := lt_ex ho
      refine g_iast hC hW (i := 133) (by decide) rfl i10 dX7_addStand_80 (fun H locs hW => ?_)
      rw [← eσ11] at hW
      refine lv_aload_n hx hcd dX7_addStand_81 rfl (lv_at hl 1 rfl) ?_
      refine g_getr hC hW (C := RX7) (T := TX7) (N := 19) (ci := 9) (k := 0) (index := 9) (i := 132) (r := 133) inGX7 rfl (by decide) fl_X7_9 (by decide) rfl rfl dX7_addStand_82 ?_
      refine lv_bipush (v := 20) hx hcd dX7_addStand_85 (by decide) ?_
      refine lv_iload_n hx hcd dX7_addStand_87 rfl (lv_at hl 0 rfl) ?_
      refine lv_iadd hx hcd dX7_addStand_88 ?_
      refine lv_iconst (v := 1) hx hcd dX7_addStand_89 (by decide) ?_
      obtain ⟨i12, ho⟩ := gd_some ho
      obtain ⟨σ13, eσ13, ho⟩ := lt_ex ho
      refine g_iast hC hW (i := 133) (by decide) rfl i12 dX7_addStand_90 (fun H locs hW => ?_)
      rw [← eσ13] at hW
      refine lv_aload_n hx hcd dX7_addStand_91 rfl (lv_at hl 1 rfl) ?_
      refine g_getr hC hW (C := RX7) (T := TX7) (N := 19) (ci := 9) (k := 0) (index := 9) (i := 132) (r := 133) inGX7 rfl (by decide) fl_X7_9 (by decide) rfl rfl dX7_addStand_92 ?_
      refine lv_iconst (v := 0) hx hcd dX7_addStand_95 (by decide) ?_
      refine lv_dup2_11 hx hcd dX7_addStand_96 rfl rfl ?_
      refine g_iald hC hW (i := 133) (by decide) rfl (by decide) dX7_addStand_97 ?_
      refine lv_iconst (v := 1) hx hcd dX7_addStand_98 (by decide) ?_
      refine lv_iadd hx hcd dX7_addStand_99 ?_
      obtain ⟨σ14, eσ14, ho⟩ := lt_ex ho
      refine g_iast hC hW (i := 133) (by decide) rfl (by decide) dX7_addStand_100 (fun H locs hW => ?_)
      rw [← eσ14] at hW
      refine lv_iload_n hx hcd dX7_addStand_101 rfl (lv_at hl 0 rfl) ?_
      obtain rfl := Option.some.inj ho
      exact g_iret hC hr hlk hsz hW dX7_addStand_102
    · have ho := gif_n ho c5
      refine lv_iconst (v := 0) hx hcd dX7_addStand_49 (by decide) ?_
      obtain rfl := Option.some.inj ho
      exact g_iret hC hr hlk hsz hW dX7_addStand_50
  · have ho := gif_n ho c3
    refine lv_iload_n hx hcd dX7_addStand_10 rfl (lv_at hl 2 rfl) ?_
    refine lv_iconst (v := 0) hx hcd dX7_addStand_11 (by decide) ?_
    refine lv_iconst (v := 3) hx hcd dX7_addStand_12 (by decide) ?_
    obtain ⟨r16, h15, ho⟩ := gb_some ho
    refine g_calli hW (g_runS (As := [.int x2, .int 0, .int 3]) (rest := [.ref (ad 132)]) hC hW (c_X7_in l D y ad x2 0 3 _ _ h15) ok_X7_51 ⟨rfl, rfl, Nat.le_of_ble_eq_true rfl, Nat.le_of_ble_eq_true rfl⟩ rfl hl.1 rfl (Nat.le_of_ble_eq_true rfl) dX7_addStand_13 ⟨Nat.zero_le _, Nat.zero_le _⟩) (fun H locs hW => ?_)
    refine lv_if_ne (tgt := 23) hx hcd dX7_addStand_16 (by decide) (fun c17 => ?_) (fun c17 => ?_)
    · have ho := gif_n ho c17
      refine lv_aload_n hx hcd dX7_addStand_23 rfl (lv_at hl 0 rfl) ?_
      refine g_getr hC hW (C := RX7) (T := TX7) (N := 19) (ci := 9) (k := 0) (index := 9) (i := 132) (r := 133) inGX7 rfl (by decide) fl_X7_9 (by decide) rfl rfl dX7_addStand_24 ?_
      refine lv_iconst (v := 0) hx hcd dX7_addStand_27 (by decide) ?_
      refine g_iald hC hW (i := 133) (by decide) rfl (by decide) dX7_addStand_28 ?_
      refine lv_bipush (v := 8) hx hcd dX7_addStand_29 (by decide) ?_
      refine lv_icmp_ne (tgt := 38) hx hcd dX7_addStand_31 (by decide) (fun c18 => ?_) (fun c18 => ?_)
      · have ho := gif_n ho c18
        refine lv_iconst (v := 0) hx hcd dX7_addStand_38 (by decide) ?_
        obtain ⟨σ19, eσ19, ho⟩ := lt_ex ho
        refine g_puti hC hW (C := RX7) (T := TX7) (N := 19) (ci := 9) (k := 8) (index := 48) (i := 132) inGX7 tyX7 tyX7_ok nmX7 rfl (by decide) fl_X7_48 rfl (by decide) rfl rfl rfl rfl dX7_addStand_39 (fun H locs hW => ?_)
        rw [← eσ19] at hW
        refine lv_aload_n hx hcd dX7_addStand_42 rfl (lv_at hl 0 rfl) ?_
        refine g_geti hC hW (C := RX7) (T := TX7) (N := 19) (ci := 9) (k := 8) (index := 48) (i := 132) inGX7 rfl (by decide) fl_X7_48 (by decide) rfl rfl dX7_addStand_43 ?_
        refine lv_if_le (tgt := 51) hx hcd dX7_addStand_46 (by decide) (fun c20 => ?_) (fun c20 => ?_)
        · have ho := gif_p ho c20
          refine lv_aload_n hx hcd dX7_addStand_51 rfl (lv_at hl 0 rfl) ?_
          obtain ⟨σ22, h21, ho⟩ := gb_some ho
          refine g_callv hW (g_runV (As := []) (rest := []) (i := 132) hC hW (c_X7_changes l D y ad _ _ h21) ok_X7_70 ⟨rfl, rfl, Nat.le_of_ble_eq_true rfl, Nat.le_of_ble_eq_true rfl⟩ (by decide) rfl rfl rfl rfl hl.1 rfl (Nat.le_of_ble_eq_true rfl) dX7_addStand_52 ⟨Nat.zero_le _, Nat.zero_le _⟩) (fun H locs hW => ?_)
          refine lv_aload_n hx hcd dX7_addStand_55 rfl (lv_at hl 0 rfl) ?_
          refine g_getr hC hW (C := RX7) (T := TX7) (N := 19) (ci := 9) (k := 0) (index := 9) (i := 132) (r := 133) inGX7 rfl (by decide) fl_X7_9 (by decide) rfl rfl dX7_addStand_56 ?_
          refine lv_iconst (v := 0) hx hcd dX7_addStand_59 (by decide) ?_
          refine g_iald hC hW (i := 133) (by decide) rfl (by decide) dX7_addStand_60 ?_
          refine lv_istore_n (lv' := [(3, .int (σ22 133 (0 : Int32).toNatClampNeg)), (0, .ref (ad 132)), (1, .int x1), (2, .int x2)]) hx hcd dX7_addStand_61 rfl hl (by decide) rfl (fun ls hl => ?_)
          refine lv_aload_n hx hcd dX7_addStand_62 rfl (lv_at hl 1 rfl) ?_
          refine g_getr hC hW (C := RX7) (T := TX7) (N := 19) (ci := 9) (k := 0) (index := 9) (i := 132) (r := 133) inGX7 rfl (by decide) fl_X7_9 (by decide) rfl rfl dX7_addStand_63 ?_
          refine lv_iconst (v := 4) hx hcd dX7_addStand_66 (by decide) ?_
          refine lv_iload_n hx hcd dX7_addStand_67 rfl (lv_at hl 0 rfl) ?_
          refine lv_iadd hx hcd dX7_addStand_68 ?_
          refine lv_iload_n hx hcd dX7_addStand_69 rfl (lv_at hl 2 rfl) ?_
          obtain ⟨i23, ho⟩ := gd_some ho
          obtain ⟨σ24, eσ24, ho⟩ := lt_ex ho
          refine g_iast hC hW (i := 133) (by decide) rfl i23 dX7_addStand_70 (fun H locs hW => ?_)
          rw [← eσ24] at hW
          refine lv_aload_n hx hcd dX7_addStand_71 rfl (lv_at hl 1 rfl) ?_
          refine g_getr hC hW (C := RX7) (T := TX7) (N := 19) (ci := 9) (k := 0) (index := 9) (i := 132) (r := 133) inGX7 rfl (by decide) fl_X7_9 (by decide) rfl rfl dX7_addStand_72 ?_
          refine lv_bipush (v := 12) hx hcd dX7_addStand_75 (by decide) ?_
          refine lv_iload_n hx hcd dX7_addStand_77 rfl (lv_at hl 0 rfl) ?_
          refine lv_iadd hx hcd dX7_addStand_78 ?_
          refine lv_iload_n hx hcd dX7_addStand_79 rfl (lv_at hl 3 rfl) ?_
          obtain ⟨i25, ho⟩ := gd_some ho
          obtain ⟨σ26, eσ26, ho⟩ := lt_ex ho
          refine g_iast hC hW (i := 133) (by decide) rfl i25 dX7_addStand_80 (fun H locs hW => ?_)
          rw [← eσ26] at hW
          refine lv_aload_n hx hcd dX7_addStand_81 rfl (lv_at hl 1 rfl) ?_
          refine g_getr hC hW (C := RX7) (T := TX7) (N := 19) (ci := 9) (k := 0) (index := 9) (i := 132) (r := 133) inGX7 rfl (by decide) fl_X7_9 (by decide) rfl rfl dX7_addStand_82 ?_
          refine lv_bipush (v := 20) hx hcd dX7_addStand_85 (by decide) ?_
          refine lv_iload_n hx hcd dX7_addStand_87 rfl (lv_at hl 0 rfl) ?_
          refine lv_iadd hx hcd dX7_addStand_88 ?_
          refine lv_iconst (v := 1) hx hcd dX7_addStand_89 (by decide) ?_
          obtain ⟨i27, ho⟩ := gd_some ho
          obtain ⟨σ28, eσ28, ho⟩ := lt_ex ho
          refine g_iast hC hW (i := 133) (by decide) rfl i27 dX7_addStand_90 (fun H locs hW => ?_)
          rw [← eσ28] at hW
          refine lv_aload_n hx hcd dX7_addStand_91 rfl (lv_at hl 1 rfl) ?_
          refine g_getr hC hW (C := RX7) (T := TX7) (N := 19) (ci := 9) (k := 0) (index := 9) (i := 132) (r := 133) inGX7 rfl (by decide) fl_X7_9 (by decide) rfl rfl dX7_addStand_92 ?_
          refine lv_iconst (v := 0) hx hcd dX7_addStand_95 (by decide) ?_
          refine lv_dup2_11 hx hcd dX7_addStand_96 rfl rfl ?_
          refine g_iald hC hW (i := 133) (by decide) rfl (by decide) dX7_addStand_97 ?_
          refine lv_iconst (v := 1) hx hcd dX7_addStand_98 (by decide) ?_
          refine lv_iadd hx hcd dX7_addStand_99 ?_
          obtain ⟨σ29, eσ29, ho⟩ := lt_ex ho
          refine g_iast hC hW (i := 133) (by decide) rfl (by decide) dX7_addStand_100 (fun H locs hW => ?_)
          rw [← eσ29] at hW
          refine lv_iload_n hx hcd dX7_addStand_101 rfl (lv_at hl 0 rfl) ?_
          obtain rfl := Option.some.inj ho
          exact g_iret hC hr hlk hsz hW dX7_addStand_102
        · have ho := gif_n ho c20
          refine lv_iconst (v := 0) hx hcd dX7_addStand_49 (by decide) ?_
          obtain rfl := Option.some.inj ho
          exact g_iret hC hr hlk hsz hW dX7_addStand_50
      · have ho := gif_p ho c18
        refine lv_iconst (v := 2) hx hcd dX7_addStand_34 (by decide) ?_
        refine lv_goto (tgt := 39) hx hcd dX7_addStand_35 (by decide) ?_
        obtain ⟨σ30, eσ30, ho⟩ := lt_ex ho
        refine g_puti hC hW (C := RX7) (T := TX7) (N := 19) (ci := 9) (k := 8) (index := 48) (i := 132) inGX7 tyX7 tyX7_ok nmX7 rfl (by decide) fl_X7_48 rfl (by decide) rfl rfl rfl rfl dX7_addStand_39 (fun H locs hW => ?_)
        rw [← eσ30] at hW
        refine lv_aload_n hx hcd dX7_addStand_42 rfl (lv_at hl 0 rfl) ?_
        refine g_geti hC hW (C := RX7) (T := TX7) (N := 19) (ci := 9) (k := 8) (index := 48) (i := 132) inGX7 rfl (by decide) fl_X7_48 (by decide) rfl rfl dX7_addStand_43 ?_
        refine lv_if_le (tgt := 51) hx hcd dX7_addStand_46 (by decide) (fun c31 => ?_) (fun c31 => ?_)
        · have ho := gif_p ho c31
          refine lv_aload_n hx hcd dX7_addStand_51 rfl (lv_at hl 0 rfl) ?_
          obtain ⟨σ33, h32, ho⟩ := gb_some ho
          refine g_callv hW (g_runV (As := []) (rest := []) (i := 132) hC hW (c_X7_changes l D y ad _ _ h32) ok_X7_70 ⟨rfl, rfl, Nat.le_of_ble_eq_true rfl, Nat.le_of_ble_eq_true rfl⟩ (by decide) rfl rfl rfl rfl hl.1 rfl (Nat.le_of_ble_eq_true rfl) dX7_addStand_52 ⟨Nat.zero_le _, Nat.zero_le _⟩) (fun H locs hW => ?_)
          refine lv_aload_n hx hcd dX7_addStand_55 rfl (lv_at hl 0 rfl) ?_
          refine g_getr hC hW (C := RX7) (T := TX7) (N := 19) (ci := 9) (k := 0) (index := 9) (i := 132) (r := 133) inGX7 rfl (by decide) fl_X7_9 (by decide) rfl rfl dX7_addStand_56 ?_
          refine lv_iconst (v := 0) hx hcd dX7_addStand_59 (by decide) ?_
          refine g_iald hC hW (i := 133) (by decide) rfl (by decide) dX7_addStand_60 ?_
          refine lv_istore_n (lv' := [(3, .int (σ33 133 (0 : Int32).toNatClampNeg)), (0, .ref (ad 132)), (1, .int x1), (2, .int x2)]) hx hcd dX7_addStand_61 rfl hl (by decide) rfl (fun ls hl => ?_)
          refine lv_aload_n hx hcd dX7_addStand_62 rfl (lv_at hl 1 rfl) ?_
          refine g_getr hC hW (C := RX7) (T := TX7) (N := 19) (ci := 9) (k := 0) (index := 9) (i := 132) (r := 133) inGX7 rfl (by decide) fl_X7_9 (by decide) rfl rfl dX7_addStand_63 ?_
          refine lv_iconst (v := 4) hx hcd dX7_addStand_66 (by decide) ?_
          refine lv_iload_n hx hcd dX7_addStand_67 rfl (lv_at hl 0 rfl) ?_
          refine lv_iadd hx hcd dX7_addStand_68 ?_
          refine lv_iload_n hx hcd dX7_addStand_69 rfl (lv_at hl 2 rfl) ?_
          obtain ⟨i34, ho⟩ := gd_some ho
          obtain ⟨σ35, eσ35, ho⟩ := lt_ex ho
          refine g_iast hC hW (i := 133) (by decide) rfl i34 dX7_addStand_70 (fun H locs hW => ?_)
          rw [← eσ35] at hW
          refine lv_aload_n hx hcd dX7_addStand_71 rfl (lv_at hl 1 rfl) ?_
          refine g_getr hC hW (C := RX7) (T := TX7) (N := 19) (ci := 9) (k := 0) (index := 9) (i := 132) (r := 133) inGX7 rfl (by decide) fl_X7_9 (by decide) rfl rfl dX7_addStand_72 ?_
          refine lv_bipush (v := 12) hx hcd dX7_addStand_75 (by decide) ?_
          refine lv_iload_n hx hcd dX7_addStand_77 rfl (lv_at hl 0 rfl) ?_
          refine lv_iadd hx hcd dX7_addStand_78 ?_
          refine lv_iload_n hx hcd dX7_addStand_79 rfl (lv_at hl 3 rfl) ?_
          obtain ⟨i36, ho⟩ := gd_some ho
          obtain ⟨σ37, eσ37, ho⟩ := lt_ex ho
          refine g_iast hC hW (i := 133) (by decide) rfl i36 dX7_addStand_80 (fun H locs hW => ?_)
          rw [← eσ37] at hW
          refine lv_aload_n hx hcd dX7_addStand_81 rfl (lv_at hl 1 rfl) ?_
          refine g_getr hC hW (C := RX7) (T := TX7) (N := 19) (ci := 9) (k := 0) (index := 9) (i := 132) (r := 133) inGX7 rfl (by decide) fl_X7_9 (by decide) rfl rfl dX7_addStand_82 ?_
          refine lv_bipush (v := 20) hx hcd dX7_addStand_85 (by decide) ?_
          refine lv_iload_n hx hcd dX7_addStand_87 rfl (lv_at hl 0 rfl) ?_
          refine lv_iadd hx hcd dX7_addStand_88 ?_
          refine lv_iconst (v := 1) hx hcd dX7_addStand_89 (by decide) ?_
          obtain ⟨i38, ho⟩ := gd_some ho
          obtain ⟨σ39, eσ39, ho⟩ := lt_ex ho
          refine g_iast hC hW (i := 133) (by decide) rfl i38 dX7_addStand_90 (fun H locs hW => ?_)
          rw [← eσ39] at hW
          refine lv_aload_n hx hcd dX7_addStand_91 rfl (lv_at hl 1 rfl) ?_
          refine g_getr hC hW (C := RX7) (T := TX7) (N := 19) (ci := 9) (k := 0) (index := 9) (i := 132) (r := 133) inGX7 rfl (by decide) fl_X7_9 (by decide) rfl rfl dX7_addStand_92 ?_
          refine lv_iconst (v := 0) hx hcd dX7_addStand_95 (by decide) ?_
          refine lv_dup2_11 hx hcd dX7_addStand_96 rfl rfl ?_
          refine g_iald hC hW (i := 133) (by decide) rfl (by decide) dX7_addStand_97 ?_
          refine lv_iconst (v := 1) hx hcd dX7_addStand_98 (by decide) ?_
          refine lv_iadd hx hcd dX7_addStand_99 ?_
          obtain ⟨σ40, eσ40, ho⟩ := lt_ex ho
          refine g_iast hC hW (i := 133) (by decide) rfl (by decide) dX7_addStand_100 (fun H locs hW => ?_)
          rw [← eσ40] at hW
          refine lv_iload_n hx hcd dX7_addStand_101 rfl (lv_at hl 0 rfl) ?_
          obtain rfl := Option.some.inj ho
          exact g_iret hC hr hlk hsz hW dX7_addStand_102
        · have ho := gif_n ho c31
          refine lv_iconst (v := 0) hx hcd dX7_addStand_49 (by decide) ?_
          obtain rfl := Option.some.inj ho
          exact g_iret hC hr hlk hsz hW dX7_addStand_50
    · have ho := gif_p ho c17
      refine lv_iconst (v := 1) hx hcd dX7_addStand_19 (by decide) ?_
      refine lv_goto (tgt := 39) hx hcd dX7_addStand_20 (by decide) ?_
      obtain ⟨σ41, eσ41, ho⟩ := lt_ex ho
      refine g_puti hC hW (C := RX7) (T := TX7) (N := 19) (ci := 9) (k := 8) (index := 48) (i := 132) inGX7 tyX7 tyX7_ok nmX7 rfl (by decide) fl_X7_48 rfl (by decide) rfl rfl rfl rfl dX7_addStand_39 (fun H locs hW => ?_)
      rw [← eσ41] at hW
      refine lv_aload_n hx hcd dX7_addStand_42 rfl (lv_at hl 0 rfl) ?_
      refine g_geti hC hW (C := RX7) (T := TX7) (N := 19) (ci := 9) (k := 8) (index := 48) (i := 132) inGX7 rfl (by decide) fl_X7_48 (by decide) rfl rfl dX7_addStand_43 ?_
      refine lv_if_le (tgt := 51) hx hcd dX7_addStand_46 (by decide) (fun c42 => ?_) (fun c42 => ?_)
      · have ho := gif_p ho c42
        refine lv_aload_n hx hcd dX7_addStand_51 rfl (lv_at hl 0 rfl) ?_
        obtain ⟨σ44, h43, ho⟩ := gb_some ho
        refine g_callv hW (g_runV (As := []) (rest := []) (i := 132) hC hW (c_X7_changes l D y ad _ _ h43) ok_X7_70 ⟨rfl, rfl, Nat.le_of_ble_eq_true rfl, Nat.le_of_ble_eq_true rfl⟩ (by decide) rfl rfl rfl rfl hl.1 rfl (Nat.le_of_ble_eq_true rfl) dX7_addStand_52 ⟨Nat.zero_le _, Nat.zero_le _⟩) (fun H locs hW => ?_)
        refine lv_aload_n hx hcd dX7_addStand_55 rfl (lv_at hl 0 rfl) ?_
        refine g_getr hC hW (C := RX7) (T := TX7) (N := 19) (ci := 9) (k := 0) (index := 9) (i := 132) (r := 133) inGX7 rfl (by decide) fl_X7_9 (by decide) rfl rfl dX7_addStand_56 ?_
        refine lv_iconst (v := 0) hx hcd dX7_addStand_59 (by decide) ?_
        refine g_iald hC hW (i := 133) (by decide) rfl (by decide) dX7_addStand_60 ?_
        refine lv_istore_n (lv' := [(3, .int (σ44 133 (0 : Int32).toNatClampNeg)), (0, .ref (ad 132)), (1, .int x1), (2, .int x2)]) hx hcd dX7_addStand_61 rfl hl (by decide) rfl (fun ls hl => ?_)
        refine lv_aload_n hx hcd dX7_addStand_62 rfl (lv_at hl 1 rfl) ?_
        refine g_getr hC hW (C := RX7) (T := TX7) (N := 19) (ci := 9) (k := 0) (index := 9) (i := 132) (r := 133) inGX7 rfl (by decide) fl_X7_9 (by decide) rfl rfl dX7_addStand_63 ?_
        refine lv_iconst (v := 4) hx hcd dX7_addStand_66 (by decide) ?_
        refine lv_iload_n hx hcd dX7_addStand_67 rfl (lv_at hl 0 rfl) ?_
        refine lv_iadd hx hcd dX7_addStand_68 ?_
        refine lv_iload_n hx hcd dX7_addStand_69 rfl (lv_at hl 2 rfl) ?_
        obtain ⟨i45, ho⟩ := gd_some ho
        obtain ⟨σ46, eσ46, ho⟩ := lt_ex ho
        refine g_iast hC hW (i := 133) (by decide) rfl i45 dX7_addStand_70 (fun H locs hW => ?_)
        rw [← eσ46] at hW
        refine lv_aload_n hx hcd dX7_addStand_71 rfl (lv_at hl 1 rfl) ?_
        refine g_getr hC hW (C := RX7) (T := TX7) (N := 19) (ci := 9) (k := 0) (index := 9) (i := 132) (r := 133) inGX7 rfl (by decide) fl_X7_9 (by decide) rfl rfl dX7_addStand_72 ?_
        refine lv_bipush (v := 12) hx hcd dX7_addStand_75 (by decide) ?_
        refine lv_iload_n hx hcd dX7_addStand_77 rfl (lv_at hl 0 rfl) ?_
        refine lv_iadd hx hcd dX7_addStand_78 ?_
        refine lv_iload_n hx hcd dX7_addStand_79 rfl (lv_at hl 3 rfl) ?_
        obtain ⟨i47, ho⟩ := gd_some ho
        obtain ⟨σ48, eσ48, ho⟩ := lt_ex ho
        refine g_iast hC hW (i := 133) (by decide) rfl i47 dX7_addStand_80 (fun H locs hW => ?_)
        rw [← eσ48] at hW
        refine lv_aload_n hx hcd dX7_addStand_81 rfl (lv_at hl 1 rfl) ?_
        refine g_getr hC hW (C := RX7) (T := TX7) (N := 19) (ci := 9) (k := 0) (index := 9) (i := 132) (r := 133) inGX7 rfl (by decide) fl_X7_9 (by decide) rfl rfl dX7_addStand_82 ?_
        refine lv_bipush (v := 20) hx hcd dX7_addStand_85 (by decide) ?_
        refine lv_iload_n hx hcd dX7_addStand_87 rfl (lv_at hl 0 rfl) ?_
        refine lv_iadd hx hcd dX7_addStand_88 ?_
        refine lv_iconst (v := 1) hx hcd dX7_addStand_89 (by decide) ?_
        obtain ⟨i49, ho⟩ := gd_some ho
        obtain ⟨σ50, eσ50, ho⟩ := lt_ex ho
        refine g_iast hC hW (i := 133) (by decide) rfl i49 dX7_addStand_90 (fun H locs hW => ?_)
        rw [← eσ50] at hW
        refine lv_aload_n hx hcd dX7_addStand_91 rfl (lv_at hl 1 rfl) ?_
        refine g_getr hC hW (C := RX7) (T := TX7) (N := 19) (ci := 9) (k := 0) (index := 9) (i := 132) (r := 133) inGX7 rfl (by decide) fl_X7_9 (by decide) rfl rfl dX7_addStand_92 ?_
        refine lv_iconst (v := 0) hx hcd dX7_addStand_95 (by decide) ?_
        refine lv_dup2_11 hx hcd dX7_addStand_96 rfl rfl ?_
        refine g_iald hC hW (i := 133) (by decide) rfl (by decide) dX7_addStand_97 ?_
        refine lv_iconst (v := 1) hx hcd dX7_addStand_98 (by decide) ?_
        refine lv_iadd hx hcd dX7_addStand_99 ?_
        obtain ⟨σ51, eσ51, ho⟩ := lt_ex ho
        refine g_iast hC hW (i := 133) (by decide) rfl (by decide) dX7_addStand_100 (fun H locs hW => ?_)
        rw [← eσ51] at hW
        refine lv_iload_n hx hcd dX7_addStand_101 rfl (lv_at hl 0 rfl) ?_
        obtain rfl := Option.some.inj ho
        exact g_iret hC hr hlk hsz hW dX7_addStand_102
      · have ho := gif_n ho c42
        refine lv_iconst (v := 0) hx hcd dX7_addStand_49 (by decide) ?_
        obtain rfl := Option.some.inj ho
        exact g_iret hC hr hlk hsz hW dX7_addStand_50
noncomputable def X7_pair (σ : gS) (x1 : Int32) (x2 : Int32) (x3 : Int32) : Option (Int32 × gS) :=
  (X7_isStand σ x1).bind fun r2 => if r2 = 0 then (lt_ (g_up σ 132 8 1) fun σ4 => if (σ4 132 8) ≤ 0 then ((X7_changes σ4).bind fun σ7 => (X7_limit σ7 x1 x2).bind fun r9 => gd (ib (((28 : Int32) + ((8 : Int32) * x1)) + x2) 162) <| lt_ (g_up σ7 133 (((28 : Int32) + ((8 : Int32) * x1)) + x2).toNatClampNeg x3) fun σ11 => gd (ib (((28 : Int32) + ((8 : Int32) * x2)) + x1) 162) <| lt_ (g_up σ11 133 (((28 : Int32) + ((8 : Int32) * x2)) + x1).toNatClampNeg x3) fun σ13 => some (r9, σ13)) else (some (0, σ4))) else ((X7_isStand σ x2).bind fun r15 => if r15 = 0 then (lt_ (g_up σ 132 8 1) fun σ51 => if (σ51 132 8) ≤ 0 then ((X7_changes σ51).bind fun σ54 => (X7_limit σ54 x1 x2).bind fun r56 => gd (ib (((28 : Int32) + ((8 : Int32) * x1)) + x2) 162) <| lt_ (g_up σ54 133 (((28 : Int32) + ((8 : Int32) * x1)) + x2).toNatClampNeg x3) fun σ58 => gd (ib (((28 : Int32) + ((8 : Int32) * x2)) + x1) 162) <| lt_ (g_up σ58 133 (((28 : Int32) + ((8 : Int32) * x2)) + x1).toNatClampNeg x3) fun σ60 => some (r56, σ60)) else (some (0, σ51))) else (if x1 = x2 then (lt_ (g_up σ 132 8 2) fun σ18 => if (σ18 132 8) ≤ 0 then ((X7_changes σ18).bind fun σ21 => (X7_limit σ21 x1 x2).bind fun r23 => gd (ib (((28 : Int32) + ((8 : Int32) * x1)) + x2) 162) <| lt_ (g_up σ21 133 (((28 : Int32) + ((8 : Int32) * x1)) + x2).toNatClampNeg x3) fun σ25 => gd (ib (((28 : Int32) + ((8 : Int32) * x2)) + x1) 162) <| lt_ (g_up σ25 133 (((28 : Int32) + ((8 : Int32) * x2)) + x1).toNatClampNeg x3) fun σ27 => some (r23, σ27)) else (some (0, σ18))) else ((X7_in σ x3 (-1) 6).bind fun r29 => if r29 = 0 then (lt_ (g_up σ 132 8 2) fun σ41 => if (σ41 132 8) ≤ 0 then ((X7_changes σ41).bind fun σ44 => (X7_limit σ44 x1 x2).bind fun r46 => gd (ib (((28 : Int32) + ((8 : Int32) * x1)) + x2) 162) <| lt_ (g_up σ44 133 (((28 : Int32) + ((8 : Int32) * x1)) + x2).toNatClampNeg x3) fun σ48 => gd (ib (((28 : Int32) + ((8 : Int32) * x2)) + x1) 162) <| lt_ (g_up σ48 133 (((28 : Int32) + ((8 : Int32) * x2)) + x1).toNatClampNeg x3) fun σ50 => some (r46, σ50)) else (some (0, σ41))) else (lt_ (g_up σ 132 8 0) fun σ31 => if (σ31 132 8) ≤ 0 then ((X7_changes σ31).bind fun σ34 => (X7_limit σ34 x1 x2).bind fun r36 => gd (ib (((28 : Int32) + ((8 : Int32) * x1)) + x2) 162) <| lt_ (g_up σ34 133 (((28 : Int32) + ((8 : Int32) * x1)) + x2).toNatClampNeg x3) fun σ38 => gd (ib (((28 : Int32) + ((8 : Int32) * x2)) + x1) 162) <| lt_ (g_up σ38 133 (((28 : Int32) + ((8 : Int32) * x2)) + x1).toNatClampNeg x3) fun σ40 => some (r36, σ40)) else (some (0, σ31))))))
set_option maxHeartbeats 4000000 in
set_option maxRecDepth 100000 in
theorem c_X7_pair (l : Launch) (D : va_G) (y : ClassId × ClassId × ClassId) (ad : Nat → Nat) (x1 : Int32) (x2 : Int32) (x3 : Int32) (σ : gS) (sz : Nat) {q : Int32 × gS} (h : X7_pair σ x1 x2 x3 = some q) : Met l yX7_pair (Cond.code yX7_pair cX7_pair 5 (some .int) :: gl) ({ frames := 3, cells := 0, slots := 0, locals := 80 }) (g_Pc D y ad σ sz [.ref (ad 132), .int x1, .int x2, .int x3]) (g_Qi D y ad q.2 sz q.1) 0 0 (g_A ad sz) := by
  have ho := h
  unfold X7_pair at ho
  refine g_start (by decide) (Nat.le_of_ble_eq_true rfl) (fun p e s m below meth c ls hC hr hlk hsz hW hl => ?_)
  have hx := hC.1
  have hcd := hC.2.1
  have hl : lv_has ls 5 [(0, .ref (ad 132)), (1, .int x1), (2, .int x2), (3, .int x3)] := hl
  refine lv_aload_n hx hcd dX7_pair_0 rfl (lv_at hl 0 rfl) ?_
  refine lv_aload_n hx hcd dX7_pair_1 rfl (lv_at hl 0 rfl) ?_
  refine lv_iload_n hx hcd dX7_pair_2 rfl (lv_at hl 1 rfl) ?_
  obtain ⟨r2, h1, ho⟩ := gb_some ho
  refine g_calli hW (g_runV (As := [.int x1]) (rest := [.ref (ad 132)]) (i := 132) hC hW (c_X7_isStand l D y ad x1 _ _ h1) ok_X7_73 ⟨rfl, rfl, Nat.le_of_ble_eq_true rfl, Nat.le_of_ble_eq_true rfl⟩ (by decide) rfl rfl rfl rfl hl.1 rfl (Nat.le_of_ble_eq_true rfl) dX7_pair_3 ⟨Nat.zero_le _, Nat.zero_le _⟩) (fun H locs hW => ?_)
  refine lv_if_eq (tgt := 17) hx hcd dX7_pair_6 (by decide) (fun c3 => ?_) (fun c3 => ?_)
  · have ho := gif_p ho c3
    refine lv_iconst (v := 1) hx hcd dX7_pair_17 (by decide) ?_
    refine lv_goto (tgt := 41) hx hcd dX7_pair_18 (by decide) ?_
    obtain ⟨σ4, eσ4, ho⟩ := lt_ex ho
    refine g_puti hC hW (C := RX7) (T := TX7) (N := 19) (ci := 9) (k := 8) (index := 48) (i := 132) inGX7 tyX7 tyX7_ok nmX7 rfl (by decide) fl_X7_48 rfl (by decide) rfl rfl rfl rfl dX7_pair_41 (fun H locs hW => ?_)
    rw [← eσ4] at hW
    refine lv_aload_n hx hcd dX7_pair_44 rfl (lv_at hl 0 rfl) ?_
    refine g_geti hC hW (C := RX7) (T := TX7) (N := 19) (ci := 9) (k := 8) (index := 48) (i := 132) inGX7 rfl (by decide) fl_X7_48 (by decide) rfl rfl dX7_pair_45 ?_
    refine lv_if_le (tgt := 53) hx hcd dX7_pair_48 (by decide) (fun c5 => ?_) (fun c5 => ?_)
    · have ho := gif_p ho c5
      refine lv_aload_n hx hcd dX7_pair_53 rfl (lv_at hl 0 rfl) ?_
      obtain ⟨σ7, h6, ho⟩ := gb_some ho
      refine g_callv hW (g_runV (As := []) (rest := []) (i := 132) hC hW (c_X7_changes l D y ad _ _ h6) ok_X7_70 ⟨rfl, rfl, Nat.le_of_ble_eq_true rfl, Nat.le_of_ble_eq_true rfl⟩ (by decide) rfl rfl rfl rfl hl.1 rfl (Nat.le_of_ble_eq_true rfl) dX7_pair_54 ⟨Nat.zero_le _, Nat.zero_le _⟩) (fun H locs hW => ?_)
      refine lv_aload_n hx hcd dX7_pair_57 rfl (lv_at hl 0 rfl) ?_
      refine lv_iload_n hx hcd dX7_pair_58 rfl (lv_at hl 1 rfl) ?_
      refine lv_iload_n hx hcd dX7_pair_59 rfl (lv_at hl 2 rfl) ?_
      obtain ⟨r9, h8, ho⟩ := gb_some ho
      refine g_calli hW (g_runV (As := [.int x1, .int x2]) (rest := []) (i := 132) hC hW (c_X7_limit l D y ad x1 x2 _ _ h8) ok_X7_77 ⟨rfl, rfl, Nat.le_of_ble_eq_true rfl, Nat.le_of_ble_eq_true rfl⟩ (by decide) rfl rfl rfl rfl hl.1 rfl (Nat.le_of_ble_eq_true rfl) dX7_pair_60 ⟨Nat.zero_le _, Nat.zero_le _⟩) (fun H locs hW => ?_)
      refine lv_istore (lv' := [(4, .int r9), (0, .ref (ad 132)), (1, .int x1), (2, .int x2), (3, .int x3)]) hx hcd dX7_pair_63 hl (by decide) rfl (fun ls hl => ?_)
      refine lv_aload_n hx hcd dX7_pair_65 rfl (lv_at hl 1 rfl) ?_
      refine g_getr hC hW (C := RX7) (T := TX7) (N := 19) (ci := 9) (k := 0) (index := 9) (i := 132) (r := 133) inGX7 rfl (by decide) fl_X7_9 (by decide) rfl rfl dX7_pair_66 ?_
      refine lv_bipush (v := 28) hx hcd dX7_pair_69 (by decide) ?_
      refine lv_bipush (v := 8) hx hcd dX7_pair_71 (by decide) ?_
      refine lv_iload_n hx hcd dX7_pair_73 rfl (lv_at hl 2 rfl) ?_
      refine lv_imul hx hcd dX7_pair_74 ?_
      refine lv_iadd hx hcd dX7_pair_75 ?_
      refine lv_iload_n hx hcd dX7_pair_76 rfl (lv_at hl 3 rfl) ?_
      refine lv_iadd hx hcd dX7_pair_77 ?_
      refine lv_iload_n hx hcd dX7_pair_78 rfl (lv_at hl 4 rfl) ?_
      obtain ⟨i10, ho⟩ := gd_some ho
      obtain ⟨σ11, eσ11, ho⟩ := lt_ex ho
      refine g_iast hC hW (i := 133) (by decide) rfl i10 dX7_pair_79 (fun H locs hW => ?_)
      rw [← eσ11] at hW
      refine lv_aload_n hx hcd dX7_pair_80 rfl (lv_at hl 1 rfl) ?_
      refine g_getr hC hW (C := RX7) (T := TX7) (N := 19) (ci := 9) (k := 0) (index := 9) (i := 132) (r := 133) inGX7 rfl (by decide) fl_X7_9 (by decide) rfl rfl dX7_pair_81 ?_
      refine lv_bipush (v := 28) hx hcd dX7_pair_84 (by decide) ?_
      refine lv_bipush (v := 8) hx hcd dX7_pair_86 (by decide) ?_
      refine lv_iload_n hx hcd dX7_pair_88 rfl (lv_at hl 3 rfl) ?_
      refine lv_imul hx hcd dX7_pair_89 ?_
      refine lv_iadd hx hcd dX7_pair_90 ?_
      refine lv_iload_n hx hcd dX7_pair_91 rfl (lv_at hl 2 rfl) ?_
      refine lv_iadd hx hcd dX7_pair_92 ?_
      refine lv_iload_n hx hcd dX7_pair_93 rfl (lv_at hl 4 rfl) ?_
      obtain ⟨i12, ho⟩ := gd_some ho
      obtain ⟨σ13, eσ13, ho⟩ := lt_ex ho
      refine g_iast hC hW (i := 133) (by decide) rfl i12 dX7_pair_94 (fun H locs hW => ?_)
      rw [← eσ13] at hW
      refine lv_iload hx hcd dX7_pair_95 (lv_at hl 0 rfl) ?_
      obtain rfl := Option.some.inj ho
      exact g_iret hC hr hlk hsz hW dX7_pair_97
    · have ho := gif_n ho c5
      refine lv_iconst (v := 0) hx hcd dX7_pair_51 (by decide) ?_
      obtain rfl := Option.some.inj ho
      exact g_iret hC hr hlk hsz hW dX7_pair_52
  · have ho := gif_n ho c3
    refine lv_aload_n hx hcd dX7_pair_9 rfl (lv_at hl 0 rfl) ?_
    refine lv_iload_n hx hcd dX7_pair_10 rfl (lv_at hl 2 rfl) ?_
    obtain ⟨r15, h14, ho⟩ := gb_some ho
    refine g_calli hW (g_runV (As := [.int x2]) (rest := [.ref (ad 132)]) (i := 132) hC hW (c_X7_isStand l D y ad x2 _ _ h14) ok_X7_73 ⟨rfl, rfl, Nat.le_of_ble_eq_true rfl, Nat.le_of_ble_eq_true rfl⟩ (by decide) rfl rfl rfl rfl hl.1 rfl (Nat.le_of_ble_eq_true rfl) dX7_pair_11 ⟨Nat.zero_le _, Nat.zero_le _⟩) (fun H locs hW => ?_)
    refine lv_if_ne (tgt := 21) hx hcd dX7_pair_14 (by decide) (fun c16 => ?_) (fun c16 => ?_)
    · have ho := gif_n ho c16
      refine lv_iload_n hx hcd dX7_pair_21 rfl (lv_at hl 1 rfl) ?_
      refine lv_iload_n hx hcd dX7_pair_22 rfl (lv_at hl 2 rfl) ?_
      refine lv_icmp_eq (tgt := 36) hx hcd dX7_pair_23 (by decide) (fun c17 => ?_) (fun c17 => ?_)
      · have ho := gif_p ho c17
        refine lv_iconst (v := 2) hx hcd dX7_pair_36 (by decide) ?_
        refine lv_goto (tgt := 41) hx hcd dX7_pair_37 (by decide) ?_
        obtain ⟨σ18, eσ18, ho⟩ := lt_ex ho
        refine g_puti hC hW (C := RX7) (T := TX7) (N := 19) (ci := 9) (k := 8) (index := 48) (i := 132) inGX7 tyX7 tyX7_ok nmX7 rfl (by decide) fl_X7_48 rfl (by decide) rfl rfl rfl rfl dX7_pair_41 (fun H locs hW => ?_)
        rw [← eσ18] at hW
        refine lv_aload_n hx hcd dX7_pair_44 rfl (lv_at hl 0 rfl) ?_
        refine g_geti hC hW (C := RX7) (T := TX7) (N := 19) (ci := 9) (k := 8) (index := 48) (i := 132) inGX7 rfl (by decide) fl_X7_48 (by decide) rfl rfl dX7_pair_45 ?_
        refine lv_if_le (tgt := 53) hx hcd dX7_pair_48 (by decide) (fun c19 => ?_) (fun c19 => ?_)
        · have ho := gif_p ho c19
          refine lv_aload_n hx hcd dX7_pair_53 rfl (lv_at hl 0 rfl) ?_
          obtain ⟨σ21, h20, ho⟩ := gb_some ho
          refine g_callv hW (g_runV (As := []) (rest := []) (i := 132) hC hW (c_X7_changes l D y ad _ _ h20) ok_X7_70 ⟨rfl, rfl, Nat.le_of_ble_eq_true rfl, Nat.le_of_ble_eq_true rfl⟩ (by decide) rfl rfl rfl rfl hl.1 rfl (Nat.le_of_ble_eq_true rfl) dX7_pair_54 ⟨Nat.zero_le _, Nat.zero_le _⟩) (fun H locs hW => ?_)
          refine lv_aload_n hx hcd dX7_pair_57 rfl (lv_at hl 0 rfl) ?_
          refine lv_iload_n hx hcd dX7_pair_58 rfl (lv_at hl 1 rfl) ?_
          refine lv_iload_n hx hcd dX7_pair_59 rfl (lv_at hl 2 rfl) ?_
          obtain ⟨r23, h22, ho⟩ := gb_some ho
          refine g_calli hW (g_runV (As := [.int x1, .int x2]) (rest := []) (i := 132) hC hW (c_X7_limit l D y ad x1 x2 _ _ h22) ok_X7_77 ⟨rfl, rfl, Nat.le_of_ble_eq_true rfl, Nat.le_of_ble_eq_true rfl⟩ (by decide) rfl rfl rfl rfl hl.1 rfl (Nat.le_of_ble_eq_true rfl) dX7_pair_60 ⟨Nat.zero_le _, Nat.zero_le _⟩) (fun H locs hW => ?_)
          refine lv_istore (lv' := [(4, .int r23), (0, .ref (ad 132)), (1, .int x1), (2, .int x2), (3, .int x3)]) hx hcd dX7_pair_63 hl (by decide) rfl (fun ls hl => ?_)
          refine lv_aload_n hx hcd dX7_pair_65 rfl (lv_at hl 1 rfl) ?_
          refine g_getr hC hW (C := RX7) (T := TX7) (N := 19) (ci := 9) (k := 0) (index := 9) (i := 132) (r := 133) inGX7 rfl (by decide) fl_X7_9 (by decide) rfl rfl dX7_pair_66 ?_
          refine lv_bipush (v := 28) hx hcd dX7_pair_69 (by decide) ?_
          refine lv_bipush (v := 8) hx hcd dX7_pair_71 (by decide) ?_
          refine lv_iload_n hx hcd dX7_pair_73 rfl (lv_at hl 2 rfl) ?_
          refine lv_imul hx hcd dX7_pair_74 ?_
          refine lv_iadd hx hcd dX7_pair_75 ?_
          refine lv_iload_n hx hcd dX7_pair_76 rfl (lv_at hl 3 rfl) ?_
          refine lv_iadd hx hcd dX7_pair_77 ?_
          refine lv_iload_n hx hcd dX7_pair_78 rfl (lv_at hl 4 rfl) ?_
          obtain ⟨i24, ho⟩ := gd_some ho
          obtain ⟨σ25, eσ25, ho⟩ := lt_ex ho
          refine g_iast hC hW (i := 133) (by decide) rfl i24 dX7_pair_79 (fun H locs hW => ?_)
          rw [← eσ25] at hW
          refine lv_aload_n hx hcd dX7_pair_80 rfl (lv_at hl 1 rfl) ?_
          refine g_getr hC hW (C := RX7) (T := TX7) (N := 19) (ci := 9) (k := 0) (index := 9) (i := 132) (r := 133) inGX7 rfl (by decide) fl_X7_9 (by decide) rfl rfl dX7_pair_81 ?_
          refine lv_bipush (v := 28) hx hcd dX7_pair_84 (by decide) ?_
          refine lv_bipush (v := 8) hx hcd dX7_pair_86 (by decide) ?_
          refine lv_iload_n hx hcd dX7_pair_88 rfl (lv_at hl 3 rfl) ?_
          refine lv_imul hx hcd dX7_pair_89 ?_
          refine lv_iadd hx hcd dX7_pair_90 ?_
          refine lv_iload_n hx hcd dX7_pair_91 rfl (lv_at hl 2 rfl) ?_
          refine lv_iadd hx hcd dX7_pair_92 ?_
          refine lv_iload_n hx hcd dX7_pair_93 rfl (lv_at hl 4 rfl) ?_
          obtain ⟨i26, ho⟩ := gd_some ho
          obtain ⟨σ27, eσ27, ho⟩ := lt_ex ho
          refine g_iast hC hW (i := 133) (by decide) rfl i26 dX7_pair_94 (fun H locs hW => ?_)
          rw [← eσ27] at hW
          refine lv_iload hx hcd dX7_pair_95 (lv_at hl 0 rfl) ?_
          obtain rfl := Option.some.inj ho
          exact g_iret hC hr hlk hsz hW dX7_pair_97
        · have ho := gif_n ho c19
          refine lv_iconst (v := 0) hx hcd dX7_pair_51 (by decide) ?_
          obtain rfl := Option.some.inj ho
          exact g_iret hC hr hlk hsz hW dX7_pair_52
      · have ho := gif_n ho c17
        refine lv_iload_n hx hcd dX7_pair_26 rfl (lv_at hl 3 rfl) ?_
        refine lv_iconst (v := (-1)) hx hcd dX7_pair_27 (by decide) ?_
        refine lv_bipush (v := 6) hx hcd dX7_pair_28 (by decide) ?_
        obtain ⟨r29, h28, ho⟩ := gb_some ho
        refine g_calli hW (g_runS (As := [.int x3, .int (-1), .int 6]) (rest := [.ref (ad 132)]) hC hW (c_X7_in l D y ad x3 (-1) 6 _ _ h28) ok_X7_51 ⟨rfl, rfl, Nat.le_of_ble_eq_true rfl, Nat.le_of_ble_eq_true rfl⟩ rfl hl.1 rfl (Nat.le_of_ble_eq_true rfl) dX7_pair_30 ⟨Nat.zero_le _, Nat.zero_le _⟩) (fun H locs hW => ?_)
        refine lv_if_ne (tgt := 40) hx hcd dX7_pair_33 (by decide) (fun c30 => ?_) (fun c30 => ?_)
        · have ho := gif_n ho c30
          refine lv_iconst (v := 0) hx hcd dX7_pair_40 (by decide) ?_
          obtain ⟨σ31, eσ31, ho⟩ := lt_ex ho
          refine g_puti hC hW (C := RX7) (T := TX7) (N := 19) (ci := 9) (k := 8) (index := 48) (i := 132) inGX7 tyX7 tyX7_ok nmX7 rfl (by decide) fl_X7_48 rfl (by decide) rfl rfl rfl rfl dX7_pair_41 (fun H locs hW => ?_)
          rw [← eσ31] at hW
          refine lv_aload_n hx hcd dX7_pair_44 rfl (lv_at hl 0 rfl) ?_
          refine g_geti hC hW (C := RX7) (T := TX7) (N := 19) (ci := 9) (k := 8) (index := 48) (i := 132) inGX7 rfl (by decide) fl_X7_48 (by decide) rfl rfl dX7_pair_45 ?_
          refine lv_if_le (tgt := 53) hx hcd dX7_pair_48 (by decide) (fun c32 => ?_) (fun c32 => ?_)
          · have ho := gif_p ho c32
            refine lv_aload_n hx hcd dX7_pair_53 rfl (lv_at hl 0 rfl) ?_
            obtain ⟨σ34, h33, ho⟩ := gb_some ho
            refine g_callv hW (g_runV (As := []) (rest := []) (i := 132) hC hW (c_X7_changes l D y ad _ _ h33) ok_X7_70 ⟨rfl, rfl, Nat.le_of_ble_eq_true rfl, Nat.le_of_ble_eq_true rfl⟩ (by decide) rfl rfl rfl rfl hl.1 rfl (Nat.le_of_ble_eq_true rfl) dX7_pair_54 ⟨Nat.zero_le _, Nat.zero_le _⟩) (fun H locs hW => ?_)
            refine lv_aload_n hx hcd dX7_pair_57 rfl (lv_at hl 0 rfl) ?_
            refine lv_iload_n hx hcd dX7_pair_58 rfl (lv_at hl 1 rfl) ?_
            refine lv_iload_n hx hcd dX7_pair_59 rfl (lv_at hl 2 rfl) ?_
            obtain ⟨r36, h35, ho⟩ := gb_some ho
            refine g_calli hW (g_runV (As := [.int x1, .int x2]) (rest := []) (i := 132) hC hW (c_X7_limit l D y ad x1 x2 _ _ h35) ok_X7_77 ⟨rfl, rfl, Nat.le_of_ble_eq_true rfl, Nat.le_of_ble_eq_true rfl⟩ (by decide) rfl rfl rfl rfl hl.1 rfl (Nat.le_of_ble_eq_true rfl) dX7_pair_60 ⟨Nat.zero_le _, Nat.zero_le _⟩) (fun H locs hW => ?_)
            refine lv_istore (lv' := [(4, .int r36), (0, .ref (ad 132)), (1, .int x1), (2, .int x2), (3, .int x3)]) hx hcd dX7_pair_63 hl (by decide) rfl (fun ls hl => ?_)
            refine lv_aload_n hx hcd dX7_pair_65 rfl (lv_at hl 1 rfl) ?_
            refine g_getr hC hW (C := RX7) (T := TX7) (N := 19) (ci := 9) (k := 0) (index := 9) (i := 132) (r := 133) inGX7 rfl (by decide) fl_X7_9 (by decide) rfl rfl dX7_pair_66 ?_
            refine lv_bipush (v := 28) hx hcd dX7_pair_69 (by decide) ?_
            refine lv_bipush (v := 8) hx hcd dX7_pair_71 (by decide) ?_
            refine lv_iload_n hx hcd dX7_pair_73 rfl (lv_at hl 2 rfl) ?_
            refine lv_imul hx hcd dX7_pair_74 ?_
            refine lv_iadd hx hcd dX7_pair_75 ?_
            refine lv_iload_n hx hcd dX7_pair_76 rfl (lv_at hl 3 rfl) ?_
            refine lv_iadd hx hcd dX7_pair_77 ?_
            refine lv_iload_n hx hcd dX7_pair_78 rfl (lv_at hl 4 rfl) ?_
            obtain ⟨i37, ho⟩ := gd_some ho
            obtain ⟨σ38, eσ38, ho⟩ := lt_ex ho
            refine g_iast hC hW (i := 133) (by decide) rfl i37 dX7_pair_79 (fun H locs hW => ?_)
            rw [← eσ38] at hW
            refine lv_aload_n hx hcd dX7_pair_80 rfl (lv_at hl 1 rfl) ?_
            refine g_getr hC hW (C := RX7) (T := TX7) (N := 19) (ci := 9) (k := 0) (index := 9) (i := 132) (r := 133) inGX7 rfl (by decide) fl_X7_9 (by decide) rfl rfl dX7_pair_81 ?_
            refine lv_bipush (v := 28) hx hcd dX7_pair_84 (by decide) ?_
            refine lv_bipush (v := 8) hx hcd dX7_pair_86 (by decide) ?_
            refine lv_iload_n hx hcd dX7_pair_88 rfl (lv_at hl 3 rfl) ?_
            refine lv_imul hx hcd dX7_pair_89 ?_
            refine lv_iadd hx hcd dX7_pair_90 ?_
            refine lv_iload_n hx hcd dX7_pair_91 rfl (lv_at hl 2 rfl) ?_
            refine lv_iadd hx hcd dX7_pair_92 ?_
            refine lv_iload_n hx hcd dX7_pair_93 rfl (lv_at hl 4 rfl) ?_
            obtain ⟨i39, ho⟩ := gd_some ho
            obtain ⟨σ40, eσ40, ho⟩ := lt_ex ho
            refine g_iast hC hW (i := 133) (by decide) rfl i39 dX7_pair_94 (fun H locs hW => ?_)
            rw [← eσ40] at hW
            refine lv_iload hx hcd dX7_pair_95 (lv_at hl 0 rfl) ?_
            obtain rfl := Option.some.inj ho
            exact g_iret hC hr hlk hsz hW dX7_pair_97
          · have ho := gif_n ho c32
            refine lv_iconst (v := 0) hx hcd dX7_pair_51 (by decide) ?_
            obtain rfl := Option.some.inj ho
            exact g_iret hC hr hlk hsz hW dX7_pair_52
        · have ho := gif_p ho c30
          refine lv_iconst (v := 2) hx hcd dX7_pair_36 (by decide) ?_
          refine lv_goto (tgt := 41) hx hcd dX7_pair_37 (by decide) ?_
          obtain ⟨σ41, eσ41, ho⟩ := lt_ex ho
          refine g_puti hC hW (C := RX7) (T := TX7) (N := 19) (ci := 9) (k := 8) (index := 48) (i := 132) inGX7 tyX7 tyX7_ok nmX7 rfl (by decide) fl_X7_48 rfl (by decide) rfl rfl rfl rfl dX7_pair_41 (fun H locs hW => ?_)
          rw [← eσ41] at hW
          refine lv_aload_n hx hcd dX7_pair_44 rfl (lv_at hl 0 rfl) ?_
          refine g_geti hC hW (C := RX7) (T := TX7) (N := 19) (ci := 9) (k := 8) (index := 48) (i := 132) inGX7 rfl (by decide) fl_X7_48 (by decide) rfl rfl dX7_pair_45 ?_
          refine lv_if_le (tgt := 53) hx hcd dX7_pair_48 (by decide) (fun c42 => ?_) (fun c42 => ?_)
          · have ho := gif_p ho c42
            refine lv_aload_n hx hcd dX7_pair_53 rfl (lv_at hl 0 rfl) ?_
            obtain ⟨σ44, h43, ho⟩ := gb_some ho
            refine g_callv hW (g_runV (As := []) (rest := []) (i := 132) hC hW (c_X7_changes l D y ad _ _ h43) ok_X7_70 ⟨rfl, rfl, Nat.le_of_ble_eq_true rfl, Nat.le_of_ble_eq_true rfl⟩ (by decide) rfl rfl rfl rfl hl.1 rfl (Nat.le_of_ble_eq_true rfl) dX7_pair_54 ⟨Nat.zero_le _, Nat.zero_le _⟩) (fun H locs hW => ?_)
            refine lv_aload_n hx hcd dX7_pair_57 rfl (lv_at hl 0 rfl) ?_
            refine lv_iload_n hx hcd dX7_pair_58 rfl (lv_at hl 1 rfl) ?_
            refine lv_iload_n hx hcd dX7_pair_59 rfl (lv_at hl 2 rfl) ?_
            obtain ⟨r46, h45, ho⟩ := gb_some ho
            refine g_calli hW (g_runV (As := [.int x1, .int x2]) (rest := []) (i := 132) hC hW (c_X7_limit l D y ad x1 x2 _ _ h45) ok_X7_77 ⟨rfl, rfl, Nat.le_of_ble_eq_true rfl, Nat.le_of_ble_eq_true rfl⟩ (by decide) rfl rfl rfl rfl hl.1 rfl (Nat.le_of_ble_eq_true rfl) dX7_pair_60 ⟨Nat.zero_le _, Nat.zero_le _⟩) (fun H locs hW => ?_)
            refine lv_istore (lv' := [(4, .int r46), (0, .ref (ad 132)), (1, .int x1), (2, .int x2), (3, .int x3)]) hx hcd dX7_pair_63 hl (by decide) rfl (fun ls hl => ?_)
            refine lv_aload_n hx hcd dX7_pair_65 rfl (lv_at hl 1 rfl) ?_
            refine g_getr hC hW (C := RX7) (T := TX7) (N := 19) (ci := 9) (k := 0) (index := 9) (i := 132) (r := 133) inGX7 rfl (by decide) fl_X7_9 (by decide) rfl rfl dX7_pair_66 ?_
            refine lv_bipush (v := 28) hx hcd dX7_pair_69 (by decide) ?_
            refine lv_bipush (v := 8) hx hcd dX7_pair_71 (by decide) ?_
            refine lv_iload_n hx hcd dX7_pair_73 rfl (lv_at hl 2 rfl) ?_
            refine lv_imul hx hcd dX7_pair_74 ?_
            refine lv_iadd hx hcd dX7_pair_75 ?_
            refine lv_iload_n hx hcd dX7_pair_76 rfl (lv_at hl 3 rfl) ?_
            refine lv_iadd hx hcd dX7_pair_77 ?_
            refine lv_iload_n hx hcd dX7_pair_78 rfl (lv_at hl 4 rfl) ?_
            obtain ⟨i47, ho⟩ := gd_some ho
            obtain ⟨σ48, eσ48, ho⟩ := lt_ex ho
            refine g_iast hC hW (i := 133) (by decide) rfl i47 dX7_pair_79 (fun H locs hW => ?_)
            rw [← eσ48] at hW
            refine lv_aload_n hx hcd dX7_pair_80 rfl (lv_at hl 1 rfl) ?_
            refine g_getr hC hW (C := RX7) (T := TX7) (N := 19) (ci := 9) (k := 0) (index := 9) (i := 132) (r := 133) inGX7 rfl (by decide) fl_X7_9 (by decide) rfl rfl dX7_pair_81 ?_
            refine lv_bipush (v := 28) hx hcd dX7_pair_84 (by decide) ?_
            refine lv_bipush (v := 8) hx hcd dX7_pair_86 (by decide) ?_
            refine lv_iload_n hx hcd dX7_pair_88 rfl (lv_at hl 3 rfl) ?_
            refine lv_imul hx hcd dX7_pair_89 ?_
            refine lv_iadd hx hcd dX7_pair_90 ?_
            refine lv_iload_n hx hcd dX7_pair_91 rfl (lv_at hl 2 rfl) ?_
            refine lv_iadd hx hcd dX7_pair_92 ?_
            refine lv_iload_n hx hcd dX7_pair_93 rfl (lv_at hl 4 rfl) ?_
            obtain ⟨i49, ho⟩ := gd_some ho
            obtain ⟨σ50, eσ50, ho⟩ := lt_ex ho
            refine g_iast hC hW (i := 133) (by decide) rfl i49 dX7_pair_94 (fun H locs hW => ?_)
            rw [← eσ50] at hW
            refine lv_iload hx hcd dX7_pair_95 (lv_at hl 0 rfl) ?_
            obtain rfl := Option.some.inj ho
            exact g_iret hC hr hlk hsz hW dX7_pair_97
          · have ho := gif_n ho c42
            refine lv_iconst (v := 0) hx hcd dX7_pair_51 (by decide) ?_
            obtain rfl := Option.some.inj ho
            exact g_iret hC hr hlk hsz hW dX7_pair_52
    · have ho := gif_p ho c16
      refine lv_iconst (v := 1) hx hcd dX7_pair_17 (by decide) ?_
      refine lv_goto (tgt := 41) hx hcd dX7_pair_18 (by decide) ?_
      obtain ⟨σ51, eσ51, ho⟩ := lt_ex ho
      refine g_puti hC hW (C := RX7) (T := TX7) (N := 19) (ci := 9) (k := 8) (index := 48) (i := 132) inGX7 tyX7 tyX7_ok nmX7 rfl (by decide) fl_X7_48 rfl (by decide) rfl rfl rfl rfl dX7_pair_41 (fun H locs hW => ?_)
      rw [← eσ51] at hW
      refine lv_aload_n hx hcd dX7_pair_44 rfl (lv_at hl 0 rfl) ?_
      refine g_geti hC hW (C := RX7) (T := TX7) (N := 19) (ci := 9) (k := 8) (index := 48) (i := 132) inGX7 rfl (by decide) fl_X7_48 (by decide) rfl rfl dX7_pair_45 ?_
      refine lv_if_le (tgt := 53) hx hcd dX7_pair_48 (by decide) (fun c52 => ?_) (fun c52 => ?_)
      · have ho := gif_p ho c52
        refine lv_aload_n hx hcd dX7_pair_53 rfl (lv_at hl 0 rfl) ?_
        obtain ⟨σ54, h53, ho⟩ := gb_some ho
        refine g_callv hW (g_runV (As := []) (rest := []) (i := 132) hC hW (c_X7_changes l D y ad _ _ h53) ok_X7_70 ⟨rfl, rfl, Nat.le_of_ble_eq_true rfl, Nat.le_of_ble_eq_true rfl⟩ (by decide) rfl rfl rfl rfl hl.1 rfl (Nat.le_of_ble_eq_true rfl) dX7_pair_54 ⟨Nat.zero_le _, Nat.zero_le _⟩) (fun H locs hW => ?_)
        refine lv_aload_n hx hcd dX7_pair_57 rfl (lv_at hl 0 rfl) ?_
        refine lv_iload_n hx hcd dX7_pair_58 rfl (lv_at hl 1 rfl) ?_
        refine lv_iload_n hx hcd dX7_pair_59 rfl (lv_at hl 2 rfl) ?_
        obtain ⟨r56, h55, ho⟩ := gb_some ho
        refine g_calli hW (g_runV (As := [.int x1, .int x2]) (rest := []) (i := 132) hC hW (c_X7_limit l D y ad x1 x2 _ _ h55) ok_X7_77 ⟨rfl, rfl, Nat.le_of_ble_eq_true rfl, Nat.le_of_ble_eq_true rfl⟩ (by decide) rfl rfl rfl rfl hl.1 rfl (Nat.le_of_ble_eq_true rfl) dX7_pair_60 ⟨Nat.zero_le _, Nat.zero_le _⟩) (fun H locs hW => ?_)
        refine lv_istore (lv' := [(4, .int r56), (0, .ref (ad 132)), (1, .int x1), (2, .int x2), (3, .int x3)]) hx hcd dX7_pair_63 hl (by decide) rfl (fun ls hl => ?_)
        refine lv_aload_n hx hcd dX7_pair_65 rfl (lv_at hl 1 rfl) ?_
        refine g_getr hC hW (C := RX7) (T := TX7) (N := 19) (ci := 9) (k := 0) (index := 9) (i := 132) (r := 133) inGX7 rfl (by decide) fl_X7_9 (by decide) rfl rfl dX7_pair_66 ?_
        refine lv_bipush (v := 28) hx hcd dX7_pair_69 (by decide) ?_
        refine lv_bipush (v := 8) hx hcd dX7_pair_71 (by decide) ?_
        refine lv_iload_n hx hcd dX7_pair_73 rfl (lv_at hl 2 rfl) ?_
        refine lv_imul hx hcd dX7_pair_74 ?_
        refine lv_iadd hx hcd dX7_pair_75 ?_
        refine lv_iload_n hx hcd dX7_pair_76 rfl (lv_at hl 3 rfl) ?_
        refine lv_iadd hx hcd dX7_pair_77 ?_
        refine lv_iload_n hx hcd dX7_pair_78 rfl (lv_at hl 4 rfl) ?_
        obtain ⟨i57, ho⟩ := gd_some ho
        obtain ⟨σ58, eσ58, ho⟩ := lt_ex ho
        refine g_iast hC hW (i := 133) (by decide) rfl i57 dX7_pair_79 (fun H locs hW => ?_)
        rw [← eσ58] at hW
        refine lv_aload_n hx hcd dX7_pair_80 rfl (lv_at hl 1 rfl) ?_
        refine g_getr hC hW (C := RX7) (T := TX7) (N := 19) (ci := 9) (k := 0) (index := 9) (i := 132) (r := 133) inGX7 rfl (by decide) fl_X7_9 (by decide) rfl rfl dX7_pair_81 ?_
        refine lv_bipush (v := 28) hx hcd dX7_pair_84 (by decide) ?_
        refine lv_bipush (v := 8) hx hcd dX7_pair_86 (by decide) ?_
        refine lv_iload_n hx hcd dX7_pair_88 rfl (lv_at hl 3 rfl) ?_
        refine lv_imul hx hcd dX7_pair_89 ?_
        refine lv_iadd hx hcd dX7_pair_90 ?_
        refine lv_iload_n hx hcd dX7_pair_91 rfl (lv_at hl 2 rfl) ?_
        refine lv_iadd hx hcd dX7_pair_92 ?_
        refine lv_iload_n hx hcd dX7_pair_93 rfl (lv_at hl 4 rfl) ?_
        obtain ⟨i59, ho⟩ := gd_some ho
        obtain ⟨σ60, eσ60, ho⟩ := lt_ex ho
        refine g_iast hC hW (i := 133) (by decide) rfl i59 dX7_pair_94 (fun H locs hW => ?_)
        rw [← eσ60] at hW
        refine lv_iload hx hcd dX7_pair_95 (lv_at hl 0 rfl) ?_
        obtain rfl := Option.some.inj ho
        exact g_iret hC hr hlk hsz hW dX7_pair_97
      · have ho := gif_n ho c52
        refine lv_iconst (v := 0) hx hcd dX7_pair_51 (by decide) ?_
        obtain rfl := Option.some.inj ho
        exact g_iret hC hr hlk hsz hW dX7_pair_52
noncomputable def X7_setOpen (σ : gS) (x1 : Int32) (x2 : Int32) : Option (Int32 × gS) :=
  (X7_isStand σ x1).bind fun r2 => if r2 = 0 then (lt_ (g_up σ 132 8 1) fun σ4 => if (σ4 132 8) ≤ 0 then ((X7_changes σ4).bind fun σ7 => gd (ib ((20 : Int32) + x1) 162) <| if (σ7 133 ((20 : Int32) + x1).toNatClampNeg) = 1 then (if x2 = 0 then (lt_ (g_up σ7 133 ((20 : Int32) + x1).toNatClampNeg 0) fun σ14 => some (1, σ14)) else (lt_ (g_up σ7 133 ((20 : Int32) + x1).toNatClampNeg 1) fun σ15 => some (1, σ15))) else (if x2 = 0 then (lt_ (g_up σ7 133 ((20 : Int32) + x1).toNatClampNeg 0) fun σ11 => some (0, σ11)) else (lt_ (g_up σ7 133 ((20 : Int32) + x1).toNatClampNeg 1) fun σ12 => some (0, σ12)))) else (some (0, σ4))) else (lt_ (g_up σ 132 8 0) fun σ16 => if (σ16 132 8) ≤ 0 then ((X7_changes σ16).bind fun σ19 => gd (ib ((20 : Int32) + x1) 162) <| if (σ19 133 ((20 : Int32) + x1).toNatClampNeg) = 1 then (if x2 = 0 then (lt_ (g_up σ19 133 ((20 : Int32) + x1).toNatClampNeg 0) fun σ26 => some (1, σ26)) else (lt_ (g_up σ19 133 ((20 : Int32) + x1).toNatClampNeg 1) fun σ27 => some (1, σ27))) else (if x2 = 0 then (lt_ (g_up σ19 133 ((20 : Int32) + x1).toNatClampNeg 0) fun σ23 => some (0, σ23)) else (lt_ (g_up σ19 133 ((20 : Int32) + x1).toNatClampNeg 1) fun σ24 => some (0, σ24)))) else (some (0, σ16)))
set_option maxHeartbeats 4000000 in
set_option maxRecDepth 100000 in
theorem c_X7_setOpen (l : Launch) (D : va_G) (y : ClassId × ClassId × ClassId) (ad : Nat → Nat) (x1 : Int32) (x2 : Int32) (σ : gS) (sz : Nat) {q : Int32 × gS} (h : X7_setOpen σ x1 x2 = some q) : Met l yX7_setOpen (Cond.code yX7_setOpen cX7_setOpen 4 (some .boolean) :: gl) ({ frames := 3, cells := 0, slots := 0, locals := 80 }) (g_Pc D y ad σ sz [.ref (ad 132), .int x1, .int x2]) (g_Qi D y ad q.2 sz q.1) 0 0 (g_A ad sz) := by
  have ho := h
  unfold X7_setOpen at ho
  refine g_start (by decide) (Nat.le_of_ble_eq_true rfl) (fun p e s m below meth c ls hC hr hlk hsz hW hl => ?_)
  have hx := hC.1
  have hcd := hC.2.1
  have hl : lv_has ls 4 [(0, .ref (ad 132)), (1, .int x1), (2, .int x2)] := hl
  refine lv_aload_n hx hcd dX7_setOpen_0 rfl (lv_at hl 0 rfl) ?_
  refine lv_aload_n hx hcd dX7_setOpen_1 rfl (lv_at hl 0 rfl) ?_
  refine lv_iload_n hx hcd dX7_setOpen_2 rfl (lv_at hl 1 rfl) ?_
  obtain ⟨r2, h1, ho⟩ := gb_some ho
  refine g_calli hW (g_runV (As := [.int x1]) (rest := [.ref (ad 132)]) (i := 132) hC hW (c_X7_isStand l D y ad x1 _ _ h1) ok_X7_73 ⟨rfl, rfl, Nat.le_of_ble_eq_true rfl, Nat.le_of_ble_eq_true rfl⟩ (by decide) rfl rfl rfl rfl hl.1 rfl (Nat.le_of_ble_eq_true rfl) dX7_setOpen_3 ⟨Nat.zero_le _, Nat.zero_le _⟩) (fun H locs hW => ?_)
  refine lv_if_eq (tgt := 13) hx hcd dX7_setOpen_6 (by decide) (fun c3 => ?_) (fun c3 => ?_)
  · have ho := gif_p ho c3
    refine lv_iconst (v := 1) hx hcd dX7_setOpen_13 (by decide) ?_
    obtain ⟨σ4, eσ4, ho⟩ := lt_ex ho
    refine g_puti hC hW (C := RX7) (T := TX7) (N := 19) (ci := 9) (k := 8) (index := 48) (i := 132) inGX7 tyX7 tyX7_ok nmX7 rfl (by decide) fl_X7_48 rfl (by decide) rfl rfl rfl rfl dX7_setOpen_14 (fun H locs hW => ?_)
    rw [← eσ4] at hW
    refine lv_aload_n hx hcd dX7_setOpen_17 rfl (lv_at hl 0 rfl) ?_
    refine g_geti hC hW (C := RX7) (T := TX7) (N := 19) (ci := 9) (k := 8) (index := 48) (i := 132) inGX7 rfl (by decide) fl_X7_48 (by decide) rfl rfl dX7_setOpen_18 ?_
    refine lv_if_le (tgt := 26) hx hcd dX7_setOpen_21 (by decide) (fun c5 => ?_) (fun c5 => ?_)
    · have ho := gif_p ho c5
      refine lv_aload_n hx hcd dX7_setOpen_26 rfl (lv_at hl 0 rfl) ?_
      obtain ⟨σ7, h6, ho⟩ := gb_some ho
      refine g_callv hW (g_runV (As := []) (rest := []) (i := 132) hC hW (c_X7_changes l D y ad _ _ h6) ok_X7_70 ⟨rfl, rfl, Nat.le_of_ble_eq_true rfl, Nat.le_of_ble_eq_true rfl⟩ (by decide) rfl rfl rfl rfl hl.1 rfl (Nat.le_of_ble_eq_true rfl) dX7_setOpen_27 ⟨Nat.zero_le _, Nat.zero_le _⟩) (fun H locs hW => ?_)
      refine lv_aload_n hx hcd dX7_setOpen_30 rfl (lv_at hl 0 rfl) ?_
      refine g_getr hC hW (C := RX7) (T := TX7) (N := 19) (ci := 9) (k := 0) (index := 9) (i := 132) (r := 133) inGX7 rfl (by decide) fl_X7_9 (by decide) rfl rfl dX7_setOpen_31 ?_
      refine lv_bipush (v := 20) hx hcd dX7_setOpen_34 (by decide) ?_
      refine lv_iload_n hx hcd dX7_setOpen_36 rfl (lv_at hl 1 rfl) ?_
      refine lv_iadd hx hcd dX7_setOpen_37 ?_
      obtain ⟨i8, ho⟩ := gd_some ho
      refine g_iald hC hW (i := 133) (by decide) rfl i8 dX7_setOpen_38 ?_
      refine lv_iconst (v := 1) hx hcd dX7_setOpen_39 (by decide) ?_
      refine lv_icmp_ne (tgt := 47) hx hcd dX7_setOpen_40 (by decide) (fun c9 => ?_) (fun c9 => ?_)
      · have ho := gif_n ho c9
        refine lv_iconst (v := 0) hx hcd dX7_setOpen_47 (by decide) ?_
        refine lv_istore_n (lv' := [(3, .int 0), (0, .ref (ad 132)), (1, .int x1), (2, .int x2)]) hx hcd dX7_setOpen_48 rfl hl (by decide) rfl (fun ls hl => ?_)
        refine lv_aload_n hx hcd dX7_setOpen_49 rfl (lv_at hl 1 rfl) ?_
        refine g_getr hC hW (C := RX7) (T := TX7) (N := 19) (ci := 9) (k := 0) (index := 9) (i := 132) (r := 133) inGX7 rfl (by decide) fl_X7_9 (by decide) rfl rfl dX7_setOpen_50 ?_
        refine lv_bipush (v := 20) hx hcd dX7_setOpen_53 (by decide) ?_
        refine lv_iload_n hx hcd dX7_setOpen_55 rfl (lv_at hl 2 rfl) ?_
        refine lv_iadd hx hcd dX7_setOpen_56 ?_
        refine lv_iload_n hx hcd dX7_setOpen_57 rfl (lv_at hl 3 rfl) ?_
        refine lv_if_eq (tgt := 65) hx hcd dX7_setOpen_58 (by decide) (fun c10 => ?_) (fun c10 => ?_)
        · have ho := gif_p ho c10
          refine lv_iconst (v := 0) hx hcd dX7_setOpen_65 (by decide) ?_
          obtain ⟨σ11, eσ11, ho⟩ := lt_ex ho
          refine g_iast hC hW (i := 133) (by decide) rfl i8 dX7_setOpen_66 (fun H locs hW => ?_)
          rw [← eσ11] at hW
          refine lv_iload_n hx hcd dX7_setOpen_67 rfl (lv_at hl 0 rfl) ?_
          obtain rfl := Option.some.inj ho
          exact g_zret (r := 0) hC hr hlk hsz hW (by decide) dX7_setOpen_68
        · have ho := gif_n ho c10
          refine lv_iconst (v := 1) hx hcd dX7_setOpen_61 (by decide) ?_
          refine lv_goto (tgt := 66) hx hcd dX7_setOpen_62 (by decide) ?_
          obtain ⟨σ12, eσ12, ho⟩ := lt_ex ho
          refine g_iast hC hW (i := 133) (by decide) rfl i8 dX7_setOpen_66 (fun H locs hW => ?_)
          rw [← eσ12] at hW
          refine lv_iload_n hx hcd dX7_setOpen_67 rfl (lv_at hl 0 rfl) ?_
          obtain rfl := Option.some.inj ho
          exact g_zret (r := 0) hC hr hlk hsz hW (by decide) dX7_setOpen_68
      · have ho := gif_p ho c9
        refine lv_iconst (v := 1) hx hcd dX7_setOpen_43 (by decide) ?_
        refine lv_goto (tgt := 48) hx hcd dX7_setOpen_44 (by decide) ?_
        refine lv_istore_n (lv' := [(3, .int 1), (0, .ref (ad 132)), (1, .int x1), (2, .int x2)]) hx hcd dX7_setOpen_48 rfl hl (by decide) rfl (fun ls hl => ?_)
        refine lv_aload_n hx hcd dX7_setOpen_49 rfl (lv_at hl 1 rfl) ?_
        refine g_getr hC hW (C := RX7) (T := TX7) (N := 19) (ci := 9) (k := 0) (index := 9) (i := 132) (r := 133) inGX7 rfl (by decide) fl_X7_9 (by decide) rfl rfl dX7_setOpen_50 ?_
        refine lv_bipush (v := 20) hx hcd dX7_setOpen_53 (by decide) ?_
        refine lv_iload_n hx hcd dX7_setOpen_55 rfl (lv_at hl 2 rfl) ?_
        refine lv_iadd hx hcd dX7_setOpen_56 ?_
        refine lv_iload_n hx hcd dX7_setOpen_57 rfl (lv_at hl 3 rfl) ?_
        refine lv_if_eq (tgt := 65) hx hcd dX7_setOpen_58 (by decide) (fun c13 => ?_) (fun c13 => ?_)
        · have ho := gif_p ho c13
          refine lv_iconst (v := 0) hx hcd dX7_setOpen_65 (by decide) ?_
          obtain ⟨σ14, eσ14, ho⟩ := lt_ex ho
          refine g_iast hC hW (i := 133) (by decide) rfl i8 dX7_setOpen_66 (fun H locs hW => ?_)
          rw [← eσ14] at hW
          refine lv_iload_n hx hcd dX7_setOpen_67 rfl (lv_at hl 0 rfl) ?_
          obtain rfl := Option.some.inj ho
          exact g_zret (r := 1) hC hr hlk hsz hW (by decide) dX7_setOpen_68
        · have ho := gif_n ho c13
          refine lv_iconst (v := 1) hx hcd dX7_setOpen_61 (by decide) ?_
          refine lv_goto (tgt := 66) hx hcd dX7_setOpen_62 (by decide) ?_
          obtain ⟨σ15, eσ15, ho⟩ := lt_ex ho
          refine g_iast hC hW (i := 133) (by decide) rfl i8 dX7_setOpen_66 (fun H locs hW => ?_)
          rw [← eσ15] at hW
          refine lv_iload_n hx hcd dX7_setOpen_67 rfl (lv_at hl 0 rfl) ?_
          obtain rfl := Option.some.inj ho
          exact g_zret (r := 1) hC hr hlk hsz hW (by decide) dX7_setOpen_68
    · have ho := gif_n ho c5
      refine lv_iconst (v := 0) hx hcd dX7_setOpen_24 (by decide) ?_
      obtain rfl := Option.some.inj ho
      exact g_zret (r := 0) hC hr hlk hsz hW (by decide) dX7_setOpen_25
  · have ho := gif_n ho c3
    refine lv_iconst (v := 0) hx hcd dX7_setOpen_9 (by decide) ?_
    refine lv_goto (tgt := 14) hx hcd dX7_setOpen_10 (by decide) ?_
    obtain ⟨σ16, eσ16, ho⟩ := lt_ex ho
    refine g_puti hC hW (C := RX7) (T := TX7) (N := 19) (ci := 9) (k := 8) (index := 48) (i := 132) inGX7 tyX7 tyX7_ok nmX7 rfl (by decide) fl_X7_48 rfl (by decide) rfl rfl rfl rfl dX7_setOpen_14 (fun H locs hW => ?_)
    rw [← eσ16] at hW
    refine lv_aload_n hx hcd dX7_setOpen_17 rfl (lv_at hl 0 rfl) ?_
    refine g_geti hC hW (C := RX7) (T := TX7) (N := 19) (ci := 9) (k := 8) (index := 48) (i := 132) inGX7 rfl (by decide) fl_X7_48 (by decide) rfl rfl dX7_setOpen_18 ?_
    refine lv_if_le (tgt := 26) hx hcd dX7_setOpen_21 (by decide) (fun c17 => ?_) (fun c17 => ?_)
    · have ho := gif_p ho c17
      refine lv_aload_n hx hcd dX7_setOpen_26 rfl (lv_at hl 0 rfl) ?_
      obtain ⟨σ19, h18, ho⟩ := gb_some ho
      refine g_callv hW (g_runV (As := []) (rest := []) (i := 132) hC hW (c_X7_changes l D y ad _ _ h18) ok_X7_70 ⟨rfl, rfl, Nat.le_of_ble_eq_true rfl, Nat.le_of_ble_eq_true rfl⟩ (by decide) rfl rfl rfl rfl hl.1 rfl (Nat.le_of_ble_eq_true rfl) dX7_setOpen_27 ⟨Nat.zero_le _, Nat.zero_le _⟩) (fun H locs hW => ?_)
      refine lv_aload_n hx hcd dX7_setOpen_30 rfl (lv_at hl 0 rfl) ?_
      refine g_getr hC hW (C := RX7) (T := TX7) (N := 19) (ci := 9) (k := 0) (index := 9) (i := 132) (r := 133) inGX7 rfl (by decide) fl_X7_9 (by decide) rfl rfl dX7_setOpen_31 ?_
      refine lv_bipush (v := 20) hx hcd dX7_setOpen_34 (by decide) ?_
      refine lv_iload_n hx hcd dX7_setOpen_36 rfl (lv_at hl 1 rfl) ?_
      refine lv_iadd hx hcd dX7_setOpen_37 ?_
      obtain ⟨i20, ho⟩ := gd_some ho
      refine g_iald hC hW (i := 133) (by decide) rfl i20 dX7_setOpen_38 ?_
      refine lv_iconst (v := 1) hx hcd dX7_setOpen_39 (by decide) ?_
      refine lv_icmp_ne (tgt := 47) hx hcd dX7_setOpen_40 (by decide) (fun c21 => ?_) (fun c21 => ?_)
      · have ho := gif_n ho c21
        refine lv_iconst (v := 0) hx hcd dX7_setOpen_47 (by decide) ?_
        refine lv_istore_n (lv' := [(3, .int 0), (0, .ref (ad 132)), (1, .int x1), (2, .int x2)]) hx hcd dX7_setOpen_48 rfl hl (by decide) rfl (fun ls hl => ?_)
        refine lv_aload_n hx hcd dX7_setOpen_49 rfl (lv_at hl 1 rfl) ?_
        refine g_getr hC hW (C := RX7) (T := TX7) (N := 19) (ci := 9) (k := 0) (index := 9) (i := 132) (r := 133) inGX7 rfl (by decide) fl_X7_9 (by decide) rfl rfl dX7_setOpen_50 ?_
        refine lv_bipush (v := 20) hx hcd dX7_setOpen_53 (by decide) ?_
        refine lv_iload_n hx hcd dX7_setOpen_55 rfl (lv_at hl 2 rfl) ?_
        refine lv_iadd hx hcd dX7_setOpen_56 ?_
        refine lv_iload_n hx hcd dX7_setOpen_57 rfl (lv_at hl 3 rfl) ?_
        refine lv_if_eq (tgt := 65) hx hcd dX7_setOpen_58 (by decide) (fun c22 => ?_) (fun c22 => ?_)
        · have ho := gif_p ho c22
          refine lv_iconst (v := 0) hx hcd dX7_setOpen_65 (by decide) ?_
          obtain ⟨σ23, eσ23, ho⟩ := lt_ex ho
          refine g_iast hC hW (i := 133) (by decide) rfl i20 dX7_setOpen_66 (fun H locs hW => ?_)
          rw [← eσ23] at hW
          refine lv_iload_n hx hcd dX7_setOpen_67 rfl (lv_at hl 0 rfl) ?_
          obtain rfl := Option.some.inj ho
          exact g_zret (r := 0) hC hr hlk hsz hW (by decide) dX7_setOpen_68
        · have ho := gif_n ho c22
          refine lv_iconst (v := 1) hx hcd dX7_setOpen_61 (by decide) ?_
          refine lv_goto (tgt := 66) hx hcd dX7_setOpen_62 (by decide) ?_
          obtain ⟨σ24, eσ24, ho⟩ := lt_ex ho
          refine g_iast hC hW (i := 133) (by decide) rfl i20 dX7_setOpen_66 (fun H locs hW => ?_)
          rw [← eσ24] at hW
          refine lv_iload_n hx hcd dX7_setOpen_67 rfl (lv_at hl 0 rfl) ?_
          obtain rfl := Option.some.inj ho
          exact g_zret (r := 0) hC hr hlk hsz hW (by decide) dX7_setOpen_68
      · have ho := gif_p ho c21
        refine lv_iconst (v := 1) hx hcd dX7_setOpen_43 (by decide) ?_
        refine lv_goto (tgt := 48) hx hcd dX7_setOpen_44 (by decide) ?_
        refine lv_istore_n (lv' := [(3, .int 1), (0, .ref (ad 132)), (1, .int x1), (2, .int x2)]) hx hcd dX7_setOpen_48 rfl hl (by decide) rfl (fun ls hl => ?_)
        refine lv_aload_n hx hcd dX7_setOpen_49 rfl (lv_at hl 1 rfl) ?_
        refine g_getr hC hW (C := RX7) (T := TX7) (N := 19) (ci := 9) (k := 0) (index := 9) (i := 132) (r := 133) inGX7 rfl (by decide) fl_X7_9 (by decide) rfl rfl dX7_setOpen_50 ?_
        refine lv_bipush (v := 20) hx hcd dX7_setOpen_53 (by decide) ?_
        refine lv_iload_n hx hcd dX7_setOpen_55 rfl (lv_at hl 2 rfl) ?_
        refine lv_iadd hx hcd dX7_setOpen_56 ?_
        refine lv_iload_n hx hcd dX7_setOpen_57 rfl (lv_at hl 3 rfl) ?_
        refine lv_if_eq (tgt := 65) hx hcd dX7_setOpen_58 (by decide) (fun c25 => ?_) (fun c25 => ?_)
        · have ho := gif_p ho c25
          refine lv_iconst (v := 0) hx hcd dX7_setOpen_65 (by decide) ?_
          obtain ⟨σ26, eσ26, ho⟩ := lt_ex ho
          refine g_iast hC hW (i := 133) (by decide) rfl i20 dX7_setOpen_66 (fun H locs hW => ?_)
          rw [← eσ26] at hW
          refine lv_iload_n hx hcd dX7_setOpen_67 rfl (lv_at hl 0 rfl) ?_
          obtain rfl := Option.some.inj ho
          exact g_zret (r := 1) hC hr hlk hsz hW (by decide) dX7_setOpen_68
        · have ho := gif_n ho c25
          refine lv_iconst (v := 1) hx hcd dX7_setOpen_61 (by decide) ?_
          refine lv_goto (tgt := 66) hx hcd dX7_setOpen_62 (by decide) ?_
          obtain ⟨σ27, eσ27, ho⟩ := lt_ex ho
          refine g_iast hC hW (i := 133) (by decide) rfl i20 dX7_setOpen_66 (fun H locs hW => ?_)
          rw [← eσ27] at hW
          refine lv_iload_n hx hcd dX7_setOpen_67 rfl (lv_at hl 0 rfl) ?_
          obtain rfl := Option.some.inj ho
          exact g_zret (r := 1) hC hr hlk hsz hW (by decide) dX7_setOpen_68
    · have ho := gif_n ho c17
      refine lv_iconst (v := 0) hx hcd dX7_setOpen_24 (by decide) ?_
      obtain rfl := Option.some.inj ho
      exact g_zret (r := 0) hC hr hlk hsz hW (by decide) dX7_setOpen_25
noncomputable def X7_setBuffer (σ : gS) (x1 : Int32) : Option (Int32 × gS) :=
  (X7_in σ x1 0 60).bind fun r2 => if r2 = 0 then (lt_ (g_up σ 132 8 1) fun σ4 => if (σ4 132 8) ≤ 0 then ((X7_changes σ4).bind fun σ7 => lt_ (g_up σ7 133 (2 : Int32).toNatClampNeg x1) fun σ8 => some ((σ7 133 (2 : Int32).toNatClampNeg), σ8)) else (some (0, σ4))) else (lt_ (g_up σ 132 8 0) fun σ9 => if (σ9 132 8) ≤ 0 then ((X7_changes σ9).bind fun σ12 => lt_ (g_up σ12 133 (2 : Int32).toNatClampNeg x1) fun σ13 => some ((σ12 133 (2 : Int32).toNatClampNeg), σ13)) else (some (0, σ9)))
set_option maxHeartbeats 4000000 in
set_option maxRecDepth 100000 in
theorem c_X7_setBuffer (l : Launch) (D : va_G) (y : ClassId × ClassId × ClassId) (ad : Nat → Nat) (x1 : Int32) (σ : gS) (sz : Nat) {q : Int32 × gS} (h : X7_setBuffer σ x1 = some q) : Met l yX7_setBuffer (Cond.code yX7_setBuffer cX7_setBuffer 3 (some .int) :: gl) ({ frames := 3, cells := 0, slots := 0, locals := 80 }) (g_Pc D y ad σ sz [.ref (ad 132), .int x1]) (g_Qi D y ad q.2 sz q.1) 0 0 (g_A ad sz) := by
  have ho := h
  unfold X7_setBuffer at ho
  refine g_start (by decide) (Nat.le_of_ble_eq_true rfl) (fun p e s m below meth c ls hC hr hlk hsz hW hl => ?_)
  have hx := hC.1
  have hcd := hC.2.1
  have hl : lv_has ls 3 [(0, .ref (ad 132)), (1, .int x1)] := hl
  refine lv_aload_n hx hcd dX7_setBuffer_0 rfl (lv_at hl 0 rfl) ?_
  refine lv_iload_n hx hcd dX7_setBuffer_1 rfl (lv_at hl 1 rfl) ?_
  refine lv_iconst (v := 0) hx hcd dX7_setBuffer_2 (by decide) ?_
  refine lv_bipush (v := 60) hx hcd dX7_setBuffer_3 (by decide) ?_
  obtain ⟨r2, h1, ho⟩ := gb_some ho
  refine g_calli hW (g_runS (As := [.int x1, .int 0, .int 60]) (rest := [.ref (ad 132)]) hC hW (c_X7_in l D y ad x1 0 60 _ _ h1) ok_X7_51 ⟨rfl, rfl, Nat.le_of_ble_eq_true rfl, Nat.le_of_ble_eq_true rfl⟩ rfl hl.1 rfl (Nat.le_of_ble_eq_true rfl) dX7_setBuffer_5 ⟨Nat.zero_le _, Nat.zero_le _⟩) (fun H locs hW => ?_)
  refine lv_if_eq (tgt := 15) hx hcd dX7_setBuffer_8 (by decide) (fun c3 => ?_) (fun c3 => ?_)
  · have ho := gif_p ho c3
    refine lv_iconst (v := 1) hx hcd dX7_setBuffer_15 (by decide) ?_
    obtain ⟨σ4, eσ4, ho⟩ := lt_ex ho
    refine g_puti hC hW (C := RX7) (T := TX7) (N := 19) (ci := 9) (k := 8) (index := 48) (i := 132) inGX7 tyX7 tyX7_ok nmX7 rfl (by decide) fl_X7_48 rfl (by decide) rfl rfl rfl rfl dX7_setBuffer_16 (fun H locs hW => ?_)
    rw [← eσ4] at hW
    refine lv_aload_n hx hcd dX7_setBuffer_19 rfl (lv_at hl 0 rfl) ?_
    refine g_geti hC hW (C := RX7) (T := TX7) (N := 19) (ci := 9) (k := 8) (index := 48) (i := 132) inGX7 rfl (by decide) fl_X7_48 (by decide) rfl rfl dX7_setBuffer_20 ?_
    refine lv_if_le (tgt := 28) hx hcd dX7_setBuffer_23 (by decide) (fun c5 => ?_) (fun c5 => ?_)
    · have ho := gif_p ho c5
      refine lv_aload_n hx hcd dX7_setBuffer_28 rfl (lv_at hl 0 rfl) ?_
      obtain ⟨σ7, h6, ho⟩ := gb_some ho
      refine g_callv hW (g_runV (As := []) (rest := []) (i := 132) hC hW (c_X7_changes l D y ad _ _ h6) ok_X7_70 ⟨rfl, rfl, Nat.le_of_ble_eq_true rfl, Nat.le_of_ble_eq_true rfl⟩ (by decide) rfl rfl rfl rfl hl.1 rfl (Nat.le_of_ble_eq_true rfl) dX7_setBuffer_29 ⟨Nat.zero_le _, Nat.zero_le _⟩) (fun H locs hW => ?_)
      refine lv_aload_n hx hcd dX7_setBuffer_32 rfl (lv_at hl 0 rfl) ?_
      refine g_getr hC hW (C := RX7) (T := TX7) (N := 19) (ci := 9) (k := 0) (index := 9) (i := 132) (r := 133) inGX7 rfl (by decide) fl_X7_9 (by decide) rfl rfl dX7_setBuffer_33 ?_
      refine lv_iconst (v := 2) hx hcd dX7_setBuffer_36 (by decide) ?_
      refine g_iald hC hW (i := 133) (by decide) rfl (by decide) dX7_setBuffer_37 ?_
      refine lv_istore_n (lv' := [(2, .int (σ7 133 (2 : Int32).toNatClampNeg)), (0, .ref (ad 132)), (1, .int x1)]) hx hcd dX7_setBuffer_38 rfl hl (by decide) rfl (fun ls hl => ?_)
      refine lv_aload_n hx hcd dX7_setBuffer_39 rfl (lv_at hl 1 rfl) ?_
      refine g_getr hC hW (C := RX7) (T := TX7) (N := 19) (ci := 9) (k := 0) (index := 9) (i := 132) (r := 133) inGX7 rfl (by decide) fl_X7_9 (by decide) rfl rfl dX7_setBuffer_40 ?_
      refine lv_iconst (v := 2) hx hcd dX7_setBuffer_43 (by decide) ?_
      refine lv_iload_n hx hcd dX7_setBuffer_44 rfl (lv_at hl 2 rfl) ?_
      obtain ⟨σ8, eσ8, ho⟩ := lt_ex ho
      refine g_iast hC hW (i := 133) (by decide) rfl (by decide) dX7_setBuffer_45 (fun H locs hW => ?_)
      rw [← eσ8] at hW
      refine lv_iload_n hx hcd dX7_setBuffer_46 rfl (lv_at hl 0 rfl) ?_
      obtain rfl := Option.some.inj ho
      exact g_iret hC hr hlk hsz hW dX7_setBuffer_47
    · have ho := gif_n ho c5
      refine lv_iconst (v := 0) hx hcd dX7_setBuffer_26 (by decide) ?_
      obtain rfl := Option.some.inj ho
      exact g_iret hC hr hlk hsz hW dX7_setBuffer_27
  · have ho := gif_n ho c3
    refine lv_iconst (v := 0) hx hcd dX7_setBuffer_11 (by decide) ?_
    refine lv_goto (tgt := 16) hx hcd dX7_setBuffer_12 (by decide) ?_
    obtain ⟨σ9, eσ9, ho⟩ := lt_ex ho
    refine g_puti hC hW (C := RX7) (T := TX7) (N := 19) (ci := 9) (k := 8) (index := 48) (i := 132) inGX7 tyX7 tyX7_ok nmX7 rfl (by decide) fl_X7_48 rfl (by decide) rfl rfl rfl rfl dX7_setBuffer_16 (fun H locs hW => ?_)
    rw [← eσ9] at hW
    refine lv_aload_n hx hcd dX7_setBuffer_19 rfl (lv_at hl 0 rfl) ?_
    refine g_geti hC hW (C := RX7) (T := TX7) (N := 19) (ci := 9) (k := 8) (index := 48) (i := 132) inGX7 rfl (by decide) fl_X7_48 (by decide) rfl rfl dX7_setBuffer_20 ?_
    refine lv_if_le (tgt := 28) hx hcd dX7_setBuffer_23 (by decide) (fun c10 => ?_) (fun c10 => ?_)
    · have ho := gif_p ho c10
      refine lv_aload_n hx hcd dX7_setBuffer_28 rfl (lv_at hl 0 rfl) ?_
      obtain ⟨σ12, h11, ho⟩ := gb_some ho
      refine g_callv hW (g_runV (As := []) (rest := []) (i := 132) hC hW (c_X7_changes l D y ad _ _ h11) ok_X7_70 ⟨rfl, rfl, Nat.le_of_ble_eq_true rfl, Nat.le_of_ble_eq_true rfl⟩ (by decide) rfl rfl rfl rfl hl.1 rfl (Nat.le_of_ble_eq_true rfl) dX7_setBuffer_29 ⟨Nat.zero_le _, Nat.zero_le _⟩) (fun H locs hW => ?_)
      refine lv_aload_n hx hcd dX7_setBuffer_32 rfl (lv_at hl 0 rfl) ?_
      refine g_getr hC hW (C := RX7) (T := TX7) (N := 19) (ci := 9) (k := 0) (index := 9) (i := 132) (r := 133) inGX7 rfl (by decide) fl_X7_9 (by decide) rfl rfl dX7_setBuffer_33 ?_
      refine lv_iconst (v := 2) hx hcd dX7_setBuffer_36 (by decide) ?_
      refine g_iald hC hW (i := 133) (by decide) rfl (by decide) dX7_setBuffer_37 ?_
      refine lv_istore_n (lv' := [(2, .int (σ12 133 (2 : Int32).toNatClampNeg)), (0, .ref (ad 132)), (1, .int x1)]) hx hcd dX7_setBuffer_38 rfl hl (by decide) rfl (fun ls hl => ?_)
      refine lv_aload_n hx hcd dX7_setBuffer_39 rfl (lv_at hl 1 rfl) ?_
      refine g_getr hC hW (C := RX7) (T := TX7) (N := 19) (ci := 9) (k := 0) (index := 9) (i := 132) (r := 133) inGX7 rfl (by decide) fl_X7_9 (by decide) rfl rfl dX7_setBuffer_40 ?_
      refine lv_iconst (v := 2) hx hcd dX7_setBuffer_43 (by decide) ?_
      refine lv_iload_n hx hcd dX7_setBuffer_44 rfl (lv_at hl 2 rfl) ?_
      obtain ⟨σ13, eσ13, ho⟩ := lt_ex ho
      refine g_iast hC hW (i := 133) (by decide) rfl (by decide) dX7_setBuffer_45 (fun H locs hW => ?_)
      rw [← eσ13] at hW
      refine lv_iload_n hx hcd dX7_setBuffer_46 rfl (lv_at hl 0 rfl) ?_
      obtain rfl := Option.some.inj ho
      exact g_iret hC hr hlk hsz hW dX7_setBuffer_47
    · have ho := gif_n ho c10
      refine lv_iconst (v := 0) hx hcd dX7_setBuffer_26 (by decide) ?_
      obtain rfl := Option.some.inj ho
      exact g_iret hC hr hlk hsz hW dX7_setBuffer_27
noncomputable def X7_at (σ : gS) (x0 : Int32) : Option (Int32) :=
  some ((92 : Int32) + ((7 : Int32) * x0))
set_option maxHeartbeats 4000000 in
set_option maxRecDepth 100000 in
theorem c_X7_at (l : Launch) (D : va_G) (y : ClassId × ClassId × ClassId) (ad : Nat → Nat) (x0 : Int32) (σ : gS) (sz : Nat) {q : Int32} (h : X7_at σ x0 = some q) : Met l yX7_at (Cond.code yX7_at cX7_at 1 (some .int) :: gl) ({ frames := 0, cells := 0, slots := 0, locals := 0 }) (g_Pc D y ad σ sz [.int x0]) (g_Qi D y ad σ sz q) 0 0 (g_A ad sz) := by
  have ho := h
  unfold X7_at at ho
  refine g_start (by decide) (Nat.le_of_ble_eq_true rfl) (fun p e s m below meth c ls hC hr hlk hsz hW hl => ?_)
  have hx := hC.1
  have hcd := hC.2.1
  have hl : lv_has ls 1 [(0, .int x0)] := hl
  refine lv_bipush (v := 92) hx hcd dX7_at_0 (by decide) ?_
  refine lv_bipush (v := 7) hx hcd dX7_at_2 (by decide) ?_
  refine lv_iload_n hx hcd dX7_at_4 rfl (lv_at hl 0 rfl) ?_
  refine lv_imul hx hcd dX7_at_5 ?_
  refine lv_iadd hx hcd dX7_at_6 ?_
  obtain rfl := Option.some.inj ho
  exact g_iret hC hr hlk hsz hW dX7_at_7
noncomputable def X7_isTurn (σ : gS) (x1 : Int32) : Option (Int32) :=
  (X7_in σ x1 0 ((σ 133 (1 : Int32).toNatClampNeg) - (1 : Int32))).bind fun r2 => gd (bz r2) <| some r2
set_option maxHeartbeats 4000000 in
set_option maxRecDepth 100000 in
theorem c_X7_isTurn (l : Launch) (D : va_G) (y : ClassId × ClassId × ClassId) (ad : Nat → Nat) (x1 : Int32) (σ : gS) (sz : Nat) {q : Int32} (h : X7_isTurn σ x1 = some q) : Met l yX7_isTurn (Cond.code yX7_isTurn cX7_isTurn 2 (some .boolean) :: gl) ({ frames := 1, cells := 0, slots := 0, locals := 22 }) (g_Pc D y ad σ sz [.ref (ad 132), .int x1]) (g_Qi D y ad σ sz q) 0 0 (g_A ad sz) := by
  have ho := h
  unfold X7_isTurn at ho
  refine g_start (by decide) (Nat.le_of_ble_eq_true rfl) (fun p e s m below meth c ls hC hr hlk hsz hW hl => ?_)
  have hx := hC.1
  have hcd := hC.2.1
  have hl : lv_has ls 2 [(0, .ref (ad 132)), (1, .int x1)] := hl
  refine lv_iload_n hx hcd dX7_isTurn_0 rfl (lv_at hl 1 rfl) ?_
  refine lv_iconst (v := 0) hx hcd dX7_isTurn_1 (by decide) ?_
  refine lv_aload_n hx hcd dX7_isTurn_2 rfl (lv_at hl 0 rfl) ?_
  refine g_getr hC hW (C := RX7) (T := TX7) (N := 19) (ci := 9) (k := 0) (index := 9) (i := 132) (r := 133) inGX7 rfl (by decide) fl_X7_9 (by decide) rfl rfl dX7_isTurn_3 ?_
  refine lv_iconst (v := 1) hx hcd dX7_isTurn_6 (by decide) ?_
  refine g_iald hC hW (i := 133) (by decide) rfl (by decide) dX7_isTurn_7 ?_
  refine lv_iconst (v := 1) hx hcd dX7_isTurn_8 (by decide) ?_
  refine lv_isub hx hcd dX7_isTurn_9 ?_
  obtain ⟨r2, h1, ho⟩ := gb_some ho
  refine g_calli hW (g_runS (As := [.int x1, .int 0, .int ((σ 133 (1 : Int32).toNatClampNeg) - (1 : Int32))]) (rest := []) hC hW (c_X7_in l D y ad x1 0 ((σ 133 (1 : Int32).toNatClampNeg) - (1 : Int32)) _ _ h1) ok_X7_51 ⟨rfl, rfl, Nat.le_of_ble_eq_true rfl, Nat.le_of_ble_eq_true rfl⟩ rfl hl.1 rfl (Nat.le_of_ble_eq_true rfl) dX7_isTurn_10 ⟨Nat.zero_le _, Nat.zero_le _⟩) (fun H locs hW => ?_)
  obtain ⟨z3, ho⟩ := gd_some ho
  obtain rfl := Option.some.inj ho
  exact g_zret (r := r2) hC hr hlk hsz hW z3 dX7_isTurn_13
noncomputable def X7_tow (σ : gS) (x1 : Int32) : Option (Int32) :=
  (X7_at σ x1).bind fun r2 => gd (ib (r2 + (4 : Int32)) 162) <| some (σ 133 (r2 + (4 : Int32)).toNatClampNeg)
set_option maxHeartbeats 4000000 in
set_option maxRecDepth 100000 in
theorem c_X7_tow (l : Launch) (D : va_G) (y : ClassId × ClassId × ClassId) (ad : Nat → Nat) (x1 : Int32) (σ : gS) (sz : Nat) {q : Int32} (h : X7_tow σ x1 = some q) : Met l yX7_tow (Cond.code yX7_tow cX7_tow 2 (some .int) :: gl) ({ frames := 1, cells := 0, slots := 0, locals := 20 }) (g_Pc D y ad σ sz [.ref (ad 132), .int x1]) (g_Qi D y ad σ sz q) 0 0 (g_A ad sz) := by
  have ho := h
  unfold X7_tow at ho
  refine g_start (by decide) (Nat.le_of_ble_eq_true rfl) (fun p e s m below meth c ls hC hr hlk hsz hW hl => ?_)
  have hx := hC.1
  have hcd := hC.2.1
  have hl : lv_has ls 2 [(0, .ref (ad 132)), (1, .int x1)] := hl
  refine lv_aload_n hx hcd dX7_tow_0 rfl (lv_at hl 0 rfl) ?_
  refine g_getr hC hW (C := RX7) (T := TX7) (N := 19) (ci := 9) (k := 0) (index := 9) (i := 132) (r := 133) inGX7 rfl (by decide) fl_X7_9 (by decide) rfl rfl dX7_tow_1 ?_
  refine lv_iload_n hx hcd dX7_tow_4 rfl (lv_at hl 1 rfl) ?_
  obtain ⟨r2, h1, ho⟩ := gb_some ho
  refine g_calli hW (g_runS (As := [.int x1]) (rest := [.ref (ad 133)]) hC hW (c_X7_at l D y ad x1 _ _ h1) ok_X7_81 ⟨rfl, rfl, Nat.le_of_ble_eq_true rfl, Nat.le_of_ble_eq_true rfl⟩ rfl hl.1 rfl (Nat.le_of_ble_eq_true rfl) dX7_tow_5 ⟨Nat.zero_le _, Nat.zero_le _⟩) (fun H locs hW => ?_)
  refine lv_iconst (v := 4) hx hcd dX7_tow_8 (by decide) ?_
  refine lv_iadd hx hcd dX7_tow_9 ?_
  obtain ⟨i3, ho⟩ := gd_some ho
  refine g_iald hC hW (i := 133) (by decide) rfl i3 dX7_tow_10 ?_
  obtain rfl := Option.some.inj ho
  exact g_iret hC hr hlk hsz hW dX7_tow_11
noncomputable def X7_isStay (σ : gS) (x1 : Int32) : Option (Int32) :=
  if x1 < 0 then (some 0) else ((X7_isTurn σ (x1 / (2 : Int32))).bind fun r3 => if r3 = 0 then (some 0) else (if (x1 - x1 / (2 : Int32) * (2 : Int32)) = 0 then (some 1) else ((X7_tow σ (x1 / (2 : Int32))).bind fun r7 => if r7 < 0 then (some 0) else (some 1))))
set_option maxHeartbeats 4000000 in
set_option maxRecDepth 100000 in
theorem c_X7_isStay (l : Launch) (D : va_G) (y : ClassId × ClassId × ClassId) (ad : Nat → Nat) (x1 : Int32) (σ : gS) (sz : Nat) {q : Int32} (h : X7_isStay σ x1 = some q) : Met l yX7_isStay (Cond.code yX7_isStay cX7_isStay 2 (some .boolean) :: gl) ({ frames := 2, cells := 0, slots := 0, locals := 43 }) (g_Pc D y ad σ sz [.ref (ad 132), .int x1]) (g_Qi D y ad σ sz q) 0 0 (g_A ad sz) := by
  have ho := h
  unfold X7_isStay at ho
  refine g_start (by decide) (Nat.le_of_ble_eq_true rfl) (fun p e s m below meth c ls hC hr hlk hsz hW hl => ?_)
  have hx := hC.1
  have hcd := hC.2.1
  have hl : lv_has ls 2 [(0, .ref (ad 132)), (1, .int x1)] := hl
  refine lv_iload_n hx hcd dX7_isStay_0 rfl (lv_at hl 1 rfl) ?_
  refine lv_if_lt (tgt := 34) hx hcd dX7_isStay_1 (by decide) (fun c1 => ?_) (fun c1 => ?_)
  · have ho := gif_p ho c1
    refine lv_iconst (v := 0) hx hcd dX7_isStay_34 (by decide) ?_
    obtain rfl := Option.some.inj ho
    exact g_zret (r := 0) hC hr hlk hsz hW (by decide) dX7_isStay_35
  · have ho := gif_n ho c1
    refine lv_aload_n hx hcd dX7_isStay_4 rfl (lv_at hl 0 rfl) ?_
    refine lv_iload_n hx hcd dX7_isStay_5 rfl (lv_at hl 1 rfl) ?_
    refine lv_iconst (v := 2) hx hcd dX7_isStay_6 (by decide) ?_
    refine lv_idiv hx hcd dX7_isStay_7 (by decide) ?_
    obtain ⟨r3, h2, ho⟩ := gb_some ho
    refine g_calli hW (g_runV (As := [.int (x1 / (2 : Int32))]) (rest := []) (i := 132) hC hW (c_X7_isTurn l D y ad (x1 / (2 : Int32)) _ _ h2) ok_X7_85 ⟨rfl, rfl, Nat.le_of_ble_eq_true rfl, Nat.le_of_ble_eq_true rfl⟩ (by decide) rfl rfl rfl rfl hl.1 rfl (Nat.le_of_ble_eq_true rfl) dX7_isStay_8 ⟨Nat.zero_le _, Nat.zero_le _⟩) (fun H locs hW => ?_)
    refine lv_if_eq (tgt := 34) hx hcd dX7_isStay_11 (by decide) (fun c4 => ?_) (fun c4 => ?_)
    · have ho := gif_p ho c4
      refine lv_iconst (v := 0) hx hcd dX7_isStay_34 (by decide) ?_
      obtain rfl := Option.some.inj ho
      exact g_zret (r := 0) hC hr hlk hsz hW (by decide) dX7_isStay_35
    · have ho := gif_n ho c4
      refine lv_iload_n hx hcd dX7_isStay_14 rfl (lv_at hl 1 rfl) ?_
      refine lv_iconst (v := 2) hx hcd dX7_isStay_15 (by decide) ?_
      refine lv_irem hx hcd dX7_isStay_16 (by decide) ?_
      refine lv_if_eq (tgt := 30) hx hcd dX7_isStay_17 (by decide) (fun c5 => ?_) (fun c5 => ?_)
      · have ho := gif_p ho c5
        refine lv_iconst (v := 1) hx hcd dX7_isStay_30 (by decide) ?_
        refine lv_goto (tgt := 35) hx hcd dX7_isStay_31 (by decide) ?_
        obtain rfl := Option.some.inj ho
        exact g_zret (r := 1) hC hr hlk hsz hW (by decide) dX7_isStay_35
      · have ho := gif_n ho c5
        refine lv_aload_n hx hcd dX7_isStay_20 rfl (lv_at hl 0 rfl) ?_
        refine lv_iload_n hx hcd dX7_isStay_21 rfl (lv_at hl 1 rfl) ?_
        refine lv_iconst (v := 2) hx hcd dX7_isStay_22 (by decide) ?_
        refine lv_idiv hx hcd dX7_isStay_23 (by decide) ?_
        obtain ⟨r7, h6, ho⟩ := gb_some ho
        refine g_calli hW (g_runV (As := [.int (x1 / (2 : Int32))]) (rest := []) (i := 132) hC hW (c_X7_tow l D y ad (x1 / (2 : Int32)) _ _ h6) ok_X7_88 ⟨rfl, rfl, Nat.le_of_ble_eq_true rfl, Nat.le_of_ble_eq_true rfl⟩ (by decide) rfl rfl rfl rfl hl.1 rfl (Nat.le_of_ble_eq_true rfl) dX7_isStay_24 ⟨Nat.zero_le _, Nat.zero_le _⟩) (fun H locs hW => ?_)
        refine lv_if_lt (tgt := 34) hx hcd dX7_isStay_27 (by decide) (fun c8 => ?_) (fun c8 => ?_)
        · have ho := gif_p ho c8
          refine lv_iconst (v := 0) hx hcd dX7_isStay_34 (by decide) ?_
          obtain rfl := Option.some.inj ho
          exact g_zret (r := 0) hC hr hlk hsz hW (by decide) dX7_isStay_35
        · have ho := gif_n ho c8
          refine lv_iconst (v := 1) hx hcd dX7_isStay_30 (by decide) ?_
          refine lv_goto (tgt := 35) hx hcd dX7_isStay_31 (by decide) ?_
          obtain rfl := Option.some.inj ho
          exact g_zret (r := 1) hC hr hlk hsz hW (by decide) dX7_isStay_35
noncomputable def X7_isStay_ (σ : gS) (x1 : Int32) (x2 : Int32) : Option (Int32) :=
  (X7_isTurn σ x1).bind fun r2 => if r2 = 0 then (some 0) else ((X7_in σ x2 0 1).bind fun r5 => if r5 = 0 then (some 0) else ((X7_isStay σ (((2 : Int32) * x1) + x2)).bind fun r8 => if r8 = 0 then (some 0) else (some 1)))
set_option maxHeartbeats 4000000 in
set_option maxRecDepth 100000 in
theorem c_X7_isStay_ (l : Launch) (D : va_G) (y : ClassId × ClassId × ClassId) (ad : Nat → Nat) (x1 : Int32) (x2 : Int32) (σ : gS) (sz : Nat) {q : Int32} (h : X7_isStay_ σ x1 x2 = some q) : Met l yX7_isStay_ (Cond.code yX7_isStay_ cX7_isStay_ 3 (some .boolean) :: gl) ({ frames := 3, cells := 0, slots := 0, locals := 64 }) (g_Pc D y ad σ sz [.ref (ad 132), .int x1, .int x2]) (g_Qi D y ad σ sz q) 0 0 (g_A ad sz) := by
  have ho := h
  unfold X7_isStay_ at ho
  refine g_start (by decide) (Nat.le_of_ble_eq_true rfl) (fun p e s m below meth c ls hC hr hlk hsz hW hl => ?_)
  have hx := hC.1
  have hcd := hC.2.1
  have hl : lv_has ls 3 [(0, .ref (ad 132)), (1, .int x1), (2, .int x2)] := hl
  refine lv_aload_n hx hcd dX7_isStay__0 rfl (lv_at hl 0 rfl) ?_
  refine lv_iload_n hx hcd dX7_isStay__1 rfl (lv_at hl 1 rfl) ?_
  obtain ⟨r2, h1, ho⟩ := gb_some ho
  refine g_calli hW (g_runV (As := [.int x1]) (rest := []) (i := 132) hC hW (c_X7_isTurn l D y ad x1 _ _ h1) ok_X7_85 ⟨rfl, rfl, Nat.le_of_ble_eq_true rfl, Nat.le_of_ble_eq_true rfl⟩ (by decide) rfl rfl rfl rfl hl.1 rfl (Nat.le_of_ble_eq_true rfl) dX7_isStay__2 ⟨Nat.zero_le _, Nat.zero_le _⟩) (fun H locs hW => ?_)
  refine lv_if_eq (tgt := 33) hx hcd dX7_isStay__5 (by decide) (fun c3 => ?_) (fun c3 => ?_)
  · have ho := gif_p ho c3
    refine lv_iconst (v := 0) hx hcd dX7_isStay__33 (by decide) ?_
    obtain rfl := Option.some.inj ho
    exact g_zret (r := 0) hC hr hlk hsz hW (by decide) dX7_isStay__34
  · have ho := gif_n ho c3
    refine lv_iload_n hx hcd dX7_isStay__8 rfl (lv_at hl 2 rfl) ?_
    refine lv_iconst (v := 0) hx hcd dX7_isStay__9 (by decide) ?_
    refine lv_iconst (v := 1) hx hcd dX7_isStay__10 (by decide) ?_
    obtain ⟨r5, h4, ho⟩ := gb_some ho
    refine g_calli hW (g_runS (As := [.int x2, .int 0, .int 1]) (rest := []) hC hW (c_X7_in l D y ad x2 0 1 _ _ h4) ok_X7_51 ⟨rfl, rfl, Nat.le_of_ble_eq_true rfl, Nat.le_of_ble_eq_true rfl⟩ rfl hl.1 rfl (Nat.le_of_ble_eq_true rfl) dX7_isStay__11 ⟨Nat.zero_le _, Nat.zero_le _⟩) (fun H locs hW => ?_)
    refine lv_if_eq (tgt := 33) hx hcd dX7_isStay__14 (by decide) (fun c6 => ?_) (fun c6 => ?_)
    · have ho := gif_p ho c6
      refine lv_iconst (v := 0) hx hcd dX7_isStay__33 (by decide) ?_
      obtain rfl := Option.some.inj ho
      exact g_zret (r := 0) hC hr hlk hsz hW (by decide) dX7_isStay__34
    · have ho := gif_n ho c6
      refine lv_aload_n hx hcd dX7_isStay__17 rfl (lv_at hl 0 rfl) ?_
      refine lv_iconst (v := 2) hx hcd dX7_isStay__18 (by decide) ?_
      refine lv_iload_n hx hcd dX7_isStay__19 rfl (lv_at hl 1 rfl) ?_
      refine lv_imul hx hcd dX7_isStay__20 ?_
      refine lv_iload_n hx hcd dX7_isStay__21 rfl (lv_at hl 2 rfl) ?_
      refine lv_iadd hx hcd dX7_isStay__22 ?_
      obtain ⟨r8, h7, ho⟩ := gb_some ho
      refine g_calli hW (g_runV (As := [.int (((2 : Int32) * x1) + x2)]) (rest := []) (i := 132) hC hW (c_X7_isStay l D y ad (((2 : Int32) * x1) + x2) _ _ h7) ok_X7_91 ⟨rfl, rfl, Nat.le_of_ble_eq_true rfl, Nat.le_of_ble_eq_true rfl⟩ (by decide) rfl rfl rfl rfl hl.1 rfl (Nat.le_of_ble_eq_true rfl) dX7_isStay__23 ⟨Nat.zero_le _, Nat.zero_le _⟩) (fun H locs hW => ?_)
      refine lv_if_eq (tgt := 33) hx hcd dX7_isStay__26 (by decide) (fun c9 => ?_) (fun c9 => ?_)
      · have ho := gif_p ho c9
        refine lv_iconst (v := 0) hx hcd dX7_isStay__33 (by decide) ?_
        obtain rfl := Option.some.inj ho
        exact g_zret (r := 0) hC hr hlk hsz hW (by decide) dX7_isStay__34
      · have ho := gif_n ho c9
        refine lv_iconst (v := 1) hx hcd dX7_isStay__29 (by decide) ?_
        refine lv_goto (tgt := 34) hx hcd dX7_isStay__30 (by decide) ?_
        obtain rfl := Option.some.inj ho
        exact g_zret (r := 1) hC hr hlk hsz hW (by decide) dX7_isStay__34
noncomputable def X7_from (σ : gS) (x1 : Int32) : Option (Int32) :=
  (X7_at σ (x1 / (2 : Int32))).bind fun r2 => if (x1 - x1 / (2 : Int32) * (2 : Int32)) = 0 then (gd (ib (r2 + (1 : Int32)) 162) <| some (σ 133 (r2 + (1 : Int32)).toNatClampNeg)) else (gd (ib (r2 + (4 : Int32)) 162) <| some ((σ 133 (r2 + (4 : Int32)).toNatClampNeg) + (10 : Int32)))
set_option maxHeartbeats 4000000 in
set_option maxRecDepth 100000 in
theorem c_X7_from (l : Launch) (D : va_G) (y : ClassId × ClassId × ClassId) (ad : Nat → Nat) (x1 : Int32) (σ : gS) (sz : Nat) {q : Int32} (h : X7_from σ x1 = some q) : Met l yX7_from (Cond.code yX7_from cX7_from 3 (some .int) :: gl) ({ frames := 1, cells := 0, slots := 0, locals := 20 }) (g_Pc D y ad σ sz [.ref (ad 132), .int x1]) (g_Qi D y ad σ sz q) 0 0 (g_A ad sz) := by
  have ho := h
  unfold X7_from at ho
  refine g_start (by decide) (Nat.le_of_ble_eq_true rfl) (fun p e s m below meth c ls hC hr hlk hsz hW hl => ?_)
  have hx := hC.1
  have hcd := hC.2.1
  have hl : lv_has ls 3 [(0, .ref (ad 132)), (1, .int x1)] := hl
  refine lv_iload_n hx hcd dX7_from_0 rfl (lv_at hl 1 rfl) ?_
  refine lv_iconst (v := 2) hx hcd dX7_from_1 (by decide) ?_
  refine lv_idiv hx hcd dX7_from_2 (by decide) ?_
  obtain ⟨r2, h1, ho⟩ := gb_some ho
  refine g_calli hW (g_runS (As := [.int (x1 / (2 : Int32))]) (rest := []) hC hW (c_X7_at l D y ad (x1 / (2 : Int32)) _ _ h1) ok_X7_81 ⟨rfl, rfl, Nat.le_of_ble_eq_true rfl, Nat.le_of_ble_eq_true rfl⟩ rfl hl.1 rfl (Nat.le_of_ble_eq_true rfl) dX7_from_3 ⟨Nat.zero_le _, Nat.zero_le _⟩) (fun H locs hW => ?_)
  refine lv_istore_n (lv' := [(2, .int r2), (0, .ref (ad 132)), (1, .int x1)]) hx hcd dX7_from_6 rfl hl (by decide) rfl (fun ls hl => ?_)
  refine lv_iload_n hx hcd dX7_from_7 rfl (lv_at hl 2 rfl) ?_
  refine lv_iconst (v := 2) hx hcd dX7_from_8 (by decide) ?_
  refine lv_irem hx hcd dX7_from_9 (by decide) ?_
  refine lv_if_ne (tgt := 24) hx hcd dX7_from_10 (by decide) (fun c3 => ?_) (fun c3 => ?_)
  · have ho := gif_n ho c3
    refine lv_aload_n hx hcd dX7_from_24 rfl (lv_at hl 1 rfl) ?_
    refine g_getr hC hW (C := RX7) (T := TX7) (N := 19) (ci := 9) (k := 0) (index := 9) (i := 132) (r := 133) inGX7 rfl (by decide) fl_X7_9 (by decide) rfl rfl dX7_from_25 ?_
    refine lv_iload_n hx hcd dX7_from_28 rfl (lv_at hl 0 rfl) ?_
    refine lv_iconst (v := 4) hx hcd dX7_from_29 (by decide) ?_
    refine lv_iadd hx hcd dX7_from_30 ?_
    obtain ⟨i4, ho⟩ := gd_some ho
    refine g_iald hC hW (i := 133) (by decide) rfl i4 dX7_from_31 ?_
    refine lv_bipush (v := 10) hx hcd dX7_from_32 (by decide) ?_
    refine lv_iadd hx hcd dX7_from_34 ?_
    obtain rfl := Option.some.inj ho
    exact g_iret hC hr hlk hsz hW dX7_from_35
  · have ho := gif_p ho c3
    refine lv_aload_n hx hcd dX7_from_13 rfl (lv_at hl 1 rfl) ?_
    refine g_getr hC hW (C := RX7) (T := TX7) (N := 19) (ci := 9) (k := 0) (index := 9) (i := 132) (r := 133) inGX7 rfl (by decide) fl_X7_9 (by decide) rfl rfl dX7_from_14 ?_
    refine lv_iload_n hx hcd dX7_from_17 rfl (lv_at hl 0 rfl) ?_
    refine lv_iconst (v := 1) hx hcd dX7_from_18 (by decide) ?_
    refine lv_iadd hx hcd dX7_from_19 ?_
    obtain ⟨i5, ho⟩ := gd_some ho
    refine g_iald hC hW (i := 133) (by decide) rfl i5 dX7_from_20 ?_
    refine lv_goto (tgt := 35) hx hcd dX7_from_21 (by decide) ?_
    obtain rfl := Option.some.inj ho
    exact g_iret hC hr hlk hsz hW dX7_from_35
noncomputable def X7_to (σ : gS) (x1 : Int32) : Option (Int32) :=
  (X7_at σ (x1 / (2 : Int32))).bind fun r2 => if (x1 - x1 / (2 : Int32) * (2 : Int32)) = 0 then (gd (ib (r2 + (4 : Int32)) 162) <| if (σ 133 (r2 + (4 : Int32)).toNatClampNeg) < 0 then (gd (ib (r2 + (2 : Int32)) 162) <| some (σ 133 (r2 + (2 : Int32)).toNatClampNeg)) else (some (σ 133 (r2 + (4 : Int32)).toNatClampNeg))) else (gd (ib (r2 + (2 : Int32)) 162) <| some (σ 133 (r2 + (2 : Int32)).toNatClampNeg))
set_option maxHeartbeats 4000000 in
set_option maxRecDepth 100000 in
theorem c_X7_to (l : Launch) (D : va_G) (y : ClassId × ClassId × ClassId) (ad : Nat → Nat) (x1 : Int32) (σ : gS) (sz : Nat) {q : Int32} (h : X7_to σ x1 = some q) : Met l yX7_to (Cond.code yX7_to cX7_to 3 (some .int) :: gl) ({ frames := 1, cells := 0, slots := 0, locals := 20 }) (g_Pc D y ad σ sz [.ref (ad 132), .int x1]) (g_Qi D y ad σ sz q) 0 0 (g_A ad sz) := by
  have ho := h
  unfold X7_to at ho
  refine g_start (by decide) (Nat.le_of_ble_eq_true rfl) (fun p e s m below meth c ls hC hr hlk hsz hW hl => ?_)
  have hx := hC.1
  have hcd := hC.2.1
  have hl : lv_has ls 3 [(0, .ref (ad 132)), (1, .int x1)] := hl
  refine lv_iload_n hx hcd dX7_to_0 rfl (lv_at hl 1 rfl) ?_
  refine lv_iconst (v := 2) hx hcd dX7_to_1 (by decide) ?_
  refine lv_idiv hx hcd dX7_to_2 (by decide) ?_
  obtain ⟨r2, h1, ho⟩ := gb_some ho
  refine g_calli hW (g_runS (As := [.int (x1 / (2 : Int32))]) (rest := []) hC hW (c_X7_at l D y ad (x1 / (2 : Int32)) _ _ h1) ok_X7_81 ⟨rfl, rfl, Nat.le_of_ble_eq_true rfl, Nat.le_of_ble_eq_true rfl⟩ rfl hl.1 rfl (Nat.le_of_ble_eq_true rfl) dX7_to_3 ⟨Nat.zero_le _, Nat.zero_le _⟩) (fun H locs hW => ?_)
  refine lv_istore_n (lv' := [(2, .int r2), (0, .ref (ad 132)), (1, .int x1)]) hx hcd dX7_to_6 rfl hl (by decide) rfl (fun ls hl => ?_)
  refine lv_iload_n hx hcd dX7_to_7 rfl (lv_at hl 2 rfl) ?_
  refine lv_iconst (v := 2) hx hcd dX7_to_8 (by decide) ?_
  refine lv_irem hx hcd dX7_to_9 (by decide) ?_
  refine lv_if_ne (tgt := 35) hx hcd dX7_to_10 (by decide) (fun c3 => ?_) (fun c3 => ?_)
  · have ho := gif_n ho c3
    refine lv_aload_n hx hcd dX7_to_35 rfl (lv_at hl 1 rfl) ?_
    refine g_getr hC hW (C := RX7) (T := TX7) (N := 19) (ci := 9) (k := 0) (index := 9) (i := 132) (r := 133) inGX7 rfl (by decide) fl_X7_9 (by decide) rfl rfl dX7_to_36 ?_
    refine lv_iload_n hx hcd dX7_to_39 rfl (lv_at hl 0 rfl) ?_
    refine lv_iconst (v := 2) hx hcd dX7_to_40 (by decide) ?_
    refine lv_iadd hx hcd dX7_to_41 ?_
    obtain ⟨i4, ho⟩ := gd_some ho
    refine g_iald hC hW (i := 133) (by decide) rfl i4 dX7_to_42 ?_
    obtain rfl := Option.some.inj ho
    exact g_iret hC hr hlk hsz hW dX7_to_43
  · have ho := gif_p ho c3
    refine lv_aload_n hx hcd dX7_to_13 rfl (lv_at hl 1 rfl) ?_
    refine g_getr hC hW (C := RX7) (T := TX7) (N := 19) (ci := 9) (k := 0) (index := 9) (i := 132) (r := 133) inGX7 rfl (by decide) fl_X7_9 (by decide) rfl rfl dX7_to_14 ?_
    refine lv_iload_n hx hcd dX7_to_17 rfl (lv_at hl 0 rfl) ?_
    refine lv_iconst (v := 4) hx hcd dX7_to_18 (by decide) ?_
    refine lv_iadd hx hcd dX7_to_19 ?_
    obtain ⟨i5, ho⟩ := gd_some ho
    refine g_iald hC hW (i := 133) (by decide) rfl i5 dX7_to_20 ?_
    refine lv_if_lt (tgt := 35) hx hcd dX7_to_21 (by decide) (fun c6 => ?_) (fun c6 => ?_)
    · have ho := gif_p ho c6
      refine lv_aload_n hx hcd dX7_to_35 rfl (lv_at hl 1 rfl) ?_
      refine g_getr hC hW (C := RX7) (T := TX7) (N := 19) (ci := 9) (k := 0) (index := 9) (i := 132) (r := 133) inGX7 rfl (by decide) fl_X7_9 (by decide) rfl rfl dX7_to_36 ?_
      refine lv_iload_n hx hcd dX7_to_39 rfl (lv_at hl 0 rfl) ?_
      refine lv_iconst (v := 2) hx hcd dX7_to_40 (by decide) ?_
      refine lv_iadd hx hcd dX7_to_41 ?_
      obtain ⟨i7, ho⟩ := gd_some ho
      refine g_iald hC hW (i := 133) (by decide) rfl i7 dX7_to_42 ?_
      obtain rfl := Option.some.inj ho
      exact g_iret hC hr hlk hsz hW dX7_to_43
    · have ho := gif_n ho c6
      refine lv_aload_n hx hcd dX7_to_24 rfl (lv_at hl 1 rfl) ?_
      refine g_getr hC hW (C := RX7) (T := TX7) (N := 19) (ci := 9) (k := 0) (index := 9) (i := 132) (r := 133) inGX7 rfl (by decide) fl_X7_9 (by decide) rfl rfl dX7_to_25 ?_
      refine lv_iload_n hx hcd dX7_to_28 rfl (lv_at hl 0 rfl) ?_
      refine lv_iconst (v := 4) hx hcd dX7_to_29 (by decide) ?_
      refine lv_iadd hx hcd dX7_to_30 ?_
      refine g_iald hC hW (i := 133) (by decide) rfl i5 dX7_to_31 ?_
      refine lv_goto (tgt := 43) hx hcd dX7_to_32 (by decide) ?_
      obtain rfl := Option.some.inj ho
      exact g_iret hC hr hlk hsz hW dX7_to_43
noncomputable def X7_size (σ : gS) (x1 : Int32) : Option (Int32) :=
  (X7_at σ (x1 / (2 : Int32))).bind fun r2 => gd (ib r2 162) <| some (σ 133 r2.toNatClampNeg)
set_option maxHeartbeats 4000000 in
set_option maxRecDepth 100000 in
theorem c_X7_size (l : Launch) (D : va_G) (y : ClassId × ClassId × ClassId) (ad : Nat → Nat) (x1 : Int32) (σ : gS) (sz : Nat) {q : Int32} (h : X7_size σ x1 = some q) : Met l yX7_size (Cond.code yX7_size cX7_size 2 (some .int) :: gl) ({ frames := 1, cells := 0, slots := 0, locals := 20 }) (g_Pc D y ad σ sz [.ref (ad 132), .int x1]) (g_Qi D y ad σ sz q) 0 0 (g_A ad sz) := by
  have ho := h
  unfold X7_size at ho
  refine g_start (by decide) (Nat.le_of_ble_eq_true rfl) (fun p e s m below meth c ls hC hr hlk hsz hW hl => ?_)
  have hx := hC.1
  have hcd := hC.2.1
  have hl : lv_has ls 2 [(0, .ref (ad 132)), (1, .int x1)] := hl
  refine lv_aload_n hx hcd dX7_size_0 rfl (lv_at hl 0 rfl) ?_
  refine g_getr hC hW (C := RX7) (T := TX7) (N := 19) (ci := 9) (k := 0) (index := 9) (i := 132) (r := 133) inGX7 rfl (by decide) fl_X7_9 (by decide) rfl rfl dX7_size_1 ?_
  refine lv_iload_n hx hcd dX7_size_4 rfl (lv_at hl 1 rfl) ?_
  refine lv_iconst (v := 2) hx hcd dX7_size_5 (by decide) ?_
  refine lv_idiv hx hcd dX7_size_6 (by decide) ?_
  obtain ⟨r2, h1, ho⟩ := gb_some ho
  refine g_calli hW (g_runS (As := [.int (x1 / (2 : Int32))]) (rest := [.ref (ad 133)]) hC hW (c_X7_at l D y ad (x1 / (2 : Int32)) _ _ h1) ok_X7_81 ⟨rfl, rfl, Nat.le_of_ble_eq_true rfl, Nat.le_of_ble_eq_true rfl⟩ rfl hl.1 rfl (Nat.le_of_ble_eq_true rfl) dX7_size_7 ⟨Nat.zero_le _, Nat.zero_le _⟩) (fun H locs hW => ?_)
  obtain ⟨i3, ho⟩ := gd_some ho
  refine g_iald hC hW (i := 133) (by decide) rfl i3 dX7_size_10 ?_
  obtain rfl := Option.some.inj ho
  exact g_iret hC hr hlk hsz hW dX7_size_11
noncomputable def X7_weight (σ : gS) (x1 : Int32) : Option (Int32) :=
  (X7_at σ (x1 / (2 : Int32))).bind fun r2 => gd (ib (r2 + (3 : Int32)) 162) <| some (σ 133 (r2 + (3 : Int32)).toNatClampNeg)
set_option maxHeartbeats 4000000 in
set_option maxRecDepth 100000 in
theorem c_X7_weight (l : Launch) (D : va_G) (y : ClassId × ClassId × ClassId) (ad : Nat → Nat) (x1 : Int32) (σ : gS) (sz : Nat) {q : Int32} (h : X7_weight σ x1 = some q) : Met l yX7_weight (Cond.code yX7_weight cX7_weight 2 (some .int) :: gl) ({ frames := 1, cells := 0, slots := 0, locals := 20 }) (g_Pc D y ad σ sz [.ref (ad 132), .int x1]) (g_Qi D y ad σ sz q) 0 0 (g_A ad sz) := by
  have ho := h
  unfold X7_weight at ho
  refine g_start (by decide) (Nat.le_of_ble_eq_true rfl) (fun p e s m below meth c ls hC hr hlk hsz hW hl => ?_)
  have hx := hC.1
  have hcd := hC.2.1
  have hl : lv_has ls 2 [(0, .ref (ad 132)), (1, .int x1)] := hl
  refine lv_aload_n hx hcd dX7_weight_0 rfl (lv_at hl 0 rfl) ?_
  refine g_getr hC hW (C := RX7) (T := TX7) (N := 19) (ci := 9) (k := 0) (index := 9) (i := 132) (r := 133) inGX7 rfl (by decide) fl_X7_9 (by decide) rfl rfl dX7_weight_1 ?_
  refine lv_iload_n hx hcd dX7_weight_4 rfl (lv_at hl 1 rfl) ?_
  refine lv_iconst (v := 2) hx hcd dX7_weight_5 (by decide) ?_
  refine lv_idiv hx hcd dX7_weight_6 (by decide) ?_
  obtain ⟨r2, h1, ho⟩ := gb_some ho
  refine g_calli hW (g_runS (As := [.int (x1 / (2 : Int32))]) (rest := [.ref (ad 133)]) hC hW (c_X7_at l D y ad (x1 / (2 : Int32)) _ _ h1) ok_X7_81 ⟨rfl, rfl, Nat.le_of_ble_eq_true rfl, Nat.le_of_ble_eq_true rfl⟩ rfl hl.1 rfl (Nat.le_of_ble_eq_true rfl) dX7_weight_7 ⟨Nat.zero_le _, Nat.zero_le _⟩) (fun H locs hW => ?_)
  refine lv_iconst (v := 3) hx hcd dX7_weight_10 (by decide) ?_
  refine lv_iadd hx hcd dX7_weight_11 ?_
  obtain ⟨i3, ho⟩ := gd_some ho
  refine g_iald hC hW (i := 133) (by decide) rfl i3 dX7_weight_12 ?_
  obtain rfl := Option.some.inj ho
  exact g_iret hC hr hlk hsz hW dX7_weight_13
noncomputable def X7_on (σ : gS) (x1 : Int32) : Option (Int32) :=
  (X7_at σ (x1 / (2 : Int32))).bind fun r2 => gd (ib ((r2 + (5 : Int32)) + (x1 - x1 / (2 : Int32) * (2 : Int32))) 162) <| some (σ 133 ((r2 + (5 : Int32)) + (x1 - x1 / (2 : Int32) * (2 : Int32))).toNatClampNeg)
set_option maxHeartbeats 4000000 in
set_option maxRecDepth 100000 in
theorem c_X7_on (l : Launch) (D : va_G) (y : ClassId × ClassId × ClassId) (ad : Nat → Nat) (x1 : Int32) (σ : gS) (sz : Nat) {q : Int32} (h : X7_on σ x1 = some q) : Met l yX7_on (Cond.code yX7_on cX7_on 2 (some .int) :: gl) ({ frames := 1, cells := 0, slots := 0, locals := 20 }) (g_Pc D y ad σ sz [.ref (ad 132), .int x1]) (g_Qi D y ad σ sz q) 0 0 (g_A ad sz) := by
  have ho := h
  unfold X7_on at ho
  refine g_start (by decide) (Nat.le_of_ble_eq_true rfl) (fun p e s m below meth c ls hC hr hlk hsz hW hl => ?_)
  have hx := hC.1
  have hcd := hC.2.1
  have hl : lv_has ls 2 [(0, .ref (ad 132)), (1, .int x1)] := hl
  refine lv_aload_n hx hcd dX7_on_0 rfl (lv_at hl 0 rfl) ?_
  refine g_getr hC hW (C := RX7) (T := TX7) (N := 19) (ci := 9) (k := 0) (index := 9) (i := 132) (r := 133) inGX7 rfl (by decide) fl_X7_9 (by decide) rfl rfl dX7_on_1 ?_
  refine lv_iload_n hx hcd dX7_on_4 rfl (lv_at hl 1 rfl) ?_
  refine lv_iconst (v := 2) hx hcd dX7_on_5 (by decide) ?_
  refine lv_idiv hx hcd dX7_on_6 (by decide) ?_
  obtain ⟨r2, h1, ho⟩ := gb_some ho
  refine g_calli hW (g_runS (As := [.int (x1 / (2 : Int32))]) (rest := [.ref (ad 133)]) hC hW (c_X7_at l D y ad (x1 / (2 : Int32)) _ _ h1) ok_X7_81 ⟨rfl, rfl, Nat.le_of_ble_eq_true rfl, Nat.le_of_ble_eq_true rfl⟩ rfl hl.1 rfl (Nat.le_of_ble_eq_true rfl) dX7_on_7 ⟨Nat.zero_le _, Nat.zero_le _⟩) (fun H locs hW => ?_)
  refine lv_iconst (v := 5) hx hcd dX7_on_10 (by decide) ?_
  refine lv_iadd hx hcd dX7_on_11 ?_
  refine lv_iload_n hx hcd dX7_on_12 rfl (lv_at hl 1 rfl) ?_
  refine lv_iconst (v := 2) hx hcd dX7_on_13 (by decide) ?_
  refine lv_irem hx hcd dX7_on_14 (by decide) ?_
  refine lv_iadd hx hcd dX7_on_15 ?_
  obtain ⟨i3, ho⟩ := gd_some ho
  refine g_iald hC hW (i := 133) (by decide) rfl i3 dX7_on_16 ?_
  obtain rfl := Option.some.inj ho
  exact g_iret hC hr hlk hsz hW dX7_on_17
noncomputable def X7_put (σ : gS) (x1 : Int32) (x2 : Int32) : Option (gS) :=
  (X7_at σ (x1 / (2 : Int32))).bind fun r2 => gd (ib ((r2 + (5 : Int32)) + (x1 - x1 / (2 : Int32) * (2 : Int32))) 162) <| lt_ (g_up σ 133 ((r2 + (5 : Int32)) + (x1 - x1 / (2 : Int32) * (2 : Int32))).toNatClampNeg x2) fun σ4 => some σ4
set_option maxHeartbeats 4000000 in
set_option maxRecDepth 100000 in
theorem c_X7_put (l : Launch) (D : va_G) (y : ClassId × ClassId × ClassId) (ad : Nat → Nat) (x1 : Int32) (x2 : Int32) (σ : gS) (sz : Nat) {q : gS} (h : X7_put σ x1 x2 = some q) : Met l yX7_put (Cond.code yX7_put cX7_put 3 none :: gl) ({ frames := 1, cells := 0, slots := 0, locals := 20 }) (g_Pc D y ad σ sz [.ref (ad 132), .int x1, .int x2]) (g_Qv D y ad q sz) 0 0 (g_A ad sz) := by
  have ho := h
  unfold X7_put at ho
  refine g_start (by decide) (Nat.le_of_ble_eq_true rfl) (fun p e s m below meth c ls hC hr hlk hsz hW hl => ?_)
  have hx := hC.1
  have hcd := hC.2.1
  have hl : lv_has ls 3 [(0, .ref (ad 132)), (1, .int x1), (2, .int x2)] := hl
  refine lv_aload_n hx hcd dX7_put_0 rfl (lv_at hl 0 rfl) ?_
  refine g_getr hC hW (C := RX7) (T := TX7) (N := 19) (ci := 9) (k := 0) (index := 9) (i := 132) (r := 133) inGX7 rfl (by decide) fl_X7_9 (by decide) rfl rfl dX7_put_1 ?_
  refine lv_iload_n hx hcd dX7_put_4 rfl (lv_at hl 1 rfl) ?_
  refine lv_iconst (v := 2) hx hcd dX7_put_5 (by decide) ?_
  refine lv_idiv hx hcd dX7_put_6 (by decide) ?_
  obtain ⟨r2, h1, ho⟩ := gb_some ho
  refine g_calli hW (g_runS (As := [.int (x1 / (2 : Int32))]) (rest := [.ref (ad 133)]) hC hW (c_X7_at l D y ad (x1 / (2 : Int32)) _ _ h1) ok_X7_81 ⟨rfl, rfl, Nat.le_of_ble_eq_true rfl, Nat.le_of_ble_eq_true rfl⟩ rfl hl.1 rfl (Nat.le_of_ble_eq_true rfl) dX7_put_7 ⟨Nat.zero_le _, Nat.zero_le _⟩) (fun H locs hW => ?_)
  refine lv_iconst (v := 5) hx hcd dX7_put_10 (by decide) ?_
  refine lv_iadd hx hcd dX7_put_11 ?_
  refine lv_iload_n hx hcd dX7_put_12 rfl (lv_at hl 1 rfl) ?_
  refine lv_iconst (v := 2) hx hcd dX7_put_13 (by decide) ?_
  refine lv_irem hx hcd dX7_put_14 (by decide) ?_
  refine lv_iadd hx hcd dX7_put_15 ?_
  refine lv_iload_n hx hcd dX7_put_16 rfl (lv_at hl 2 rfl) ?_
  obtain ⟨i3, ho⟩ := gd_some ho
  obtain ⟨σ4, eσ4, ho⟩ := lt_ex ho
  refine g_iast hC hW (i := 133) (by decide) rfl i3 dX7_put_17 (fun H locs hW => ?_)
  rw [← eσ4] at hW
  obtain rfl := Option.some.inj ho
  exact g_vret hC hr hlk hsz hW dX7_put_18
noncomputable def X7_isOn (σ : gS) (x1 : Int32) : Option (Int32) :=
  (X7_isStay σ x1).bind fun r2 => if r2 = 0 then (some 0) else ((X7_on σ x1).bind fun r5 => if r5 < 0 then (some 0) else (some 1))
set_option maxHeartbeats 4000000 in
set_option maxRecDepth 100000 in
theorem c_X7_isOn (l : Launch) (D : va_G) (y : ClassId × ClassId × ClassId) (ad : Nat → Nat) (x1 : Int32) (σ : gS) (sz : Nat) {q : Int32} (h : X7_isOn σ x1 = some q) : Met l yX7_isOn (Cond.code yX7_isOn cX7_isOn 2 (some .boolean) :: gl) ({ frames := 3, cells := 0, slots := 0, locals := 64 }) (g_Pc D y ad σ sz [.ref (ad 132), .int x1]) (g_Qi D y ad σ sz q) 0 0 (g_A ad sz) := by
  have ho := h
  unfold X7_isOn at ho
  refine g_start (by decide) (Nat.le_of_ble_eq_true rfl) (fun p e s m below meth c ls hC hr hlk hsz hW hl => ?_)
  have hx := hC.1
  have hcd := hC.2.1
  have hl : lv_has ls 2 [(0, .ref (ad 132)), (1, .int x1)] := hl
  refine lv_aload_n hx hcd dX7_isOn_0 rfl (lv_at hl 0 rfl) ?_
  refine lv_iload_n hx hcd dX7_isOn_1 rfl (lv_at hl 1 rfl) ?_
  obtain ⟨r2, h1, ho⟩ := gb_some ho
  refine g_calli hW (g_runV (As := [.int x1]) (rest := []) (i := 132) hC hW (c_X7_isStay l D y ad x1 _ _ h1) ok_X7_91 ⟨rfl, rfl, Nat.le_of_ble_eq_true rfl, Nat.le_of_ble_eq_true rfl⟩ (by decide) rfl rfl rfl rfl hl.1 rfl (Nat.le_of_ble_eq_true rfl) dX7_isOn_2 ⟨Nat.zero_le _, Nat.zero_le _⟩) (fun H locs hW => ?_)
  refine lv_if_eq (tgt := 20) hx hcd dX7_isOn_5 (by decide) (fun c3 => ?_) (fun c3 => ?_)
  · have ho := gif_p ho c3
    refine lv_iconst (v := 0) hx hcd dX7_isOn_20 (by decide) ?_
    obtain rfl := Option.some.inj ho
    exact g_zret (r := 0) hC hr hlk hsz hW (by decide) dX7_isOn_21
  · have ho := gif_n ho c3
    refine lv_aload_n hx hcd dX7_isOn_8 rfl (lv_at hl 0 rfl) ?_
    refine lv_iload_n hx hcd dX7_isOn_9 rfl (lv_at hl 1 rfl) ?_
    obtain ⟨r5, h4, ho⟩ := gb_some ho
    refine g_calli hW (g_runV (As := [.int x1]) (rest := []) (i := 132) hC hW (c_X7_on l D y ad x1 _ _ h4) ok_X7_94 ⟨rfl, rfl, Nat.le_of_ble_eq_true rfl, Nat.le_of_ble_eq_true rfl⟩ (by decide) rfl rfl rfl rfl hl.1 rfl (Nat.le_of_ble_eq_true rfl) dX7_isOn_10 ⟨Nat.zero_le _, Nat.zero_le _⟩) (fun H locs hW => ?_)
    refine lv_if_lt (tgt := 20) hx hcd dX7_isOn_13 (by decide) (fun c6 => ?_) (fun c6 => ?_)
    · have ho := gif_p ho c6
      refine lv_iconst (v := 0) hx hcd dX7_isOn_20 (by decide) ?_
      obtain rfl := Option.some.inj ho
      exact g_zret (r := 0) hC hr hlk hsz hW (by decide) dX7_isOn_21
    · have ho := gif_n ho c6
      refine lv_iconst (v := 1) hx hcd dX7_isOn_16 (by decide) ?_
      refine lv_goto (tgt := 21) hx hcd dX7_isOn_17 (by decide) ?_
      obtain rfl := Option.some.inj ho
      exact g_zret (r := 1) hC hr hlk hsz hW (by decide) dX7_isOn_21
noncomputable def X7_isHindered (σ : gS) (x1 : Int32) : Option (Int32) :=
  (X7_isOn σ x1).bind fun r2 => if r2 = 0 then (some 0) else ((X7_on σ x1).bind fun r5 => gd (ib ((20 : Int32) + r5) 162) <| if (σ 133 ((20 : Int32) + r5).toNatClampNeg) = 0 then (some 1) else ((X7_on σ x1).bind fun r9 => gd (ib ((12 : Int32) + r9) 162) <| (X7_size σ x1).bind fun r12 => if r12 ≤ (σ 133 ((12 : Int32) + r9).toNatClampNeg) then (some 0) else (some 1)))
set_option maxHeartbeats 4000000 in
set_option maxRecDepth 100000 in
theorem c_X7_isHindered (l : Launch) (D : va_G) (y : ClassId × ClassId × ClassId) (ad : Nat → Nat) (x1 : Int32) (σ : gS) (sz : Nat) {q : Int32} (h : X7_isHindered σ x1 = some q) : Met l yX7_isHindered (Cond.code yX7_isHindered cX7_isHindered 2 (some .boolean) :: gl) ({ frames := 4, cells := 0, slots := 0, locals := 85 }) (g_Pc D y ad σ sz [.ref (ad 132), .int x1]) (g_Qi D y ad σ sz q) 0 0 (g_A ad sz) := by
  have ho := h
  unfold X7_isHindered at ho
  refine g_start (by decide) (Nat.le_of_ble_eq_true rfl) (fun p e s m below meth c ls hC hr hlk hsz hW hl => ?_)
  have hx := hC.1
  have hcd := hC.2.1
  have hl : lv_has ls 2 [(0, .ref (ad 132)), (1, .int x1)] := hl
  refine lv_aload_n hx hcd dX7_isHindered_0 rfl (lv_at hl 0 rfl) ?_
  refine lv_iload_n hx hcd dX7_isHindered_1 rfl (lv_at hl 1 rfl) ?_
  obtain ⟨r2, h1, ho⟩ := gb_some ho
  refine g_calli hW (g_runV (As := [.int x1]) (rest := []) (i := 132) hC hW (c_X7_isOn l D y ad x1 _ _ h1) ok_X7_97 ⟨rfl, rfl, Nat.le_of_ble_eq_true rfl, Nat.le_of_ble_eq_true rfl⟩ (by decide) rfl rfl rfl rfl hl.1 rfl (Nat.le_of_ble_eq_true rfl) dX7_isHindered_2 ⟨Nat.zero_le _, Nat.zero_le _⟩) (fun H locs hW => ?_)
  refine lv_if_eq (tgt := 49) hx hcd dX7_isHindered_5 (by decide) (fun c3 => ?_) (fun c3 => ?_)
  · have ho := gif_p ho c3
    refine lv_iconst (v := 0) hx hcd dX7_isHindered_49 (by decide) ?_
    obtain rfl := Option.some.inj ho
    exact g_zret (r := 0) hC hr hlk hsz hW (by decide) dX7_isHindered_50
  · have ho := gif_n ho c3
    refine lv_aload_n hx hcd dX7_isHindered_8 rfl (lv_at hl 0 rfl) ?_
    refine g_getr hC hW (C := RX7) (T := TX7) (N := 19) (ci := 9) (k := 0) (index := 9) (i := 132) (r := 133) inGX7 rfl (by decide) fl_X7_9 (by decide) rfl rfl dX7_isHindered_9 ?_
    refine lv_bipush (v := 20) hx hcd dX7_isHindered_12 (by decide) ?_
    refine lv_aload_n hx hcd dX7_isHindered_14 rfl (lv_at hl 0 rfl) ?_
    refine lv_iload_n hx hcd dX7_isHindered_15 rfl (lv_at hl 1 rfl) ?_
    obtain ⟨r5, h4, ho⟩ := gb_some ho
    refine g_calli hW (g_runV (As := [.int x1]) (rest := [.int 20, .ref (ad 133)]) (i := 132) hC hW (c_X7_on l D y ad x1 _ _ h4) ok_X7_94 ⟨rfl, rfl, Nat.le_of_ble_eq_true rfl, Nat.le_of_ble_eq_true rfl⟩ (by decide) rfl rfl rfl rfl hl.1 rfl (Nat.le_of_ble_eq_true rfl) dX7_isHindered_16 ⟨Nat.zero_le _, Nat.zero_le _⟩) (fun H locs hW => ?_)
    refine lv_iadd hx hcd dX7_isHindered_19 ?_
    obtain ⟨i6, ho⟩ := gd_some ho
    refine g_iald hC hW (i := 133) (by decide) rfl i6 dX7_isHindered_20 ?_
    refine lv_if_eq (tgt := 45) hx hcd dX7_isHindered_21 (by decide) (fun c7 => ?_) (fun c7 => ?_)
    · have ho := gif_p ho c7
      refine lv_iconst (v := 1) hx hcd dX7_isHindered_45 (by decide) ?_
      refine lv_goto (tgt := 50) hx hcd dX7_isHindered_46 (by decide) ?_
      obtain rfl := Option.some.inj ho
      exact g_zret (r := 1) hC hr hlk hsz hW (by decide) dX7_isHindered_50
    · have ho := gif_n ho c7
      refine lv_aload_n hx hcd dX7_isHindered_24 rfl (lv_at hl 0 rfl) ?_
      refine g_getr hC hW (C := RX7) (T := TX7) (N := 19) (ci := 9) (k := 0) (index := 9) (i := 132) (r := 133) inGX7 rfl (by decide) fl_X7_9 (by decide) rfl rfl dX7_isHindered_25 ?_
      refine lv_bipush (v := 12) hx hcd dX7_isHindered_28 (by decide) ?_
      refine lv_aload_n hx hcd dX7_isHindered_30 rfl (lv_at hl 0 rfl) ?_
      refine lv_iload_n hx hcd dX7_isHindered_31 rfl (lv_at hl 1 rfl) ?_
      obtain ⟨r9, h8, ho⟩ := gb_some ho
      refine g_calli hW (g_runV (As := [.int x1]) (rest := [.int 12, .ref (ad 133)]) (i := 132) hC hW (c_X7_on l D y ad x1 _ _ h8) ok_X7_94 ⟨rfl, rfl, Nat.le_of_ble_eq_true rfl, Nat.le_of_ble_eq_true rfl⟩ (by decide) rfl rfl rfl rfl hl.1 rfl (Nat.le_of_ble_eq_true rfl) dX7_isHindered_32 ⟨Nat.zero_le _, Nat.zero_le _⟩) (fun H locs hW => ?_)
      refine lv_iadd hx hcd dX7_isHindered_35 ?_
      obtain ⟨i10, ho⟩ := gd_some ho
      refine g_iald hC hW (i := 133) (by decide) rfl i10 dX7_isHindered_36 ?_
      refine lv_aload_n hx hcd dX7_isHindered_37 rfl (lv_at hl 0 rfl) ?_
      refine lv_iload_n hx hcd dX7_isHindered_38 rfl (lv_at hl 1 rfl) ?_
      obtain ⟨r12, h11, ho⟩ := gb_some ho
      refine g_calli hW (g_runV (As := [.int x1]) (rest := [.int (σ 133 ((12 : Int32) + r9).toNatClampNeg)]) (i := 132) hC hW (c_X7_size l D y ad x1 _ _ h11) ok_X7_100 ⟨rfl, rfl, Nat.le_of_ble_eq_true rfl, Nat.le_of_ble_eq_true rfl⟩ (by decide) rfl rfl rfl rfl hl.1 rfl (Nat.le_of_ble_eq_true rfl) dX7_isHindered_39 ⟨Nat.zero_le _, Nat.zero_le _⟩) (fun H locs hW => ?_)
      refine lv_icmp_ge (tgt := 49) hx hcd dX7_isHindered_42 (by decide) (fun c13 => ?_) (fun c13 => ?_)
      · have ho := gif_p ho c13
        refine lv_iconst (v := 0) hx hcd dX7_isHindered_49 (by decide) ?_
        obtain rfl := Option.some.inj ho
        exact g_zret (r := 0) hC hr hlk hsz hW (by decide) dX7_isHindered_50
      · have ho := gif_n ho c13
        refine lv_iconst (v := 1) hx hcd dX7_isHindered_45 (by decide) ?_
        refine lv_goto (tgt := 50) hx hcd dX7_isHindered_46 (by decide) ?_
        obtain rfl := Option.some.inj ho
        exact g_zret (r := 1) hC hr hlk hsz hW (by decide) dX7_isHindered_50
noncomputable def X7_areInConflict (σ : gS) (x1 : Int32) (x2 : Int32) : Option (Int32) :=
  if x1 = x2 then (some 0) else ((X7_isOn σ x1).bind fun r3 => if r3 = 0 then (some 0) else ((X7_isOn σ x2).bind fun r6 => if r6 = 0 then (some 0) else ((X7_on σ x1).bind fun r9 => (X7_on σ x2).bind fun r11 => if r9 = r11 then ((X7_from σ x2).bind fun r36 => (X7_to σ x1).bind fun r38 => if (r38 + (σ 133 (2 : Int32).toNatClampNeg)) ≤ r36 then (some 0) else ((X7_from σ x1).bind fun r41 => (X7_to σ x2).bind fun r43 => if (r43 + (σ 133 (2 : Int32).toNatClampNeg)) ≤ r41 then (some 0) else (some 1))) else ((X7_on σ x1).bind fun r14 => (X7_on σ x2).bind fun r16 => (X7_limit σ r14 r16).bind fun r18 => if r18 < 0 then (some 0) else ((X7_from σ x1).bind fun r21 => (X7_to σ x2).bind fun r23 => if r23 ≤ r21 then (some 0) else ((X7_from σ x2).bind fun r26 => (X7_to σ x1).bind fun r28 => if r28 ≤ r26 then (some 0) else ((X7_size σ x1).bind fun r31 => (X7_size σ x2).bind fun r33 => if (r31 + r33) ≤ r18 then (some 0) else (some 1))))))))
set_option maxHeartbeats 4000000 in
set_option maxRecDepth 100000 in
theorem c_X7_areInConflict (l : Launch) (D : va_G) (y : ClassId × ClassId × ClassId) (ad : Nat → Nat) (x1 : Int32) (x2 : Int32) (σ : gS) (sz : Nat) {q : Int32} (h : X7_areInConflict σ x1 x2 = some q) : Met l yX7_areInConflict (Cond.code yX7_areInConflict cX7_areInConflict 4 (some .boolean) :: gl) ({ frames := 4, cells := 0, slots := 0, locals := 85 }) (g_Pc D y ad σ sz [.ref (ad 132), .int x1, .int x2]) (g_Qi D y ad σ sz q) 0 0 (g_A ad sz) := by
  have ho := h
  unfold X7_areInConflict at ho
  refine g_start (by decide) (Nat.le_of_ble_eq_true rfl) (fun p e s m below meth c ls hC hr hlk hsz hW hl => ?_)
  have hx := hC.1
  have hcd := hC.2.1
  have hl : lv_has ls 4 [(0, .ref (ad 132)), (1, .int x1), (2, .int x2)] := hl
  refine lv_iload_n hx hcd dX7_areInConflict_0 rfl (lv_at hl 1 rfl) ?_
  refine lv_iload_n hx hcd dX7_areInConflict_1 rfl (lv_at hl 2 rfl) ?_
  refine lv_icmp_eq (tgt := 21) hx hcd dX7_areInConflict_2 (by decide) (fun c1 => ?_) (fun c1 => ?_)
  · have ho := gif_p ho c1
    refine lv_iconst (v := 0) hx hcd dX7_areInConflict_21 (by decide) ?_
    obtain rfl := Option.some.inj ho
    exact g_zret (r := 0) hC hr hlk hsz hW (by decide) dX7_areInConflict_22
  · have ho := gif_n ho c1
    refine lv_aload_n hx hcd dX7_areInConflict_5 rfl (lv_at hl 0 rfl) ?_
    refine lv_iload_n hx hcd dX7_areInConflict_6 rfl (lv_at hl 1 rfl) ?_
    obtain ⟨r3, h2, ho⟩ := gb_some ho
    refine g_calli hW (g_runV (As := [.int x1]) (rest := []) (i := 132) hC hW (c_X7_isOn l D y ad x1 _ _ h2) ok_X7_97 ⟨rfl, rfl, Nat.le_of_ble_eq_true rfl, Nat.le_of_ble_eq_true rfl⟩ (by decide) rfl rfl rfl rfl hl.1 rfl (Nat.le_of_ble_eq_true rfl) dX7_areInConflict_7 ⟨Nat.zero_le _, Nat.zero_le _⟩) (fun H locs hW => ?_)
    refine lv_if_eq (tgt := 21) hx hcd dX7_areInConflict_10 (by decide) (fun c4 => ?_) (fun c4 => ?_)
    · have ho := gif_p ho c4
      refine lv_iconst (v := 0) hx hcd dX7_areInConflict_21 (by decide) ?_
      obtain rfl := Option.some.inj ho
      exact g_zret (r := 0) hC hr hlk hsz hW (by decide) dX7_areInConflict_22
    · have ho := gif_n ho c4
      refine lv_aload_n hx hcd dX7_areInConflict_13 rfl (lv_at hl 0 rfl) ?_
      refine lv_iload_n hx hcd dX7_areInConflict_14 rfl (lv_at hl 2 rfl) ?_
      obtain ⟨r6, h5, ho⟩ := gb_some ho
      refine g_calli hW (g_runV (As := [.int x2]) (rest := []) (i := 132) hC hW (c_X7_isOn l D y ad x2 _ _ h5) ok_X7_97 ⟨rfl, rfl, Nat.le_of_ble_eq_true rfl, Nat.le_of_ble_eq_true rfl⟩ (by decide) rfl rfl rfl rfl hl.1 rfl (Nat.le_of_ble_eq_true rfl) dX7_areInConflict_15 ⟨Nat.zero_le _, Nat.zero_le _⟩) (fun H locs hW => ?_)
      refine lv_if_ne (tgt := 23) hx hcd dX7_areInConflict_18 (by decide) (fun c7 => ?_) (fun c7 => ?_)
      · have ho := gif_n ho c7
        refine lv_aload_n hx hcd dX7_areInConflict_23 rfl (lv_at hl 0 rfl) ?_
        refine lv_iload_n hx hcd dX7_areInConflict_24 rfl (lv_at hl 1 rfl) ?_
        obtain ⟨r9, h8, ho⟩ := gb_some ho
        refine g_calli hW (g_runV (As := [.int x1]) (rest := []) (i := 132) hC hW (c_X7_on l D y ad x1 _ _ h8) ok_X7_94 ⟨rfl, rfl, Nat.le_of_ble_eq_true rfl, Nat.le_of_ble_eq_true rfl⟩ (by decide) rfl rfl rfl rfl hl.1 rfl (Nat.le_of_ble_eq_true rfl) dX7_areInConflict_25 ⟨Nat.zero_le _, Nat.zero_le _⟩) (fun H locs hW => ?_)
        refine lv_aload_n hx hcd dX7_areInConflict_28 rfl (lv_at hl 0 rfl) ?_
        refine lv_iload_n hx hcd dX7_areInConflict_29 rfl (lv_at hl 2 rfl) ?_
        obtain ⟨r11, h10, ho⟩ := gb_some ho
        refine g_calli hW (g_runV (As := [.int x2]) (rest := [.int r9]) (i := 132) hC hW (c_X7_on l D y ad x2 _ _ h10) ok_X7_94 ⟨rfl, rfl, Nat.le_of_ble_eq_true rfl, Nat.le_of_ble_eq_true rfl⟩ (by decide) rfl rfl rfl rfl hl.1 rfl (Nat.le_of_ble_eq_true rfl) dX7_areInConflict_30 ⟨Nat.zero_le _, Nat.zero_le _⟩) (fun H locs hW => ?_)
        refine lv_icmp_ne (tgt := 82) hx hcd dX7_areInConflict_33 (by decide) (fun c12 => ?_) (fun c12 => ?_)
        · have ho := gif_n ho c12
          refine lv_aload_n hx hcd dX7_areInConflict_82 rfl (lv_at hl 0 rfl) ?_
          refine lv_aload_n hx hcd dX7_areInConflict_83 rfl (lv_at hl 0 rfl) ?_
          refine lv_iload_n hx hcd dX7_areInConflict_84 rfl (lv_at hl 1 rfl) ?_
          obtain ⟨r14, h13, ho⟩ := gb_some ho
          refine g_calli hW (g_runV (As := [.int x1]) (rest := [.ref (ad 132)]) (i := 132) hC hW (c_X7_on l D y ad x1 _ _ h13) ok_X7_94 ⟨rfl, rfl, Nat.le_of_ble_eq_true rfl, Nat.le_of_ble_eq_true rfl⟩ (by decide) rfl rfl rfl rfl hl.1 rfl (Nat.le_of_ble_eq_true rfl) dX7_areInConflict_85 ⟨Nat.zero_le _, Nat.zero_le _⟩) (fun H locs hW => ?_)
          refine lv_aload_n hx hcd dX7_areInConflict_88 rfl (lv_at hl 0 rfl) ?_
          refine lv_iload_n hx hcd dX7_areInConflict_89 rfl (lv_at hl 2 rfl) ?_
          obtain ⟨r16, h15, ho⟩ := gb_some ho
          refine g_calli hW (g_runV (As := [.int x2]) (rest := [.int r14, .ref (ad 132)]) (i := 132) hC hW (c_X7_on l D y ad x2 _ _ h15) ok_X7_94 ⟨rfl, rfl, Nat.le_of_ble_eq_true rfl, Nat.le_of_ble_eq_true rfl⟩ (by decide) rfl rfl rfl rfl hl.1 rfl (Nat.le_of_ble_eq_true rfl) dX7_areInConflict_90 ⟨Nat.zero_le _, Nat.zero_le _⟩) (fun H locs hW => ?_)
          obtain ⟨r18, h17, ho⟩ := gb_some ho
          refine g_calli hW (g_runV (As := [.int r14, .int r16]) (rest := []) (i := 132) hC hW (c_X7_limit l D y ad r14 r16 _ _ h17) ok_X7_77 ⟨rfl, rfl, Nat.le_of_ble_eq_true rfl, Nat.le_of_ble_eq_true rfl⟩ (by decide) rfl rfl rfl rfl hl.1 rfl (Nat.le_of_ble_eq_true rfl) dX7_areInConflict_93 ⟨Nat.zero_le _, Nat.zero_le _⟩) (fun H locs hW => ?_)
          refine lv_istore_n (lv' := [(3, .int r18), (0, .ref (ad 132)), (1, .int x1), (2, .int x2)]) hx hcd dX7_areInConflict_96 rfl hl (by decide) rfl (fun ls hl => ?_)
          refine lv_iload_n hx hcd dX7_areInConflict_97 rfl (lv_at hl 0 rfl) ?_
          refine lv_if_lt (tgt := 146) hx hcd dX7_areInConflict_98 (by decide) (fun c19 => ?_) (fun c19 => ?_)
          · have ho := gif_p ho c19
            refine lv_iconst (v := 0) hx hcd dX7_areInConflict_146 (by decide) ?_
            obtain rfl := Option.some.inj ho
            exact g_zret (r := 0) hC hr hlk hsz hW (by decide) dX7_areInConflict_147
          · have ho := gif_n ho c19
            refine lv_aload_n hx hcd dX7_areInConflict_101 rfl (lv_at hl 1 rfl) ?_
            refine lv_iload_n hx hcd dX7_areInConflict_102 rfl (lv_at hl 2 rfl) ?_
            obtain ⟨r21, h20, ho⟩ := gb_some ho
            refine g_calli hW (g_runV (As := [.int x1]) (rest := []) (i := 132) hC hW (c_X7_from l D y ad x1 _ _ h20) ok_X7_103 ⟨rfl, rfl, Nat.le_of_ble_eq_true rfl, Nat.le_of_ble_eq_true rfl⟩ (by decide) rfl rfl rfl rfl hl.1 rfl (Nat.le_of_ble_eq_true rfl) dX7_areInConflict_103 ⟨Nat.zero_le _, Nat.zero_le _⟩) (fun H locs hW => ?_)
            refine lv_aload_n hx hcd dX7_areInConflict_106 rfl (lv_at hl 1 rfl) ?_
            refine lv_iload_n hx hcd dX7_areInConflict_107 rfl (lv_at hl 3 rfl) ?_
            obtain ⟨r23, h22, ho⟩ := gb_some ho
            refine g_calli hW (g_runV (As := [.int x2]) (rest := [.int r21]) (i := 132) hC hW (c_X7_to l D y ad x2 _ _ h22) ok_X7_106 ⟨rfl, rfl, Nat.le_of_ble_eq_true rfl, Nat.le_of_ble_eq_true rfl⟩ (by decide) rfl rfl rfl rfl hl.1 rfl (Nat.le_of_ble_eq_true rfl) dX7_areInConflict_108 ⟨Nat.zero_le _, Nat.zero_le _⟩) (fun H locs hW => ?_)
            refine lv_icmp_ge (tgt := 146) hx hcd dX7_areInConflict_111 (by decide) (fun c24 => ?_) (fun c24 => ?_)
            · have ho := gif_p ho c24
              refine lv_iconst (v := 0) hx hcd dX7_areInConflict_146 (by decide) ?_
              obtain rfl := Option.some.inj ho
              exact g_zret (r := 0) hC hr hlk hsz hW (by decide) dX7_areInConflict_147
            · have ho := gif_n ho c24
              refine lv_aload_n hx hcd dX7_areInConflict_114 rfl (lv_at hl 1 rfl) ?_
              refine lv_iload_n hx hcd dX7_areInConflict_115 rfl (lv_at hl 3 rfl) ?_
              obtain ⟨r26, h25, ho⟩ := gb_some ho
              refine g_calli hW (g_runV (As := [.int x2]) (rest := []) (i := 132) hC hW (c_X7_from l D y ad x2 _ _ h25) ok_X7_103 ⟨rfl, rfl, Nat.le_of_ble_eq_true rfl, Nat.le_of_ble_eq_true rfl⟩ (by decide) rfl rfl rfl rfl hl.1 rfl (Nat.le_of_ble_eq_true rfl) dX7_areInConflict_116 ⟨Nat.zero_le _, Nat.zero_le _⟩) (fun H locs hW => ?_)
              refine lv_aload_n hx hcd dX7_areInConflict_119 rfl (lv_at hl 1 rfl) ?_
              refine lv_iload_n hx hcd dX7_areInConflict_120 rfl (lv_at hl 2 rfl) ?_
              obtain ⟨r28, h27, ho⟩ := gb_some ho
              refine g_calli hW (g_runV (As := [.int x1]) (rest := [.int r26]) (i := 132) hC hW (c_X7_to l D y ad x1 _ _ h27) ok_X7_106 ⟨rfl, rfl, Nat.le_of_ble_eq_true rfl, Nat.le_of_ble_eq_true rfl⟩ (by decide) rfl rfl rfl rfl hl.1 rfl (Nat.le_of_ble_eq_true rfl) dX7_areInConflict_121 ⟨Nat.zero_le _, Nat.zero_le _⟩) (fun H locs hW => ?_)
              refine lv_icmp_ge (tgt := 146) hx hcd dX7_areInConflict_124 (by decide) (fun c29 => ?_) (fun c29 => ?_)
              · have ho := gif_p ho c29
                refine lv_iconst (v := 0) hx hcd dX7_areInConflict_146 (by decide) ?_
                obtain rfl := Option.some.inj ho
                exact g_zret (r := 0) hC hr hlk hsz hW (by decide) dX7_areInConflict_147
              · have ho := gif_n ho c29
                refine lv_aload_n hx hcd dX7_areInConflict_127 rfl (lv_at hl 1 rfl) ?_
                refine lv_iload_n hx hcd dX7_areInConflict_128 rfl (lv_at hl 2 rfl) ?_
                obtain ⟨r31, h30, ho⟩ := gb_some ho
                refine g_calli hW (g_runV (As := [.int x1]) (rest := []) (i := 132) hC hW (c_X7_size l D y ad x1 _ _ h30) ok_X7_100 ⟨rfl, rfl, Nat.le_of_ble_eq_true rfl, Nat.le_of_ble_eq_true rfl⟩ (by decide) rfl rfl rfl rfl hl.1 rfl (Nat.le_of_ble_eq_true rfl) dX7_areInConflict_129 ⟨Nat.zero_le _, Nat.zero_le _⟩) (fun H locs hW => ?_)
                refine lv_aload_n hx hcd dX7_areInConflict_132 rfl (lv_at hl 1 rfl) ?_
                refine lv_iload_n hx hcd dX7_areInConflict_133 rfl (lv_at hl 3 rfl) ?_
                obtain ⟨r33, h32, ho⟩ := gb_some ho
                refine g_calli hW (g_runV (As := [.int x2]) (rest := [.int r31]) (i := 132) hC hW (c_X7_size l D y ad x2 _ _ h32) ok_X7_100 ⟨rfl, rfl, Nat.le_of_ble_eq_true rfl, Nat.le_of_ble_eq_true rfl⟩ (by decide) rfl rfl rfl rfl hl.1 rfl (Nat.le_of_ble_eq_true rfl) dX7_areInConflict_134 ⟨Nat.zero_le _, Nat.zero_le _⟩) (fun H locs hW => ?_)
                refine lv_iadd hx hcd dX7_areInConflict_137 ?_
                refine lv_iload_n hx hcd dX7_areInConflict_138 rfl (lv_at hl 0 rfl) ?_
                refine lv_icmp_le (tgt := 146) hx hcd dX7_areInConflict_139 (by decide) (fun c34 => ?_) (fun c34 => ?_)
                · have ho := gif_p ho c34
                  refine lv_iconst (v := 0) hx hcd dX7_areInConflict_146 (by decide) ?_
                  obtain rfl := Option.some.inj ho
                  exact g_zret (r := 0) hC hr hlk hsz hW (by decide) dX7_areInConflict_147
                · have ho := gif_n ho c34
                  refine lv_iconst (v := 1) hx hcd dX7_areInConflict_142 (by decide) ?_
                  refine lv_goto (tgt := 147) hx hcd dX7_areInConflict_143 (by decide) ?_
                  obtain rfl := Option.some.inj ho
                  exact g_zret (r := 1) hC hr hlk hsz hW (by decide) dX7_areInConflict_147
        · have ho := gif_p ho c12
          refine lv_aload_n hx hcd dX7_areInConflict_36 rfl (lv_at hl 0 rfl) ?_
          refine lv_iload_n hx hcd dX7_areInConflict_37 rfl (lv_at hl 2 rfl) ?_
          obtain ⟨r36, h35, ho⟩ := gb_some ho
          refine g_calli hW (g_runV (As := [.int x2]) (rest := []) (i := 132) hC hW (c_X7_from l D y ad x2 _ _ h35) ok_X7_103 ⟨rfl, rfl, Nat.le_of_ble_eq_true rfl, Nat.le_of_ble_eq_true rfl⟩ (by decide) rfl rfl rfl rfl hl.1 rfl (Nat.le_of_ble_eq_true rfl) dX7_areInConflict_38 ⟨Nat.zero_le _, Nat.zero_le _⟩) (fun H locs hW => ?_)
          refine lv_aload_n hx hcd dX7_areInConflict_41 rfl (lv_at hl 0 rfl) ?_
          refine lv_iload_n hx hcd dX7_areInConflict_42 rfl (lv_at hl 1 rfl) ?_
          obtain ⟨r38, h37, ho⟩ := gb_some ho
          refine g_calli hW (g_runV (As := [.int x1]) (rest := [.int r36]) (i := 132) hC hW (c_X7_to l D y ad x1 _ _ h37) ok_X7_106 ⟨rfl, rfl, Nat.le_of_ble_eq_true rfl, Nat.le_of_ble_eq_true rfl⟩ (by decide) rfl rfl rfl rfl hl.1 rfl (Nat.le_of_ble_eq_true rfl) dX7_areInConflict_43 ⟨Nat.zero_le _, Nat.zero_le _⟩) (fun H locs hW => ?_)
          refine lv_aload_n hx hcd dX7_areInConflict_46 rfl (lv_at hl 0 rfl) ?_
          refine g_getr hC hW (C := RX7) (T := TX7) (N := 19) (ci := 9) (k := 0) (index := 9) (i := 132) (r := 133) inGX7 rfl (by decide) fl_X7_9 (by decide) rfl rfl dX7_areInConflict_47 ?_
          refine lv_iconst (v := 2) hx hcd dX7_areInConflict_50 (by decide) ?_
          refine g_iald hC hW (i := 133) (by decide) rfl (by decide) dX7_areInConflict_51 ?_
          refine lv_iadd hx hcd dX7_areInConflict_52 ?_
          refine lv_icmp_ge (tgt := 80) hx hcd dX7_areInConflict_53 (by decide) (fun c39 => ?_) (fun c39 => ?_)
          · have ho := gif_p ho c39
            refine lv_iconst (v := 0) hx hcd dX7_areInConflict_80 (by decide) ?_
            obtain rfl := Option.some.inj ho
            exact g_zret (r := 0) hC hr hlk hsz hW (by decide) dX7_areInConflict_81
          · have ho := gif_n ho c39
            refine lv_aload_n hx hcd dX7_areInConflict_56 rfl (lv_at hl 0 rfl) ?_
            refine lv_iload_n hx hcd dX7_areInConflict_57 rfl (lv_at hl 1 rfl) ?_
            obtain ⟨r41, h40, ho⟩ := gb_some ho
            refine g_calli hW (g_runV (As := [.int x1]) (rest := []) (i := 132) hC hW (c_X7_from l D y ad x1 _ _ h40) ok_X7_103 ⟨rfl, rfl, Nat.le_of_ble_eq_true rfl, Nat.le_of_ble_eq_true rfl⟩ (by decide) rfl rfl rfl rfl hl.1 rfl (Nat.le_of_ble_eq_true rfl) dX7_areInConflict_58 ⟨Nat.zero_le _, Nat.zero_le _⟩) (fun H locs hW => ?_)
            refine lv_aload_n hx hcd dX7_areInConflict_61 rfl (lv_at hl 0 rfl) ?_
            refine lv_iload_n hx hcd dX7_areInConflict_62 rfl (lv_at hl 2 rfl) ?_
            obtain ⟨r43, h42, ho⟩ := gb_some ho
            refine g_calli hW (g_runV (As := [.int x2]) (rest := [.int r41]) (i := 132) hC hW (c_X7_to l D y ad x2 _ _ h42) ok_X7_106 ⟨rfl, rfl, Nat.le_of_ble_eq_true rfl, Nat.le_of_ble_eq_true rfl⟩ (by decide) rfl rfl rfl rfl hl.1 rfl (Nat.le_of_ble_eq_true rfl) dX7_areInConflict_63 ⟨Nat.zero_le _, Nat.zero_le _⟩) (fun H locs hW => ?_)
            refine lv_aload_n hx hcd dX7_areInConflict_66 rfl (lv_at hl 0 rfl) ?_
            refine g_getr hC hW (C := RX7) (T := TX7) (N := 19) (ci := 9) (k := 0) (index := 9) (i := 132) (r := 133) inGX7 rfl (by decide) fl_X7_9 (by decide) rfl rfl dX7_areInConflict_67 ?_
            refine lv_iconst (v := 2) hx hcd dX7_areInConflict_70 (by decide) ?_
            refine g_iald hC hW (i := 133) (by decide) rfl (by decide) dX7_areInConflict_71 ?_
            refine lv_iadd hx hcd dX7_areInConflict_72 ?_
            refine lv_icmp_ge (tgt := 80) hx hcd dX7_areInConflict_73 (by decide) (fun c44 => ?_) (fun c44 => ?_)
            · have ho := gif_p ho c44
              refine lv_iconst (v := 0) hx hcd dX7_areInConflict_80 (by decide) ?_
              obtain rfl := Option.some.inj ho
              exact g_zret (r := 0) hC hr hlk hsz hW (by decide) dX7_areInConflict_81
            · have ho := gif_n ho c44
              refine lv_iconst (v := 1) hx hcd dX7_areInConflict_76 (by decide) ?_
              refine lv_goto (tgt := 81) hx hcd dX7_areInConflict_77 (by decide) ?_
              obtain rfl := Option.some.inj ho
              exact g_zret (r := 1) hC hr hlk hsz hW (by decide) dX7_areInConflict_81
      · have ho := gif_p ho c7
        refine lv_iconst (v := 0) hx hcd dX7_areInConflict_21 (by decide) ?_
        obtain rfl := Option.some.inj ho
        exact g_zret (r := 0) hC hr hlk hsz hW (by decide) dX7_areInConflict_22
noncomputable def X7_conflictsOf_k0 (σ : gS) (x1 : Int32) (x2 : Int32) (x3 : Int32) : Option ((Int32 × Int32 × Int32) ⊕ (Int32)) :=
  if 20 ≤ x3 then (some (.inr x2)) else ((X7_areInConflict σ x1 x3).bind fun r3 => if r3 = 0 then (some (.inl (x1, (x2 ||| (0 : Int32)), (x3 + 1)))) else (some (.inl (x1, (x2 ||| ((1 : Int32) <<< (x3 &&& 31))), (x3 + 1)))))
noncomputable def X7_conflictsOf_s (σ : gS) (a : Int32 × Int32 × Int32) : Option ((Int32 × Int32 × Int32) ⊕ (Int32)) :=
  X7_conflictsOf_k0 σ a.1 a.2.1 a.2.2
noncomputable def X7_conflictsOf (σ : gS) (x1 : Int32) : Option (Int32) :=
  gr (X7_conflictsOf_s σ) (x1, 0, 0)
set_option maxHeartbeats 4000000 in
set_option maxRecDepth 100000 in
theorem l_X7_conflictsOf {p : Program} {e : Env} {s : State} {m : MethodId} {args : Array Value} {below : List Frame} {meth : Method} {c : Code} (l : Launch) (D : va_G) (y : ClassId × ClassId × ClassId) (ad : Nat → Nat) (σ : gS) (sz : Nat) (hC : g_C p s m args c cX7_conflictsOf 4 RX7 D y) (hr : meth.sig.returnType = (some .int)) (hlk : meth.locks = false) (hsz : s.heap.size = sz) {r0 : Int32} : ∀ a : Int32 × Int32 × Int32, gr (X7_conflictsOf_s σ) a = some r0 → ∀ (H : Heap) (locs : List Loc) (ls : Array Slot), g_W (g_A ad sz) s.heap D y ad [] σ H locs → lv_has ls 4 [(0, .ref (ad 132)), (1, .int a.1), (2, .int a.2.1), (3, .int a.2.2)] → W p l e ({ frames := 5, cells := 0, slots := 0, locals := 108 }) s m args below meth c H locs 0 0 (MQ below (g_Qi D y ad σ sz r0) args s 0 0 (g_A ad sz)) (F0 m 4 ls []) := by
  have hx := hC.1
  have hcd := hC.2.1
  refine gr_all (fun a o ho hret hjmp => ?_)
  obtain ⟨x1, x2, x3⟩ := a
  intro H locs ls hW hl
  have ho : X7_conflictsOf_k0 σ x1 x2 x3 = some o := ho
  unfold X7_conflictsOf_k0 at ho
  refine lv_iload_n hx hcd dX7_conflictsOf_4 rfl (lv_at hl 3 rfl) ?_
  refine lv_bipush (v := 20) hx hcd dX7_conflictsOf_5 (by decide) ?_
  refine lv_icmp_ge (tgt := 35) hx hcd dX7_conflictsOf_7 (by decide) (fun c1 => ?_) (fun c1 => ?_)
  · have ho := gif_p ho c1
    refine lv_iload_n hx hcd dX7_conflictsOf_35 rfl (lv_at hl 2 rfl) ?_
    obtain rfl := hret _ (Option.some.inj ho).symm
    exact g_iret hC hr hlk hsz hW dX7_conflictsOf_36
  · have ho := gif_n ho c1
    refine lv_iload_n hx hcd dX7_conflictsOf_10 rfl (lv_at hl 2 rfl) ?_
    refine lv_aload_n hx hcd dX7_conflictsOf_11 rfl (lv_at hl 0 rfl) ?_
    refine lv_iload_n hx hcd dX7_conflictsOf_12 rfl (lv_at hl 1 rfl) ?_
    refine lv_iload_n hx hcd dX7_conflictsOf_13 rfl (lv_at hl 3 rfl) ?_
    obtain ⟨r3, h2, ho⟩ := gb_some ho
    refine g_calli hW (g_runV (As := [.int x1, .int x3]) (rest := [.int x2]) (i := 132) hC hW (c_X7_areInConflict l D y ad x1 x3 _ _ h2) ok_X7_109 ⟨rfl, rfl, Nat.le_of_ble_eq_true rfl, Nat.le_of_ble_eq_true rfl⟩ (by decide) rfl rfl rfl rfl hl.1 rfl (Nat.le_of_ble_eq_true rfl) dX7_conflictsOf_14 ⟨Nat.zero_le _, Nat.zero_le _⟩) (fun H locs hW => ?_)
    refine lv_if_eq (tgt := 26) hx hcd dX7_conflictsOf_17 (by decide) (fun c4 => ?_) (fun c4 => ?_)
    · have ho := gif_p ho c4
      refine lv_iconst (v := 0) hx hcd dX7_conflictsOf_26 (by decide) ?_
      refine lv_ior hx hcd dX7_conflictsOf_27 ?_
      refine lv_istore_n (lv' := [(2, .int (x2 ||| (0 : Int32))), (0, .ref (ad 132)), (1, .int x1), (3, .int x3)]) hx hcd dX7_conflictsOf_28 rfl hl (by decide) rfl (fun ls hl => ?_)
      refine lv_iinc (v := x3 + 1) (lv' := [(3, .int (x3 + 1)), (2, .int (x2 ||| (0 : Int32))), (0, .ref (ad 132)), (1, .int x1)]) hx hcd dX7_conflictsOf_29 hl (k := 3) rfl rfl (by decide) rfl (fun ls hl => ?_)
      refine lv_goto (tgt := 4) hx hcd dX7_conflictsOf_32 (by decide) ?_
      exact hjmp _ (Option.some.inj ho).symm _ _ _ hW (lv_sub hl [2, 3, 1, 0] rfl)
    · have ho := gif_n ho c4
      refine lv_iconst (v := 1) hx hcd dX7_conflictsOf_20 (by decide) ?_
      refine lv_iload_n hx hcd dX7_conflictsOf_21 rfl (lv_at hl 3 rfl) ?_
      refine lv_ishl hx hcd dX7_conflictsOf_22 ?_
      refine lv_goto (tgt := 27) hx hcd dX7_conflictsOf_23 (by decide) ?_
      refine lv_ior hx hcd dX7_conflictsOf_27 ?_
      refine lv_istore_n (lv' := [(2, .int (x2 ||| ((1 : Int32) <<< (x3 &&& 31)))), (0, .ref (ad 132)), (1, .int x1), (3, .int x3)]) hx hcd dX7_conflictsOf_28 rfl hl (by decide) rfl (fun ls hl => ?_)
      refine lv_iinc (v := x3 + 1) (lv' := [(3, .int (x3 + 1)), (2, .int (x2 ||| ((1 : Int32) <<< (x3 &&& 31)))), (0, .ref (ad 132)), (1, .int x1)]) hx hcd dX7_conflictsOf_29 hl (k := 3) rfl rfl (by decide) rfl (fun ls hl => ?_)
      refine lv_goto (tgt := 4) hx hcd dX7_conflictsOf_32 (by decide) ?_
      exact hjmp _ (Option.some.inj ho).symm _ _ _ hW (lv_sub hl [2, 3, 1, 0] rfl)
set_option maxHeartbeats 4000000 in
set_option maxRecDepth 100000 in
theorem c_X7_conflictsOf (l : Launch) (D : va_G) (y : ClassId × ClassId × ClassId) (ad : Nat → Nat) (x1 : Int32) (σ : gS) (sz : Nat) {q : Int32} (h : X7_conflictsOf σ x1 = some q) : Met l yX7_conflictsOf (Cond.code yX7_conflictsOf cX7_conflictsOf 4 (some .int) :: gl) ({ frames := 5, cells := 0, slots := 0, locals := 108 }) (g_Pc D y ad σ sz [.ref (ad 132), .int x1]) (g_Qi D y ad σ sz q) 0 0 (g_A ad sz) := by
  have ho := h
  unfold X7_conflictsOf at ho
  refine g_start (by decide) (Nat.le_of_ble_eq_true rfl) (fun p e s m below meth c ls hC hr hlk hsz hW hl => ?_)
  have hx := hC.1
  have hcd := hC.2.1
  have hl : lv_has ls 4 [(0, .ref (ad 132)), (1, .int x1)] := hl
  refine lv_iconst (v := 0) hx hcd dX7_conflictsOf_0 (by decide) ?_
  refine lv_istore_n (lv' := [(2, .int 0), (0, .ref (ad 132)), (1, .int x1)]) hx hcd dX7_conflictsOf_1 rfl hl (by decide) rfl (fun ls hl => ?_)
  refine lv_iconst (v := 0) hx hcd dX7_conflictsOf_2 (by decide) ?_
  refine lv_istore_n (lv' := [(3, .int 0), (2, .int 0), (0, .ref (ad 132)), (1, .int x1)]) hx hcd dX7_conflictsOf_3 rfl hl (by decide) rfl (fun ls hl => ?_)
  exact l_X7_conflictsOf l D y ad σ sz hC hr hlk hsz _ ho _ _ _ hW (lv_sub hl [2, 3, 1, 0] rfl)
noncomputable def X7_costOf (σ : gS) (x1 : Int32) : Option (Int32) :=
  (X7_on σ x1).bind fun r2 => if 0 ≤ r2 then (gd (ib ((4 : Int32) + r2) 162) <| if (σ 133 ((4 : Int32) + r2).toNatClampNeg) = 0 then ((X7_weight σ x1).bind fun r12 => some ((0 : Int32) * r12)) else (if (σ 133 ((4 : Int32) + r2).toNatClampNeg) = 1 then ((X7_weight σ x1).bind fun r10 => some ((2 : Int32) * r10)) else ((X7_weight σ x1).bind fun r8 => some ((5 : Int32) * r8)))) else ((X7_weight σ x1).bind fun r14 => some ((20 : Int32) * r14))
set_option maxHeartbeats 4000000 in
set_option maxRecDepth 100000 in
theorem c_X7_costOf (l : Launch) (D : va_G) (y : ClassId × ClassId × ClassId) (ad : Nat → Nat) (x1 : Int32) (σ : gS) (sz : Nat) {q : Int32} (h : X7_costOf σ x1 = some q) : Met l yX7_costOf (Cond.code yX7_costOf cX7_costOf 4 (some .int) :: gl) ({ frames := 2, cells := 0, slots := 0, locals := 41 }) (g_Pc D y ad σ sz [.ref (ad 132), .int x1]) (g_Qi D y ad σ sz q) 0 0 (g_A ad sz) := by
  have ho := h
  unfold X7_costOf at ho
  refine g_start (by decide) (Nat.le_of_ble_eq_true rfl) (fun p e s m below meth c ls hC hr hlk hsz hW hl => ?_)
  have hx := hC.1
  have hcd := hC.2.1
  have hl : lv_has ls 4 [(0, .ref (ad 132)), (1, .int x1)] := hl
  refine lv_aload_n hx hcd dX7_costOf_0 rfl (lv_at hl 0 rfl) ?_
  refine lv_iload_n hx hcd dX7_costOf_1 rfl (lv_at hl 1 rfl) ?_
  obtain ⟨r2, h1, ho⟩ := gb_some ho
  refine g_calli hW (g_runV (As := [.int x1]) (rest := []) (i := 132) hC hW (c_X7_on l D y ad x1 _ _ h1) ok_X7_94 ⟨rfl, rfl, Nat.le_of_ble_eq_true rfl, Nat.le_of_ble_eq_true rfl⟩ (by decide) rfl rfl rfl rfl hl.1 rfl (Nat.le_of_ble_eq_true rfl) dX7_costOf_2 ⟨Nat.zero_le _, Nat.zero_le _⟩) (fun H locs hW => ?_)
  refine lv_istore_n (lv' := [(2, .int r2), (0, .ref (ad 132)), (1, .int x1)]) hx hcd dX7_costOf_5 rfl hl (by decide) rfl (fun ls hl => ?_)
  refine lv_iload_n hx hcd dX7_costOf_6 rfl (lv_at hl 0 rfl) ?_
  refine lv_if_ge (tgt := 15) hx hcd dX7_costOf_7 (by decide) (fun c3 => ?_) (fun c3 => ?_)
  · have ho := gif_p ho c3
    refine lv_aload_n hx hcd dX7_costOf_15 rfl (lv_at hl 1 rfl) ?_
    refine g_getr hC hW (C := RX7) (T := TX7) (N := 19) (ci := 9) (k := 0) (index := 9) (i := 132) (r := 133) inGX7 rfl (by decide) fl_X7_9 (by decide) rfl rfl dX7_costOf_16 ?_
    refine lv_iconst (v := 4) hx hcd dX7_costOf_19 (by decide) ?_
    refine lv_iload_n hx hcd dX7_costOf_20 rfl (lv_at hl 0 rfl) ?_
    refine lv_iadd hx hcd dX7_costOf_21 ?_
    obtain ⟨i4, ho⟩ := gd_some ho
    refine g_iald hC hW (i := 133) (by decide) rfl i4 dX7_costOf_22 ?_
    refine lv_if_ne (tgt := 30) hx hcd dX7_costOf_23 (by decide) (fun c5 => ?_) (fun c5 => ?_)
    · have ho := gif_n ho c5
      refine lv_aload_n hx hcd dX7_costOf_30 rfl (lv_at hl 1 rfl) ?_
      refine g_getr hC hW (C := RX7) (T := TX7) (N := 19) (ci := 9) (k := 0) (index := 9) (i := 132) (r := 133) inGX7 rfl (by decide) fl_X7_9 (by decide) rfl rfl dX7_costOf_31 ?_
      refine lv_iconst (v := 4) hx hcd dX7_costOf_34 (by decide) ?_
      refine lv_iload_n hx hcd dX7_costOf_35 rfl (lv_at hl 0 rfl) ?_
      refine lv_iadd hx hcd dX7_costOf_36 ?_
      refine g_iald hC hW (i := 133) (by decide) rfl i4 dX7_costOf_37 ?_
      refine lv_iconst (v := 1) hx hcd dX7_costOf_38 (by decide) ?_
      refine lv_icmp_ne (tgt := 46) hx hcd dX7_costOf_39 (by decide) (fun c6 => ?_) (fun c6 => ?_)
      · have ho := gif_n ho c6
        refine lv_iconst (v := 5) hx hcd dX7_costOf_46 (by decide) ?_
        refine lv_istore_n (lv' := [(3, .int 5), (2, .int r2), (0, .ref (ad 132)), (1, .int x1)]) hx hcd dX7_costOf_47 rfl hl (by decide) rfl (fun ls hl => ?_)
        refine lv_iload_n hx hcd dX7_costOf_48 rfl (lv_at hl 0 rfl) ?_
        refine lv_aload_n hx hcd dX7_costOf_49 rfl (lv_at hl 2 rfl) ?_
        refine lv_iload_n hx hcd dX7_costOf_50 rfl (lv_at hl 3 rfl) ?_
        obtain ⟨r8, h7, ho⟩ := gb_some ho
        refine g_calli hW (g_runV (As := [.int x1]) (rest := [.int 5]) (i := 132) hC hW (c_X7_weight l D y ad x1 _ _ h7) ok_X7_113 ⟨rfl, rfl, Nat.le_of_ble_eq_true rfl, Nat.le_of_ble_eq_true rfl⟩ (by decide) rfl rfl rfl rfl hl.1 rfl (Nat.le_of_ble_eq_true rfl) dX7_costOf_51 ⟨Nat.zero_le _, Nat.zero_le _⟩) (fun H locs hW => ?_)
        refine lv_imul hx hcd dX7_costOf_54 ?_
        obtain rfl := Option.some.inj ho
        exact g_iret hC hr hlk hsz hW dX7_costOf_55
      · have ho := gif_p ho c6
        refine lv_iconst (v := 2) hx hcd dX7_costOf_42 (by decide) ?_
        refine lv_goto (tgt := 47) hx hcd dX7_costOf_43 (by decide) ?_
        refine lv_istore_n (lv' := [(3, .int 2), (2, .int r2), (0, .ref (ad 132)), (1, .int x1)]) hx hcd dX7_costOf_47 rfl hl (by decide) rfl (fun ls hl => ?_)
        refine lv_iload_n hx hcd dX7_costOf_48 rfl (lv_at hl 0 rfl) ?_
        refine lv_aload_n hx hcd dX7_costOf_49 rfl (lv_at hl 2 rfl) ?_
        refine lv_iload_n hx hcd dX7_costOf_50 rfl (lv_at hl 3 rfl) ?_
        obtain ⟨r10, h9, ho⟩ := gb_some ho
        refine g_calli hW (g_runV (As := [.int x1]) (rest := [.int 2]) (i := 132) hC hW (c_X7_weight l D y ad x1 _ _ h9) ok_X7_113 ⟨rfl, rfl, Nat.le_of_ble_eq_true rfl, Nat.le_of_ble_eq_true rfl⟩ (by decide) rfl rfl rfl rfl hl.1 rfl (Nat.le_of_ble_eq_true rfl) dX7_costOf_51 ⟨Nat.zero_le _, Nat.zero_le _⟩) (fun H locs hW => ?_)
        refine lv_imul hx hcd dX7_costOf_54 ?_
        obtain rfl := Option.some.inj ho
        exact g_iret hC hr hlk hsz hW dX7_costOf_55
    · have ho := gif_p ho c5
      refine lv_iconst (v := 0) hx hcd dX7_costOf_26 (by decide) ?_
      refine lv_goto (tgt := 47) hx hcd dX7_costOf_27 (by decide) ?_
      refine lv_istore_n (lv' := [(3, .int 0), (2, .int r2), (0, .ref (ad 132)), (1, .int x1)]) hx hcd dX7_costOf_47 rfl hl (by decide) rfl (fun ls hl => ?_)
      refine lv_iload_n hx hcd dX7_costOf_48 rfl (lv_at hl 0 rfl) ?_
      refine lv_aload_n hx hcd dX7_costOf_49 rfl (lv_at hl 2 rfl) ?_
      refine lv_iload_n hx hcd dX7_costOf_50 rfl (lv_at hl 3 rfl) ?_
      obtain ⟨r12, h11, ho⟩ := gb_some ho
      refine g_calli hW (g_runV (As := [.int x1]) (rest := [.int 0]) (i := 132) hC hW (c_X7_weight l D y ad x1 _ _ h11) ok_X7_113 ⟨rfl, rfl, Nat.le_of_ble_eq_true rfl, Nat.le_of_ble_eq_true rfl⟩ (by decide) rfl rfl rfl rfl hl.1 rfl (Nat.le_of_ble_eq_true rfl) dX7_costOf_51 ⟨Nat.zero_le _, Nat.zero_le _⟩) (fun H locs hW => ?_)
      refine lv_imul hx hcd dX7_costOf_54 ?_
      obtain rfl := Option.some.inj ho
      exact g_iret hC hr hlk hsz hW dX7_costOf_55
  · have ho := gif_n ho c3
    refine lv_bipush (v := 20) hx hcd dX7_costOf_10 (by decide) ?_
    refine lv_goto (tgt := 47) hx hcd dX7_costOf_12 (by decide) ?_
    refine lv_istore_n (lv' := [(3, .int 20), (2, .int r2), (0, .ref (ad 132)), (1, .int x1)]) hx hcd dX7_costOf_47 rfl hl (by decide) rfl (fun ls hl => ?_)
    refine lv_iload_n hx hcd dX7_costOf_48 rfl (lv_at hl 0 rfl) ?_
    refine lv_aload_n hx hcd dX7_costOf_49 rfl (lv_at hl 2 rfl) ?_
    refine lv_iload_n hx hcd dX7_costOf_50 rfl (lv_at hl 3 rfl) ?_
    obtain ⟨r14, h13, ho⟩ := gb_some ho
    refine g_calli hW (g_runV (As := [.int x1]) (rest := [.int 20]) (i := 132) hC hW (c_X7_weight l D y ad x1 _ _ h13) ok_X7_113 ⟨rfl, rfl, Nat.le_of_ble_eq_true rfl, Nat.le_of_ble_eq_true rfl⟩ (by decide) rfl rfl rfl rfl hl.1 rfl (Nat.le_of_ble_eq_true rfl) dX7_costOf_51 ⟨Nat.zero_le _, Nat.zero_le _⟩) (fun H locs hW => ?_)
    refine lv_imul hx hcd dX7_costOf_54 ?_
    obtain rfl := Option.some.inj ho
    exact g_iret hC hr hlk hsz hW dX7_costOf_55
noncomputable def X7_costOfTurn (σ : gS) (x1 : Int32) : Option (Int32) :=
  (X7_tow σ x1).bind fun r2 => if 0 ≤ r2 then ((X7_costOf σ ((2 : Int32) * x1)).bind fun r5 => (X7_costOf σ (((2 : Int32) * x1) + (1 : Int32))).bind fun r7 => some ((r5 + r7) + (10 : Int32))) else ((X7_costOf σ ((2 : Int32) * x1)).bind fun r9 => some r9)
set_option maxHeartbeats 4000000 in
set_option maxRecDepth 100000 in
theorem c_X7_costOfTurn (l : Launch) (D : va_G) (y : ClassId × ClassId × ClassId) (ad : Nat → Nat) (x1 : Int32) (σ : gS) (sz : Nat) {q : Int32} (h : X7_costOfTurn σ x1 = some q) : Met l yX7_costOfTurn (Cond.code yX7_costOfTurn cX7_costOfTurn 2 (some .int) :: gl) ({ frames := 3, cells := 0, slots := 0, locals := 64 }) (g_Pc D y ad σ sz [.ref (ad 132), .int x1]) (g_Qi D y ad σ sz q) 0 0 (g_A ad sz) := by
  have ho := h
  unfold X7_costOfTurn at ho
  refine g_start (by decide) (Nat.le_of_ble_eq_true rfl) (fun p e s m below meth c ls hC hr hlk hsz hW hl => ?_)
  have hx := hC.1
  have hcd := hC.2.1
  have hl : lv_has ls 2 [(0, .ref (ad 132)), (1, .int x1)] := hl
  refine lv_aload_n hx hcd dX7_costOfTurn_0 rfl (lv_at hl 0 rfl) ?_
  refine lv_iload_n hx hcd dX7_costOfTurn_1 rfl (lv_at hl 1 rfl) ?_
  obtain ⟨r2, h1, ho⟩ := gb_some ho
  refine g_calli hW (g_runV (As := [.int x1]) (rest := []) (i := 132) hC hW (c_X7_tow l D y ad x1 _ _ h1) ok_X7_88 ⟨rfl, rfl, Nat.le_of_ble_eq_true rfl, Nat.le_of_ble_eq_true rfl⟩ (by decide) rfl rfl rfl rfl hl.1 rfl (Nat.le_of_ble_eq_true rfl) dX7_costOfTurn_2 ⟨Nat.zero_le _, Nat.zero_le _⟩) (fun H locs hW => ?_)
  refine lv_if_ge (tgt := 18) hx hcd dX7_costOfTurn_5 (by decide) (fun c3 => ?_) (fun c3 => ?_)
  · have ho := gif_p ho c3
    refine lv_aload_n hx hcd dX7_costOfTurn_18 rfl (lv_at hl 0 rfl) ?_
    refine lv_iconst (v := 2) hx hcd dX7_costOfTurn_19 (by decide) ?_
    refine lv_iload_n hx hcd dX7_costOfTurn_20 rfl (lv_at hl 1 rfl) ?_
    refine lv_imul hx hcd dX7_costOfTurn_21 ?_
    obtain ⟨r5, h4, ho⟩ := gb_some ho
    refine g_calli hW (g_runV (As := [.int ((2 : Int32) * x1)]) (rest := []) (i := 132) hC hW (c_X7_costOf l D y ad ((2 : Int32) * x1) _ _ h4) ok_X7_119 ⟨rfl, rfl, Nat.le_of_ble_eq_true rfl, Nat.le_of_ble_eq_true rfl⟩ (by decide) rfl rfl rfl rfl hl.1 rfl (Nat.le_of_ble_eq_true rfl) dX7_costOfTurn_22 ⟨Nat.zero_le _, Nat.zero_le _⟩) (fun H locs hW => ?_)
    refine lv_aload_n hx hcd dX7_costOfTurn_25 rfl (lv_at hl 0 rfl) ?_
    refine lv_iconst (v := 2) hx hcd dX7_costOfTurn_26 (by decide) ?_
    refine lv_iload_n hx hcd dX7_costOfTurn_27 rfl (lv_at hl 1 rfl) ?_
    refine lv_imul hx hcd dX7_costOfTurn_28 ?_
    refine lv_iconst (v := 1) hx hcd dX7_costOfTurn_29 (by decide) ?_
    refine lv_iadd hx hcd dX7_costOfTurn_30 ?_
    obtain ⟨r7, h6, ho⟩ := gb_some ho
    refine g_calli hW (g_runV (As := [.int (((2 : Int32) * x1) + (1 : Int32))]) (rest := [.int r5]) (i := 132) hC hW (c_X7_costOf l D y ad (((2 : Int32) * x1) + (1 : Int32)) _ _ h6) ok_X7_119 ⟨rfl, rfl, Nat.le_of_ble_eq_true rfl, Nat.le_of_ble_eq_true rfl⟩ (by decide) rfl rfl rfl rfl hl.1 rfl (Nat.le_of_ble_eq_true rfl) dX7_costOfTurn_31 ⟨Nat.zero_le _, Nat.zero_le _⟩) (fun H locs hW => ?_)
    refine lv_iadd hx hcd dX7_costOfTurn_34 ?_
    refine lv_bipush (v := 10) hx hcd dX7_costOfTurn_35 (by decide) ?_
    refine lv_iadd hx hcd dX7_costOfTurn_37 ?_
    obtain rfl := Option.some.inj ho
    exact g_iret hC hr hlk hsz hW dX7_costOfTurn_38
  · have ho := gif_n ho c3
    refine lv_aload_n hx hcd dX7_costOfTurn_8 rfl (lv_at hl 0 rfl) ?_
    refine lv_iconst (v := 2) hx hcd dX7_costOfTurn_9 (by decide) ?_
    refine lv_iload_n hx hcd dX7_costOfTurn_10 rfl (lv_at hl 1 rfl) ?_
    refine lv_imul hx hcd dX7_costOfTurn_11 ?_
    obtain ⟨r9, h8, ho⟩ := gb_some ho
    refine g_calli hW (g_runV (As := [.int ((2 : Int32) * x1)]) (rest := []) (i := 132) hC hW (c_X7_costOf l D y ad ((2 : Int32) * x1) _ _ h8) ok_X7_119 ⟨rfl, rfl, Nat.le_of_ble_eq_true rfl, Nat.le_of_ble_eq_true rfl⟩ (by decide) rfl rfl rfl rfl hl.1 rfl (Nat.le_of_ble_eq_true rfl) dX7_costOfTurn_12 ⟨Nat.zero_le _, Nat.zero_le _⟩) (fun H locs hW => ?_)
    refine lv_goto (tgt := 38) hx hcd dX7_costOfTurn_15 (by decide) ?_
    obtain rfl := Option.some.inj ho
    exact g_iret hC hr hlk hsz hW dX7_costOfTurn_38
noncomputable def X7_cost_k0 (σ : gS) (x1 : Int32) (x2 : Int32) : Option ((Int32 × Int32) ⊕ (Int32)) :=
  if (σ 133 (1 : Int32).toNatClampNeg) ≤ x2 then (some (.inr x1)) else ((X7_costOfTurn σ x2).bind fun r3 => some (.inl ((x1 + r3), (x2 + 1))))
noncomputable def X7_cost_s (σ : gS) (a : Int32 × Int32) : Option ((Int32 × Int32) ⊕ (Int32)) :=
  X7_cost_k0 σ a.1 a.2
noncomputable def X7_cost (σ : gS) : Option (Int32) :=
  gr (X7_cost_s σ) (0, 0)
set_option maxHeartbeats 4000000 in
set_option maxRecDepth 100000 in
theorem l_X7_cost {p : Program} {e : Env} {s : State} {m : MethodId} {args : Array Value} {below : List Frame} {meth : Method} {c : Code} (l : Launch) (D : va_G) (y : ClassId × ClassId × ClassId) (ad : Nat → Nat) (σ : gS) (sz : Nat) (hC : g_C p s m args c cX7_cost 3 RX7 D y) (hr : meth.sig.returnType = (some .int)) (hlk : meth.locks = false) (hsz : s.heap.size = sz) {r0 : Int32} : ∀ a : Int32 × Int32, gr (X7_cost_s σ) a = some r0 → ∀ (H : Heap) (locs : List Loc) (ls : Array Slot), g_W (g_A ad sz) s.heap D y ad [] σ H locs → lv_has ls 3 [(0, .ref (ad 132)), (1, .int a.1), (2, .int a.2)] → W p l e ({ frames := 4, cells := 0, slots := 0, locals := 85 }) s m args below meth c H locs 0 0 (MQ below (g_Qi D y ad σ sz r0) args s 0 0 (g_A ad sz)) (F0 m 4 ls []) := by
  have hx := hC.1
  have hcd := hC.2.1
  refine gr_all (fun a o ho hret hjmp => ?_)
  obtain ⟨x1, x2⟩ := a
  intro H locs ls hW hl
  have ho : X7_cost_k0 σ x1 x2 = some o := ho
  unfold X7_cost_k0 at ho
  refine lv_iload_n hx hcd dX7_cost_4 rfl (lv_at hl 2 rfl) ?_
  refine lv_aload_n hx hcd dX7_cost_5 rfl (lv_at hl 0 rfl) ?_
  refine g_getr hC hW (C := RX7) (T := TX7) (N := 19) (ci := 9) (k := 0) (index := 9) (i := 132) (r := 133) inGX7 rfl (by decide) fl_X7_9 (by decide) rfl rfl dX7_cost_6 ?_
  refine lv_iconst (v := 1) hx hcd dX7_cost_9 (by decide) ?_
  refine g_iald hC hW (i := 133) (by decide) rfl (by decide) dX7_cost_10 ?_
  refine lv_icmp_ge (tgt := 28) hx hcd dX7_cost_11 (by decide) (fun c1 => ?_) (fun c1 => ?_)
  · have ho := gif_p ho c1
    refine lv_iload_n hx hcd dX7_cost_28 rfl (lv_at hl 1 rfl) ?_
    obtain rfl := hret _ (Option.some.inj ho).symm
    exact g_iret hC hr hlk hsz hW dX7_cost_29
  · have ho := gif_n ho c1
    refine lv_iload_n hx hcd dX7_cost_14 rfl (lv_at hl 1 rfl) ?_
    refine lv_aload_n hx hcd dX7_cost_15 rfl (lv_at hl 0 rfl) ?_
    refine lv_iload_n hx hcd dX7_cost_16 rfl (lv_at hl 2 rfl) ?_
    obtain ⟨r3, h2, ho⟩ := gb_some ho
    refine g_calli hW (g_runV (As := [.int x2]) (rest := [.int x1]) (i := 132) hC hW (c_X7_costOfTurn l D y ad x2 _ _ h2) ok_X7_116 ⟨rfl, rfl, Nat.le_of_ble_eq_true rfl, Nat.le_of_ble_eq_true rfl⟩ (by decide) rfl rfl rfl rfl hl.1 rfl (Nat.le_of_ble_eq_true rfl) dX7_cost_17 ⟨Nat.zero_le _, Nat.zero_le _⟩) (fun H locs hW => ?_)
    refine lv_iadd hx hcd dX7_cost_20 ?_
    refine lv_istore_n (lv' := [(1, .int (x1 + r3)), (0, .ref (ad 132)), (2, .int x2)]) hx hcd dX7_cost_21 rfl hl (by decide) rfl (fun ls hl => ?_)
    refine lv_iinc (v := x2 + 1) (lv' := [(2, .int (x2 + 1)), (1, .int (x1 + r3)), (0, .ref (ad 132))]) hx hcd dX7_cost_22 hl (k := 2) rfl rfl (by decide) rfl (fun ls hl => ?_)
    refine lv_goto (tgt := 4) hx hcd dX7_cost_25 (by decide) ?_
    exact hjmp _ (Option.some.inj ho).symm _ _ _ hW (lv_sub hl [2, 1, 0] rfl)
set_option maxHeartbeats 4000000 in
set_option maxRecDepth 100000 in
theorem c_X7_cost (l : Launch) (D : va_G) (y : ClassId × ClassId × ClassId) (ad : Nat → Nat) (σ : gS) (sz : Nat) {q : Int32} (h : X7_cost σ = some q) : Met l yX7_cost (Cond.code yX7_cost cX7_cost 3 (some .int) :: gl) ({ frames := 4, cells := 0, slots := 0, locals := 85 }) (g_Pc D y ad σ sz [.ref (ad 132)]) (g_Qi D y ad σ sz q) 0 0 (g_A ad sz) := by
  have ho := h
  unfold X7_cost at ho
  refine g_start (by decide) (Nat.le_of_ble_eq_true rfl) (fun p e s m below meth c ls hC hr hlk hsz hW hl => ?_)
  have hx := hC.1
  have hcd := hC.2.1
  have hl : lv_has ls 3 [(0, .ref (ad 132))] := hl
  refine lv_iconst (v := 0) hx hcd dX7_cost_0 (by decide) ?_
  refine lv_istore_n (lv' := [(1, .int 0), (0, .ref (ad 132))]) hx hcd dX7_cost_1 rfl hl (by decide) rfl (fun ls hl => ?_)
  refine lv_iconst (v := 0) hx hcd dX7_cost_2 (by decide) ?_
  refine lv_istore_n (lv' := [(2, .int 0), (1, .int 0), (0, .ref (ad 132))]) hx hcd dX7_cost_3 rfl hl (by decide) rfl (fun ls hl => ?_)
  exact l_X7_cost l D y ad σ sz hC hr hlk hsz _ ho _ _ _ hW (lv_sub hl [2, 1, 0] rfl)
noncomputable def X7_ofStays_k0 (σ : gS) (x1 : Int32) (x2 : Int32) (x3 : Int32) (x4 : Int32) (x5 : Int32) (x6 : Int32) : Option ((Int32 × Int32 × Int32 × Int32 × Int32 × Int32) ⊕ (Int32)) :=
  if 20 ≤ x6 then (if x2 = 4 then (some (.inr x3)) else (if x2 = 5 then (some (.inr x4)) else (some (.inr x5)))) else ((X7_isOn σ x6).bind fun r5 => if r5 = 0 then (some (.inl (x1, x2, x3, x4, x5, (x6 + 1)))) else ((X7_on σ x6).bind fun r8 => if r8 = x1 then ((X7_to σ x6).bind fun r11 => (X7_from σ x6).bind fun r13 => (X7_isHindered σ x6).bind fun r15 => if r15 = 0 then ((X7_conflictsOf σ x6).bind fun r18 => if r18 = 0 then (some (.inl (x1, x2, (x3 + 1), (x4 + (r11 - r13)), (x5 ||| (0 : Int32)), (x6 + 1)))) else (some (.inl (x1, x2, (x3 + 1), (x4 + (r11 - r13)), (x5 ||| ((1 : Int32) <<< (x6 &&& 31))), (x6 + 1))))) else (some (.inl (x1, x2, (x3 + 1), (x4 + (r11 - r13)), (x5 ||| ((1 : Int32) <<< (x6 &&& 31))), (x6 + 1))))) else (some (.inl (x1, x2, x3, x4, x5, (x6 + 1))))))
noncomputable def X7_ofStays_s (σ : gS) (a : Int32 × Int32 × Int32 × Int32 × Int32 × Int32) : Option ((Int32 × Int32 × Int32 × Int32 × Int32 × Int32) ⊕ (Int32)) :=
  X7_ofStays_k0 σ a.1 a.2.1 a.2.2.1 a.2.2.2.1 a.2.2.2.2.1 a.2.2.2.2.2
noncomputable def X7_ofStays (σ : gS) (x1 : Int32) (x2 : Int32) : Option (Int32) :=
  gr (X7_ofStays_s σ) (x1, x2, 0, 0, 0, 0)
set_option maxHeartbeats 4000000 in
set_option maxRecDepth 100000 in
theorem l_X7_ofStays {p : Program} {e : Env} {s : State} {m : MethodId} {args : Array Value} {below : List Frame} {meth : Method} {c : Code} (l : Launch) (D : va_G) (y : ClassId × ClassId × ClassId) (ad : Nat → Nat) (σ : gS) (sz : Nat) (hC : g_C p s m args c cX7_ofStays 7 RX7 D y) (hr : meth.sig.returnType = (some .int)) (hlk : meth.locks = false) (hsz : s.heap.size = sz) {r0 : Int32} : ∀ a : Int32 × Int32 × Int32 × Int32 × Int32 × Int32, gr (X7_ofStays_s σ) a = some r0 → ∀ (H : Heap) (locs : List Loc) (ls : Array Slot), g_W (g_A ad sz) s.heap D y ad [] σ H locs → lv_has ls 7 [(0, .ref (ad 132)), (1, .int a.1), (2, .int a.2.1), (3, .int a.2.2.1), (4, .int a.2.2.2.1), (5, .int a.2.2.2.2.1), (6, .int a.2.2.2.2.2)] → W p l e ({ frames := 6, cells := 0, slots := 0, locals := 131 }) s m args below meth c H locs 0 0 (MQ below (g_Qi D y ad σ sz r0) args s 0 0 (g_A ad sz)) (F0 m 11 ls []) := by
  have hx := hC.1
  have hcd := hC.2.1
  refine gr_all (fun a o ho hret hjmp => ?_)
  obtain ⟨x1, x2, x3, x4, x5, x6⟩ := a
  intro H locs ls hW hl
  have ho : X7_ofStays_k0 σ x1 x2 x3 x4 x5 x6 = some o := ho
  unfold X7_ofStays_k0 at ho
  refine lv_iload hx hcd dX7_ofStays_11 (lv_at hl 6 rfl) ?_
  refine lv_bipush (v := 20) hx hcd dX7_ofStays_13 (by decide) ?_
  refine lv_icmp_ge (tgt := 95) hx hcd dX7_ofStays_15 (by decide) (fun c1 => ?_) (fun c1 => ?_)
  · have ho := gif_p ho c1
    refine lv_iload_n hx hcd dX7_ofStays_95 rfl (lv_at hl 2 rfl) ?_
    refine lv_iconst (v := 4) hx hcd dX7_ofStays_96 (by decide) ?_
    refine lv_icmp_ne (tgt := 104) hx hcd dX7_ofStays_97 (by decide) (fun c2 => ?_) (fun c2 => ?_)
    · have ho := gif_n ho c2
      refine lv_iload_n hx hcd dX7_ofStays_104 rfl (lv_at hl 2 rfl) ?_
      refine lv_iconst (v := 5) hx hcd dX7_ofStays_105 (by decide) ?_
      refine lv_icmp_ne (tgt := 114) hx hcd dX7_ofStays_106 (by decide) (fun c3 => ?_) (fun c3 => ?_)
      · have ho := gif_n ho c3
        refine lv_iload hx hcd dX7_ofStays_114 (lv_at hl 5 rfl) ?_
        obtain rfl := hret _ (Option.some.inj ho).symm
        exact g_iret hC hr hlk hsz hW dX7_ofStays_116
      · have ho := gif_p ho c3
        refine lv_iload hx hcd dX7_ofStays_109 (lv_at hl 4 rfl) ?_
        refine lv_goto (tgt := 116) hx hcd dX7_ofStays_111 (by decide) ?_
        obtain rfl := hret _ (Option.some.inj ho).symm
        exact g_iret hC hr hlk hsz hW dX7_ofStays_116
    · have ho := gif_p ho c2
      refine lv_iload_n hx hcd dX7_ofStays_100 rfl (lv_at hl 3 rfl) ?_
      refine lv_goto (tgt := 116) hx hcd dX7_ofStays_101 (by decide) ?_
      obtain rfl := hret _ (Option.some.inj ho).symm
      exact g_iret hC hr hlk hsz hW dX7_ofStays_116
  · have ho := gif_n ho c1
    refine lv_aload_n hx hcd dX7_ofStays_18 rfl (lv_at hl 0 rfl) ?_
    refine lv_iload hx hcd dX7_ofStays_19 (lv_at hl 6 rfl) ?_
    obtain ⟨r5, h4, ho⟩ := gb_some ho
    refine g_calli hW (g_runV (As := [.int x6]) (rest := []) (i := 132) hC hW (c_X7_isOn l D y ad x6 _ _ h4) ok_X7_97 ⟨rfl, rfl, Nat.le_of_ble_eq_true rfl, Nat.le_of_ble_eq_true rfl⟩ (by decide) rfl rfl rfl rfl hl.1 rfl (Nat.le_of_ble_eq_true rfl) dX7_ofStays_21 ⟨Nat.zero_le _, Nat.zero_le _⟩) (fun H locs hW => ?_)
    refine lv_if_eq (tgt := 89) hx hcd dX7_ofStays_24 (by decide) (fun c6 => ?_) (fun c6 => ?_)
    · have ho := gif_p ho c6
      refine lv_iinc (v := x6 + 1) (lv' := [(6, .int (x6 + 1)), (0, .ref (ad 132)), (1, .int x1), (2, .int x2), (3, .int x3), (4, .int x4), (5, .int x5)]) hx hcd dX7_ofStays_89 hl (k := 6) rfl rfl (by decide) rfl (fun ls hl => ?_)
      refine lv_goto (tgt := 11) hx hcd dX7_ofStays_92 (by decide) ?_
      exact hjmp _ (Option.some.inj ho).symm _ _ _ hW (lv_sub hl [1, 2, 3, 4, 5, 6, 0] rfl)
    · have ho := gif_n ho c6
      refine lv_aload_n hx hcd dX7_ofStays_27 rfl (lv_at hl 0 rfl) ?_
      refine lv_iload hx hcd dX7_ofStays_28 (lv_at hl 6 rfl) ?_
      obtain ⟨r8, h7, ho⟩ := gb_some ho
      refine g_calli hW (g_runV (As := [.int x6]) (rest := []) (i := 132) hC hW (c_X7_on l D y ad x6 _ _ h7) ok_X7_94 ⟨rfl, rfl, Nat.le_of_ble_eq_true rfl, Nat.le_of_ble_eq_true rfl⟩ (by decide) rfl rfl rfl rfl hl.1 rfl (Nat.le_of_ble_eq_true rfl) dX7_ofStays_30 ⟨Nat.zero_le _, Nat.zero_le _⟩) (fun H locs hW => ?_)
      refine lv_iload_n hx hcd dX7_ofStays_33 rfl (lv_at hl 1 rfl) ?_
      refine lv_icmp_ne (tgt := 89) hx hcd dX7_ofStays_34 (by decide) (fun c9 => ?_) (fun c9 => ?_)
      · have ho := gif_n ho c9
        refine lv_iinc (v := x6 + 1) (lv' := [(6, .int (x6 + 1)), (0, .ref (ad 132)), (1, .int x1), (2, .int x2), (3, .int x3), (4, .int x4), (5, .int x5)]) hx hcd dX7_ofStays_89 hl (k := 6) rfl rfl (by decide) rfl (fun ls hl => ?_)
        refine lv_goto (tgt := 11) hx hcd dX7_ofStays_92 (by decide) ?_
        exact hjmp _ (Option.some.inj ho).symm _ _ _ hW (lv_sub hl [1, 2, 3, 4, 5, 6, 0] rfl)
      · have ho := gif_p ho c9
        refine lv_iinc (v := x3 + 1) (lv' := [(3, .int (x3 + 1)), (0, .ref (ad 132)), (1, .int x1), (2, .int x2), (4, .int x4), (5, .int x5), (6, .int x6)]) hx hcd dX7_ofStays_37 hl (k := 3) rfl rfl (by decide) rfl (fun ls hl => ?_)
        refine lv_iload hx hcd dX7_ofStays_40 (lv_at hl 4 rfl) ?_
        refine lv_aload_n hx hcd dX7_ofStays_42 rfl (lv_at hl 1 rfl) ?_
        refine lv_iload hx hcd dX7_ofStays_43 (lv_at hl 6 rfl) ?_
        obtain ⟨r11, h10, ho⟩ := gb_some ho
        refine g_calli hW (g_runV (As := [.int x6]) (rest := [.int x4]) (i := 132) hC hW (c_X7_to l D y ad x6 _ _ h10) ok_X7_106 ⟨rfl, rfl, Nat.le_of_ble_eq_true rfl, Nat.le_of_ble_eq_true rfl⟩ (by decide) rfl rfl rfl rfl hl.1 rfl (Nat.le_of_ble_eq_true rfl) dX7_ofStays_45 ⟨Nat.zero_le _, Nat.zero_le _⟩) (fun H locs hW => ?_)
        refine lv_aload_n hx hcd dX7_ofStays_48 rfl (lv_at hl 1 rfl) ?_
        refine lv_iload hx hcd dX7_ofStays_49 (lv_at hl 6 rfl) ?_
        obtain ⟨r13, h12, ho⟩ := gb_some ho
        refine g_calli hW (g_runV (As := [.int x6]) (rest := [.int r11, .int x4]) (i := 132) hC hW (c_X7_from l D y ad x6 _ _ h12) ok_X7_103 ⟨rfl, rfl, Nat.le_of_ble_eq_true rfl, Nat.le_of_ble_eq_true rfl⟩ (by decide) rfl rfl rfl rfl hl.1 rfl (Nat.le_of_ble_eq_true rfl) dX7_ofStays_51 ⟨Nat.zero_le _, Nat.zero_le _⟩) (fun H locs hW => ?_)
        refine lv_isub hx hcd dX7_ofStays_54 ?_
        refine lv_iadd hx hcd dX7_ofStays_55 ?_
        refine lv_istore (lv' := [(4, .int (x4 + (r11 - r13))), (3, .int (x3 + 1)), (0, .ref (ad 132)), (1, .int x1), (2, .int x2), (5, .int x5), (6, .int x6)]) hx hcd dX7_ofStays_56 hl (by decide) rfl (fun ls hl => ?_)
        refine lv_iload hx hcd dX7_ofStays_58 (lv_at hl 5 rfl) ?_
        refine lv_aload_n hx hcd dX7_ofStays_60 rfl (lv_at hl 2 rfl) ?_
        refine lv_iload hx hcd dX7_ofStays_61 (lv_at hl 6 rfl) ?_
        obtain ⟨r15, h14, ho⟩ := gb_some ho
        refine g_calli hW (g_runV (As := [.int x6]) (rest := [.int x5]) (i := 132) hC hW (c_X7_isHindered l D y ad x6 _ _ h14) ok_X7_125 ⟨rfl, rfl, Nat.le_of_ble_eq_true rfl, Nat.le_of_ble_eq_true rfl⟩ (by decide) rfl rfl rfl rfl hl.1 rfl (Nat.le_of_ble_eq_true rfl) dX7_ofStays_63 ⟨Nat.zero_le _, Nat.zero_le _⟩) (fun H locs hW => ?_)
        refine lv_if_ne (tgt := 78) hx hcd dX7_ofStays_66 (by decide) (fun c16 => ?_) (fun c16 => ?_)
        · have ho := gif_n ho c16
          refine lv_iconst (v := 1) hx hcd dX7_ofStays_78 (by decide) ?_
          refine lv_iload hx hcd dX7_ofStays_79 (lv_at hl 6 rfl) ?_
          refine lv_ishl hx hcd dX7_ofStays_81 ?_
          refine lv_goto (tgt := 86) hx hcd dX7_ofStays_82 (by decide) ?_
          refine lv_ior hx hcd dX7_ofStays_86 ?_
          refine lv_istore (lv' := [(5, .int (x5 ||| ((1 : Int32) <<< (x6 &&& 31)))), (4, .int (x4 + (r11 - r13))), (3, .int (x3 + 1)), (0, .ref (ad 132)), (1, .int x1), (2, .int x2), (6, .int x6)]) hx hcd dX7_ofStays_87 hl (by decide) rfl (fun ls hl => ?_)
          refine lv_iinc (v := x6 + 1) (lv' := [(6, .int (x6 + 1)), (5, .int (x5 ||| ((1 : Int32) <<< (x6 &&& 31)))), (4, .int (x4 + (r11 - r13))), (3, .int (x3 + 1)), (0, .ref (ad 132)), (1, .int x1), (2, .int x2)]) hx hcd dX7_ofStays_89 hl (k := 6) rfl rfl (by decide) rfl (fun ls hl => ?_)
          refine lv_goto (tgt := 11) hx hcd dX7_ofStays_92 (by decide) ?_
          exact hjmp _ (Option.some.inj ho).symm _ _ _ hW (lv_sub hl [4, 5, 6, 3, 2, 1, 0] rfl)
        · have ho := gif_p ho c16
          refine lv_aload_n hx hcd dX7_ofStays_69 rfl (lv_at hl 2 rfl) ?_
          refine lv_iload hx hcd dX7_ofStays_70 (lv_at hl 6 rfl) ?_
          obtain ⟨r18, h17, ho⟩ := gb_some ho
          refine g_calli hW (g_runV (As := [.int x6]) (rest := [.int x5]) (i := 132) hC hW (c_X7_conflictsOf l D y ad x6 _ _ h17) ok_X7_128 ⟨rfl, rfl, Nat.le_of_ble_eq_true rfl, Nat.le_of_ble_eq_true rfl⟩ (by decide) rfl rfl rfl rfl hl.1 rfl (Nat.le_of_ble_eq_true rfl) dX7_ofStays_72 ⟨Nat.zero_le _, Nat.zero_le _⟩) (fun H locs hW => ?_)
          refine lv_if_eq (tgt := 85) hx hcd dX7_ofStays_75 (by decide) (fun c19 => ?_) (fun c19 => ?_)
          · have ho := gif_p ho c19
            refine lv_iconst (v := 0) hx hcd dX7_ofStays_85 (by decide) ?_
            refine lv_ior hx hcd dX7_ofStays_86 ?_
            refine lv_istore (lv' := [(5, .int (x5 ||| (0 : Int32))), (4, .int (x4 + (r11 - r13))), (3, .int (x3 + 1)), (0, .ref (ad 132)), (1, .int x1), (2, .int x2), (6, .int x6)]) hx hcd dX7_ofStays_87 hl (by decide) rfl (fun ls hl => ?_)
            refine lv_iinc (v := x6 + 1) (lv' := [(6, .int (x6 + 1)), (5, .int (x5 ||| (0 : Int32))), (4, .int (x4 + (r11 - r13))), (3, .int (x3 + 1)), (0, .ref (ad 132)), (1, .int x1), (2, .int x2)]) hx hcd dX7_ofStays_89 hl (k := 6) rfl rfl (by decide) rfl (fun ls hl => ?_)
            refine lv_goto (tgt := 11) hx hcd dX7_ofStays_92 (by decide) ?_
            exact hjmp _ (Option.some.inj ho).symm _ _ _ hW (lv_sub hl [4, 5, 6, 3, 2, 1, 0] rfl)
          · have ho := gif_n ho c19
            refine lv_iconst (v := 1) hx hcd dX7_ofStays_78 (by decide) ?_
            refine lv_iload hx hcd dX7_ofStays_79 (lv_at hl 6 rfl) ?_
            refine lv_ishl hx hcd dX7_ofStays_81 ?_
            refine lv_goto (tgt := 86) hx hcd dX7_ofStays_82 (by decide) ?_
            refine lv_ior hx hcd dX7_ofStays_86 ?_
            refine lv_istore (lv' := [(5, .int (x5 ||| ((1 : Int32) <<< (x6 &&& 31)))), (4, .int (x4 + (r11 - r13))), (3, .int (x3 + 1)), (0, .ref (ad 132)), (1, .int x1), (2, .int x2), (6, .int x6)]) hx hcd dX7_ofStays_87 hl (by decide) rfl (fun ls hl => ?_)
            refine lv_iinc (v := x6 + 1) (lv' := [(6, .int (x6 + 1)), (5, .int (x5 ||| ((1 : Int32) <<< (x6 &&& 31)))), (4, .int (x4 + (r11 - r13))), (3, .int (x3 + 1)), (0, .ref (ad 132)), (1, .int x1), (2, .int x2)]) hx hcd dX7_ofStays_89 hl (k := 6) rfl rfl (by decide) rfl (fun ls hl => ?_)
            refine lv_goto (tgt := 11) hx hcd dX7_ofStays_92 (by decide) ?_
            exact hjmp _ (Option.some.inj ho).symm _ _ _ hW (lv_sub hl [4, 5, 6, 3, 2, 1, 0] rfl)
set_option maxHeartbeats 4000000 in
set_option maxRecDepth 100000 in
theorem c_X7_ofStays (l : Launch) (D : va_G) (y : ClassId × ClassId × ClassId) (ad : Nat → Nat) (x1 : Int32) (x2 : Int32) (σ : gS) (sz : Nat) {q : Int32} (h : X7_ofStays σ x1 x2 = some q) : Met l yX7_ofStays (Cond.code yX7_ofStays cX7_ofStays 7 (some .int) :: gl) ({ frames := 6, cells := 0, slots := 0, locals := 131 }) (g_Pc D y ad σ sz [.ref (ad 132), .int x1, .int x2]) (g_Qi D y ad σ sz q) 0 0 (g_A ad sz) := by
  have ho := h
  unfold X7_ofStays at ho
  refine g_start (by decide) (Nat.le_of_ble_eq_true rfl) (fun p e s m below meth c ls hC hr hlk hsz hW hl => ?_)
  have hx := hC.1
  have hcd := hC.2.1
  have hl : lv_has ls 7 [(0, .ref (ad 132)), (1, .int x1), (2, .int x2)] := hl
  refine lv_iconst (v := 0) hx hcd dX7_ofStays_0 (by decide) ?_
  refine lv_istore_n (lv' := [(3, .int 0), (0, .ref (ad 132)), (1, .int x1), (2, .int x2)]) hx hcd dX7_ofStays_1 rfl hl (by decide) rfl (fun ls hl => ?_)
  refine lv_iconst (v := 0) hx hcd dX7_ofStays_2 (by decide) ?_
  refine lv_istore (lv' := [(4, .int 0), (3, .int 0), (0, .ref (ad 132)), (1, .int x1), (2, .int x2)]) hx hcd dX7_ofStays_3 hl (by decide) rfl (fun ls hl => ?_)
  refine lv_iconst (v := 0) hx hcd dX7_ofStays_5 (by decide) ?_
  refine lv_istore (lv' := [(5, .int 0), (4, .int 0), (3, .int 0), (0, .ref (ad 132)), (1, .int x1), (2, .int x2)]) hx hcd dX7_ofStays_6 hl (by decide) rfl (fun ls hl => ?_)
  refine lv_iconst (v := 0) hx hcd dX7_ofStays_8 (by decide) ?_
  refine lv_istore (lv' := [(6, .int 0), (5, .int 0), (4, .int 0), (3, .int 0), (0, .ref (ad 132)), (1, .int x1), (2, .int x2)]) hx hcd dX7_ofStays_9 hl (by decide) rfl (fun ls hl => ?_)
  exact l_X7_ofStays l D y ad σ sz hC hr hlk hsz _ ho _ _ _ hW (lv_sub hl [4, 5, 6, 3, 2, 1, 0] rfl)
noncomputable def X7_stand_k0 (σ : gS) (x1 : Int32) (x3 : Int32) (x4 : Int32) : Option ((Int32 × Int32 × Int32 × gS) ⊕ (Int32 × gS)) :=
  if (σ 133 (0 : Int32).toNatClampNeg) ≤ x4 then (some (.inr (x3, σ))) else ((X7_limit σ x1 x4).bind fun r42 => if r42 < 0 then (some (.inl (x1, (x3 ||| (0 : Int32)), (x4 + 1), σ))) else (some (.inl (x1, (x3 ||| ((1 : Int32) <<< (x4 &&& 31))), (x4 + 1), σ))))
noncomputable def X7_stand_s (a : Int32 × Int32 × Int32 × gS) : Option ((Int32 × Int32 × Int32 × gS) ⊕ (Int32 × gS)) :=
  X7_stand_k0 a.2.2.2 a.1 a.2.1 a.2.2.1
noncomputable def X7_stand (σ : gS) (x1 : Int32) (x2 : Int32) : Option (Int32 × gS) :=
  (X7_isStand σ x1).bind fun r2 => if r2 = 0 then (lt_ (g_up σ 132 8 1) fun σ29 => if (σ29 132 8) ≤ 0 then (if x2 = 0 then (gd (ib ((4 : Int32) + x1) 162) <| some ((σ29 133 ((4 : Int32) + x1).toNatClampNeg), σ29)) else (if x2 = 1 then (gd (ib ((12 : Int32) + x1) 162) <| some ((σ29 133 ((12 : Int32) + x1).toNatClampNeg), σ29)) else (if x2 = 2 then (gd (ib ((20 : Int32) + x1) 162) <| some ((σ29 133 ((20 : Int32) + x1).toNatClampNeg), σ29)) else (if x2 = 3 then (gr (X7_stand_s) (x1, 0, 0, σ29)) else ((X7_ofStays σ29 x1 x2).bind fun r39 => some (r39, σ29)))))) else (some (0, σ29))) else ((X7_in σ x2 0 6).bind fun r5 => if r5 = 0 then (lt_ (g_up σ 132 8 2) fun σ18 => if (σ18 132 8) ≤ 0 then (if x2 = 0 then (gd (ib ((4 : Int32) + x1) 162) <| some ((σ18 133 ((4 : Int32) + x1).toNatClampNeg), σ18)) else (if x2 = 1 then (gd (ib ((12 : Int32) + x1) 162) <| some ((σ18 133 ((12 : Int32) + x1).toNatClampNeg), σ18)) else (if x2 = 2 then (gd (ib ((20 : Int32) + x1) 162) <| some ((σ18 133 ((20 : Int32) + x1).toNatClampNeg), σ18)) else (if x2 = 3 then (gr (X7_stand_s) (x1, 0, 0, σ18)) else ((X7_ofStays σ18 x1 x2).bind fun r28 => some (r28, σ18)))))) else (some (0, σ18))) else (lt_ (g_up σ 132 8 0) fun σ7 => if (σ7 132 8) ≤ 0 then (if x2 = 0 then (gd (ib ((4 : Int32) + x1) 162) <| some ((σ7 133 ((4 : Int32) + x1).toNatClampNeg), σ7)) else (if x2 = 1 then (gd (ib ((12 : Int32) + x1) 162) <| some ((σ7 133 ((12 : Int32) + x1).toNatClampNeg), σ7)) else (if x2 = 2 then (gd (ib ((20 : Int32) + x1) 162) <| some ((σ7 133 ((20 : Int32) + x1).toNatClampNeg), σ7)) else (if x2 = 3 then (gr (X7_stand_s) (x1, 0, 0, σ7)) else ((X7_ofStays σ7 x1 x2).bind fun r17 => some (r17, σ7)))))) else (some (0, σ7))))
set_option maxHeartbeats 4000000 in
set_option maxRecDepth 100000 in
theorem l_X7_stand {p : Program} {e : Env} {s : State} {m : MethodId} {args : Array Value} {below : List Frame} {meth : Method} {c : Code} (l : Launch) (D : va_G) (y : ClassId × ClassId × ClassId) (ad : Nat → Nat) (sz : Nat) (hC : g_C p s m args c cX7_stand 5 RX7 D y) (hr : meth.sig.returnType = (some .int)) (hlk : meth.locks = false) (hsz : s.heap.size = sz) {r0 : Int32 × gS} : ∀ a : Int32 × Int32 × Int32 × gS, gr (X7_stand_s) a = some r0 → ∀ (H : Heap) (locs : List Loc) (ls : Array Slot), g_W (g_A ad sz) s.heap D y ad [] a.2.2.2 H locs → lv_has ls 5 [(0, .ref (ad 132)), (1, .int a.1), (3, .int a.2.1), (4, .int a.2.2.1)] → W p l e ({ frames := 7, cells := 0, slots := 0, locals := 157 }) s m args below meth c H locs 0 0 (MQ below (g_Qi D y ad r0.2 sz r0.1) args s 0 0 (g_A ad sz)) (F0 m 106 ls []) := by
  have hx := hC.1
  have hcd := hC.2.1
  refine gr_all (fun a o ho hret hjmp => ?_)
  obtain ⟨x1, x3, x4, σ⟩ := a
  intro H locs ls hW hl
  have ho : X7_stand_k0 σ x1 x3 x4 = some o := ho
  unfold X7_stand_k0 at ho
  refine lv_iload hx hcd dX7_stand_106 (lv_at hl 3 rfl) ?_
  refine lv_aload_n hx hcd dX7_stand_108 rfl (lv_at hl 0 rfl) ?_
  refine g_getr hC hW (C := RX7) (T := TX7) (N := 19) (ci := 9) (k := 0) (index := 9) (i := 132) (r := 133) inGX7 rfl (by decide) fl_X7_9 (by decide) rfl rfl dX7_stand_109 ?_
  refine lv_iconst (v := 0) hx hcd dX7_stand_112 (by decide) ?_
  refine g_iald hC hW (i := 133) (by decide) rfl (by decide) dX7_stand_113 ?_
  refine lv_icmp_ge (tgt := 144) hx hcd dX7_stand_114 (by decide) (fun c40 => ?_) (fun c40 => ?_)
  · have ho := gif_p ho c40
    refine lv_iload_n hx hcd dX7_stand_144 rfl (lv_at hl 2 rfl) ?_
    obtain rfl := hret _ (Option.some.inj ho).symm
    exact g_iret hC hr hlk hsz hW dX7_stand_145
  · have ho := gif_n ho c40
    refine lv_iload_n hx hcd dX7_stand_117 rfl (lv_at hl 2 rfl) ?_
    refine lv_aload_n hx hcd dX7_stand_118 rfl (lv_at hl 0 rfl) ?_
    refine lv_iload_n hx hcd dX7_stand_119 rfl (lv_at hl 1 rfl) ?_
    refine lv_iload hx hcd dX7_stand_120 (lv_at hl 3 rfl) ?_
    obtain ⟨r42, h41, ho⟩ := gb_some ho
    refine g_calli hW (g_runV (As := [.int x1, .int x4]) (rest := [.int x3]) (i := 132) hC hW (c_X7_limit l D y ad x1 x4 _ _ h41) ok_X7_77 ⟨rfl, rfl, Nat.le_of_ble_eq_true rfl, Nat.le_of_ble_eq_true rfl⟩ (by decide) rfl rfl rfl rfl hl.1 rfl (Nat.le_of_ble_eq_true rfl) dX7_stand_122 ⟨Nat.zero_le _, Nat.zero_le _⟩) (fun H locs hW => ?_)
    refine lv_if_lt (tgt := 135) hx hcd dX7_stand_125 (by decide) (fun c43 => ?_) (fun c43 => ?_)
    · have ho := gif_p ho c43
      refine lv_iconst (v := 0) hx hcd dX7_stand_135 (by decide) ?_
      refine lv_ior hx hcd dX7_stand_136 ?_
      refine lv_istore_n (lv' := [(3, .int (x3 ||| (0 : Int32))), (0, .ref (ad 132)), (1, .int x1), (4, .int x4)]) hx hcd dX7_stand_137 rfl hl (by decide) rfl (fun ls hl => ?_)
      refine lv_iinc (v := x4 + 1) (lv' := [(4, .int (x4 + 1)), (3, .int (x3 ||| (0 : Int32))), (0, .ref (ad 132)), (1, .int x1)]) hx hcd dX7_stand_138 hl (k := 3) rfl rfl (by decide) rfl (fun ls hl => ?_)
      refine lv_goto (tgt := 106) hx hcd dX7_stand_141 (by decide) ?_
      exact hjmp _ (Option.some.inj ho).symm _ _ _ hW (lv_sub hl [2, 3, 1, 0] rfl)
    · have ho := gif_n ho c43
      refine lv_iconst (v := 1) hx hcd dX7_stand_128 (by decide) ?_
      refine lv_iload hx hcd dX7_stand_129 (lv_at hl 3 rfl) ?_
      refine lv_ishl hx hcd dX7_stand_131 ?_
      refine lv_goto (tgt := 136) hx hcd dX7_stand_132 (by decide) ?_
      refine lv_ior hx hcd dX7_stand_136 ?_
      refine lv_istore_n (lv' := [(3, .int (x3 ||| ((1 : Int32) <<< (x4 &&& 31)))), (0, .ref (ad 132)), (1, .int x1), (4, .int x4)]) hx hcd dX7_stand_137 rfl hl (by decide) rfl (fun ls hl => ?_)
      refine lv_iinc (v := x4 + 1) (lv' := [(4, .int (x4 + 1)), (3, .int (x3 ||| ((1 : Int32) <<< (x4 &&& 31)))), (0, .ref (ad 132)), (1, .int x1)]) hx hcd dX7_stand_138 hl (k := 3) rfl rfl (by decide) rfl (fun ls hl => ?_)
      refine lv_goto (tgt := 106) hx hcd dX7_stand_141 (by decide) ?_
      exact hjmp _ (Option.some.inj ho).symm _ _ _ hW (lv_sub hl [2, 3, 1, 0] rfl)
set_option maxHeartbeats 4000000 in
set_option maxRecDepth 100000 in
theorem c_X7_stand (l : Launch) (D : va_G) (y : ClassId × ClassId × ClassId) (ad : Nat → Nat) (x1 : Int32) (x2 : Int32) (σ : gS) (sz : Nat) {q : Int32 × gS} (h : X7_stand σ x1 x2 = some q) : Met l yX7_stand (Cond.code yX7_stand cX7_stand 5 (some .int) :: gl) ({ frames := 7, cells := 0, slots := 0, locals := 157 }) (g_Pc D y ad σ sz [.ref (ad 132), .int x1, .int x2]) (g_Qi D y ad q.2 sz q.1) 0 0 (g_A ad sz) := by
  have ho := h
  unfold X7_stand at ho
  refine g_start (by decide) (Nat.le_of_ble_eq_true rfl) (fun p e s m below meth c ls hC hr hlk hsz hW hl => ?_)
  have hx := hC.1
  have hcd := hC.2.1
  have hl : lv_has ls 5 [(0, .ref (ad 132)), (1, .int x1), (2, .int x2)] := hl
  refine lv_aload_n hx hcd dX7_stand_0 rfl (lv_at hl 0 rfl) ?_
  refine lv_aload_n hx hcd dX7_stand_1 rfl (lv_at hl 0 rfl) ?_
  refine lv_iload_n hx hcd dX7_stand_2 rfl (lv_at hl 1 rfl) ?_
  obtain ⟨r2, h1, ho⟩ := gb_some ho
  refine g_calli hW (g_runV (As := [.int x1]) (rest := [.ref (ad 132)]) (i := 132) hC hW (c_X7_isStand l D y ad x1 _ _ h1) ok_X7_73 ⟨rfl, rfl, Nat.le_of_ble_eq_true rfl, Nat.le_of_ble_eq_true rfl⟩ (by decide) rfl rfl rfl rfl hl.1 rfl (Nat.le_of_ble_eq_true rfl) dX7_stand_3 ⟨Nat.zero_le _, Nat.zero_le _⟩) (fun H locs hW => ?_)
  refine lv_if_ne (tgt := 13) hx hcd dX7_stand_6 (by decide) (fun c3 => ?_) (fun c3 => ?_)
  · have ho := gif_n ho c3
    refine lv_iload_n hx hcd dX7_stand_13 rfl (lv_at hl 2 rfl) ?_
    refine lv_iconst (v := 0) hx hcd dX7_stand_14 (by decide) ?_
    refine lv_bipush (v := 6) hx hcd dX7_stand_15 (by decide) ?_
    obtain ⟨r5, h4, ho⟩ := gb_some ho
    refine g_calli hW (g_runS (As := [.int x2, .int 0, .int 6]) (rest := [.ref (ad 132)]) hC hW (c_X7_in l D y ad x2 0 6 _ _ h4) ok_X7_51 ⟨rfl, rfl, Nat.le_of_ble_eq_true rfl, Nat.le_of_ble_eq_true rfl⟩ rfl hl.1 rfl (Nat.le_of_ble_eq_true rfl) dX7_stand_17 ⟨Nat.zero_le _, Nat.zero_le _⟩) (fun H locs hW => ?_)
    refine lv_if_ne (tgt := 27) hx hcd dX7_stand_20 (by decide) (fun c6 => ?_) (fun c6 => ?_)
    · have ho := gif_n ho c6
      refine lv_iconst (v := 0) hx hcd dX7_stand_27 (by decide) ?_
      obtain ⟨σ7, eσ7, ho⟩ := lt_ex ho
      refine g_puti hC hW (C := RX7) (T := TX7) (N := 19) (ci := 9) (k := 8) (index := 48) (i := 132) inGX7 tyX7 tyX7_ok nmX7 rfl (by decide) fl_X7_48 rfl (by decide) rfl rfl rfl rfl dX7_stand_28 (fun H locs hW => ?_)
      rw [← eσ7] at hW
      refine lv_aload_n hx hcd dX7_stand_31 rfl (lv_at hl 0 rfl) ?_
      refine g_geti hC hW (C := RX7) (T := TX7) (N := 19) (ci := 9) (k := 8) (index := 48) (i := 132) inGX7 rfl (by decide) fl_X7_48 (by decide) rfl rfl dX7_stand_32 ?_
      refine lv_if_le (tgt := 40) hx hcd dX7_stand_35 (by decide) (fun c8 => ?_) (fun c8 => ?_)
      · have ho := gif_p ho c8
        refine lv_iload_n hx hcd dX7_stand_40 rfl (lv_at hl 2 rfl) ?_
        by_cases c9 : x2 = 0
        · have ho := gif_p ho c9
          refine lv_tableIn (tgt := 72) hx hcd dX7_stand_41 (by rw [c9]; decide) (by rw [c9]; decide) (by rw [c9]; rfl) (by decide) ?_
          refine lv_aload_n hx hcd dX7_stand_72 rfl (lv_at hl 0 rfl) ?_
          refine g_getr hC hW (C := RX7) (T := TX7) (N := 19) (ci := 9) (k := 0) (index := 9) (i := 132) (r := 133) inGX7 rfl (by decide) fl_X7_9 (by decide) rfl rfl dX7_stand_73 ?_
          refine lv_iconst (v := 4) hx hcd dX7_stand_76 (by decide) ?_
          refine lv_iload_n hx hcd dX7_stand_77 rfl (lv_at hl 1 rfl) ?_
          refine lv_iadd hx hcd dX7_stand_78 ?_
          obtain ⟨i10, ho⟩ := gd_some ho
          refine g_iald hC hW (i := 133) (by decide) rfl i10 dX7_stand_79 ?_
          obtain rfl := Option.some.inj ho
          exact g_iret hC hr hlk hsz hW dX7_stand_80
        have ho := gif_n ho c9
        by_cases c11 : x2 = 1
        · have ho := gif_p ho c11
          refine lv_tableIn (tgt := 81) hx hcd dX7_stand_41 (by rw [c11]; decide) (by rw [c11]; decide) (by rw [c11]; rfl) (by decide) ?_
          refine lv_aload_n hx hcd dX7_stand_81 rfl (lv_at hl 0 rfl) ?_
          refine g_getr hC hW (C := RX7) (T := TX7) (N := 19) (ci := 9) (k := 0) (index := 9) (i := 132) (r := 133) inGX7 rfl (by decide) fl_X7_9 (by decide) rfl rfl dX7_stand_82 ?_
          refine lv_bipush (v := 12) hx hcd dX7_stand_85 (by decide) ?_
          refine lv_iload_n hx hcd dX7_stand_87 rfl (lv_at hl 1 rfl) ?_
          refine lv_iadd hx hcd dX7_stand_88 ?_
          obtain ⟨i12, ho⟩ := gd_some ho
          refine g_iald hC hW (i := 133) (by decide) rfl i12 dX7_stand_89 ?_
          obtain rfl := Option.some.inj ho
          exact g_iret hC hr hlk hsz hW dX7_stand_90
        have ho := gif_n ho c11
        by_cases c13 : x2 = 2
        · have ho := gif_p ho c13
          refine lv_tableIn (tgt := 91) hx hcd dX7_stand_41 (by rw [c13]; decide) (by rw [c13]; decide) (by rw [c13]; rfl) (by decide) ?_
          refine lv_aload_n hx hcd dX7_stand_91 rfl (lv_at hl 0 rfl) ?_
          refine g_getr hC hW (C := RX7) (T := TX7) (N := 19) (ci := 9) (k := 0) (index := 9) (i := 132) (r := 133) inGX7 rfl (by decide) fl_X7_9 (by decide) rfl rfl dX7_stand_92 ?_
          refine lv_bipush (v := 20) hx hcd dX7_stand_95 (by decide) ?_
          refine lv_iload_n hx hcd dX7_stand_97 rfl (lv_at hl 1 rfl) ?_
          refine lv_iadd hx hcd dX7_stand_98 ?_
          obtain ⟨i14, ho⟩ := gd_some ho
          refine g_iald hC hW (i := 133) (by decide) rfl i14 dX7_stand_99 ?_
          obtain rfl := Option.some.inj ho
          exact g_iret hC hr hlk hsz hW dX7_stand_100
        have ho := gif_n ho c13
        by_cases c15 : x2 = 3
        · have ho := gif_p ho c15
          refine lv_tableIn (tgt := 101) hx hcd dX7_stand_41 (by rw [c15]; decide) (by rw [c15]; decide) (by rw [c15]; rfl) (by decide) ?_
          refine lv_iconst (v := 0) hx hcd dX7_stand_101 (by decide) ?_
          refine lv_istore_n (lv' := [(3, .int 0), (0, .ref (ad 132)), (1, .int x1), (2, .int x2)]) hx hcd dX7_stand_102 rfl hl (by decide) rfl (fun ls hl => ?_)
          refine lv_iconst (v := 0) hx hcd dX7_stand_103 (by decide) ?_
          refine lv_istore (lv' := [(4, .int 0), (3, .int 0), (0, .ref (ad 132)), (1, .int x1), (2, .int x2)]) hx hcd dX7_stand_104 hl (by decide) rfl (fun ls hl => ?_)
          exact l_X7_stand l D y ad sz hC hr hlk hsz _ ho _ _ _ hW (lv_sub hl [2, 3, 1, 0] rfl)
        have ho := gif_n ho c15
        refine lv_tableOut (tgt := 146) hx hcd dX7_stand_41 (by have zc9 := lv_neT c9 (a := 0) rfl; have zc11 := lv_neT c11 (a := 1) rfl; have zc13 := lv_neT c13 (a := 2) rfl; have zc15 := lv_neT c15 (a := 3) rfl; omega) (by decide) ?_
        refine lv_aload_n hx hcd dX7_stand_146 rfl (lv_at hl 0 rfl) ?_
        refine lv_iload_n hx hcd dX7_stand_147 rfl (lv_at hl 1 rfl) ?_
        refine lv_iload_n hx hcd dX7_stand_148 rfl (lv_at hl 2 rfl) ?_
        obtain ⟨r17, h16, ho⟩ := gb_some ho
        refine g_calli hW (g_runV (As := [.int x1, .int x2]) (rest := []) (i := 132) hC hW (c_X7_ofStays l D y ad x1 x2 _ _ h16) ok_X7_122 ⟨rfl, rfl, Nat.le_of_ble_eq_true rfl, Nat.le_of_ble_eq_true rfl⟩ (by decide) rfl rfl rfl rfl hl.1 rfl (Nat.le_of_ble_eq_true rfl) dX7_stand_149 ⟨Nat.zero_le _, Nat.zero_le _⟩) (fun H locs hW => ?_)
        obtain rfl := Option.some.inj ho
        exact g_iret hC hr hlk hsz hW dX7_stand_152
      · have ho := gif_n ho c8
        refine lv_iconst (v := 0) hx hcd dX7_stand_38 (by decide) ?_
        obtain rfl := Option.some.inj ho
        exact g_iret hC hr hlk hsz hW dX7_stand_39
    · have ho := gif_p ho c6
      refine lv_iconst (v := 2) hx hcd dX7_stand_23 (by decide) ?_
      refine lv_goto (tgt := 28) hx hcd dX7_stand_24 (by decide) ?_
      obtain ⟨σ18, eσ18, ho⟩ := lt_ex ho
      refine g_puti hC hW (C := RX7) (T := TX7) (N := 19) (ci := 9) (k := 8) (index := 48) (i := 132) inGX7 tyX7 tyX7_ok nmX7 rfl (by decide) fl_X7_48 rfl (by decide) rfl rfl rfl rfl dX7_stand_28 (fun H locs hW => ?_)
      rw [← eσ18] at hW
      refine lv_aload_n hx hcd dX7_stand_31 rfl (lv_at hl 0 rfl) ?_
      refine g_geti hC hW (C := RX7) (T := TX7) (N := 19) (ci := 9) (k := 8) (index := 48) (i := 132) inGX7 rfl (by decide) fl_X7_48 (by decide) rfl rfl dX7_stand_32 ?_
      refine lv_if_le (tgt := 40) hx hcd dX7_stand_35 (by decide) (fun c19 => ?_) (fun c19 => ?_)
      · have ho := gif_p ho c19
        refine lv_iload_n hx hcd dX7_stand_40 rfl (lv_at hl 2 rfl) ?_
        by_cases c20 : x2 = 0
        · have ho := gif_p ho c20
          refine lv_tableIn (tgt := 72) hx hcd dX7_stand_41 (by rw [c20]; decide) (by rw [c20]; decide) (by rw [c20]; rfl) (by decide) ?_
          refine lv_aload_n hx hcd dX7_stand_72 rfl (lv_at hl 0 rfl) ?_
          refine g_getr hC hW (C := RX7) (T := TX7) (N := 19) (ci := 9) (k := 0) (index := 9) (i := 132) (r := 133) inGX7 rfl (by decide) fl_X7_9 (by decide) rfl rfl dX7_stand_73 ?_
          refine lv_iconst (v := 4) hx hcd dX7_stand_76 (by decide) ?_
          refine lv_iload_n hx hcd dX7_stand_77 rfl (lv_at hl 1 rfl) ?_
          refine lv_iadd hx hcd dX7_stand_78 ?_
          obtain ⟨i21, ho⟩ := gd_some ho
          refine g_iald hC hW (i := 133) (by decide) rfl i21 dX7_stand_79 ?_
          obtain rfl := Option.some.inj ho
          exact g_iret hC hr hlk hsz hW dX7_stand_80
        have ho := gif_n ho c20
        by_cases c22 : x2 = 1
        · have ho := gif_p ho c22
          refine lv_tableIn (tgt := 81) hx hcd dX7_stand_41 (by rw [c22]; decide) (by rw [c22]; decide) (by rw [c22]; rfl) (by decide) ?_
          refine lv_aload_n hx hcd dX7_stand_81 rfl (lv_at hl 0 rfl) ?_
          refine g_getr hC hW (C := RX7) (T := TX7) (N := 19) (ci := 9) (k := 0) (index := 9) (i := 132) (r := 133) inGX7 rfl (by decide) fl_X7_9 (by decide) rfl rfl dX7_stand_82 ?_
          refine lv_bipush (v := 12) hx hcd dX7_stand_85 (by decide) ?_
          refine lv_iload_n hx hcd dX7_stand_87 rfl (lv_at hl 1 rfl) ?_
          refine lv_iadd hx hcd dX7_stand_88 ?_
          obtain ⟨i23, ho⟩ := gd_some ho
          refine g_iald hC hW (i := 133) (by decide) rfl i23 dX7_stand_89 ?_
          obtain rfl := Option.some.inj ho
          exact g_iret hC hr hlk hsz hW dX7_stand_90
        have ho := gif_n ho c22
        by_cases c24 : x2 = 2
        · have ho := gif_p ho c24
          refine lv_tableIn (tgt := 91) hx hcd dX7_stand_41 (by rw [c24]; decide) (by rw [c24]; decide) (by rw [c24]; rfl) (by decide) ?_
          refine lv_aload_n hx hcd dX7_stand_91 rfl (lv_at hl 0 rfl) ?_
          refine g_getr hC hW (C := RX7) (T := TX7) (N := 19) (ci := 9) (k := 0) (index := 9) (i := 132) (r := 133) inGX7 rfl (by decide) fl_X7_9 (by decide) rfl rfl dX7_stand_92 ?_
          refine lv_bipush (v := 20) hx hcd dX7_stand_95 (by decide) ?_
          refine lv_iload_n hx hcd dX7_stand_97 rfl (lv_at hl 1 rfl) ?_
          refine lv_iadd hx hcd dX7_stand_98 ?_
          obtain ⟨i25, ho⟩ := gd_some ho
          refine g_iald hC hW (i := 133) (by decide) rfl i25 dX7_stand_99 ?_
          obtain rfl := Option.some.inj ho
          exact g_iret hC hr hlk hsz hW dX7_stand_100
        have ho := gif_n ho c24
        by_cases c26 : x2 = 3
        · have ho := gif_p ho c26
          refine lv_tableIn (tgt := 101) hx hcd dX7_stand_41 (by rw [c26]; decide) (by rw [c26]; decide) (by rw [c26]; rfl) (by decide) ?_
          refine lv_iconst (v := 0) hx hcd dX7_stand_101 (by decide) ?_
          refine lv_istore_n (lv' := [(3, .int 0), (0, .ref (ad 132)), (1, .int x1), (2, .int x2)]) hx hcd dX7_stand_102 rfl hl (by decide) rfl (fun ls hl => ?_)
          refine lv_iconst (v := 0) hx hcd dX7_stand_103 (by decide) ?_
          refine lv_istore (lv' := [(4, .int 0), (3, .int 0), (0, .ref (ad 132)), (1, .int x1), (2, .int x2)]) hx hcd dX7_stand_104 hl (by decide) rfl (fun ls hl => ?_)
          exact l_X7_stand l D y ad sz hC hr hlk hsz _ ho _ _ _ hW (lv_sub hl [2, 3, 1, 0] rfl)
        have ho := gif_n ho c26
        refine lv_tableOut (tgt := 146) hx hcd dX7_stand_41 (by have zc20 := lv_neT c20 (a := 0) rfl; have zc22 := lv_neT c22 (a := 1) rfl; have zc24 := lv_neT c24 (a := 2) rfl; have zc26 := lv_neT c26 (a := 3) rfl; omega) (by decide) ?_
        refine lv_aload_n hx hcd dX7_stand_146 rfl (lv_at hl 0 rfl) ?_
        refine lv_iload_n hx hcd dX7_stand_147 rfl (lv_at hl 1 rfl) ?_
        refine lv_iload_n hx hcd dX7_stand_148 rfl (lv_at hl 2 rfl) ?_
        obtain ⟨r28, h27, ho⟩ := gb_some ho
        refine g_calli hW (g_runV (As := [.int x1, .int x2]) (rest := []) (i := 132) hC hW (c_X7_ofStays l D y ad x1 x2 _ _ h27) ok_X7_122 ⟨rfl, rfl, Nat.le_of_ble_eq_true rfl, Nat.le_of_ble_eq_true rfl⟩ (by decide) rfl rfl rfl rfl hl.1 rfl (Nat.le_of_ble_eq_true rfl) dX7_stand_149 ⟨Nat.zero_le _, Nat.zero_le _⟩) (fun H locs hW => ?_)
        obtain rfl := Option.some.inj ho
        exact g_iret hC hr hlk hsz hW dX7_stand_152
      · have ho := gif_n ho c19
        refine lv_iconst (v := 0) hx hcd dX7_stand_38 (by decide) ?_
        obtain rfl := Option.some.inj ho
        exact g_iret hC hr hlk hsz hW dX7_stand_39
  · have ho := gif_p ho c3
    refine lv_iconst (v := 1) hx hcd dX7_stand_9 (by decide) ?_
    refine lv_goto (tgt := 28) hx hcd dX7_stand_10 (by decide) ?_
    obtain ⟨σ29, eσ29, ho⟩ := lt_ex ho
    refine g_puti hC hW (C := RX7) (T := TX7) (N := 19) (ci := 9) (k := 8) (index := 48) (i := 132) inGX7 tyX7 tyX7_ok nmX7 rfl (by decide) fl_X7_48 rfl (by decide) rfl rfl rfl rfl dX7_stand_28 (fun H locs hW => ?_)
    rw [← eσ29] at hW
    refine lv_aload_n hx hcd dX7_stand_31 rfl (lv_at hl 0 rfl) ?_
    refine g_geti hC hW (C := RX7) (T := TX7) (N := 19) (ci := 9) (k := 8) (index := 48) (i := 132) inGX7 rfl (by decide) fl_X7_48 (by decide) rfl rfl dX7_stand_32 ?_
    refine lv_if_le (tgt := 40) hx hcd dX7_stand_35 (by decide) (fun c30 => ?_) (fun c30 => ?_)
    · have ho := gif_p ho c30
      refine lv_iload_n hx hcd dX7_stand_40 rfl (lv_at hl 2 rfl) ?_
      by_cases c31 : x2 = 0
      · have ho := gif_p ho c31
        refine lv_tableIn (tgt := 72) hx hcd dX7_stand_41 (by rw [c31]; decide) (by rw [c31]; decide) (by rw [c31]; rfl) (by decide) ?_
        refine lv_aload_n hx hcd dX7_stand_72 rfl (lv_at hl 0 rfl) ?_
        refine g_getr hC hW (C := RX7) (T := TX7) (N := 19) (ci := 9) (k := 0) (index := 9) (i := 132) (r := 133) inGX7 rfl (by decide) fl_X7_9 (by decide) rfl rfl dX7_stand_73 ?_
        refine lv_iconst (v := 4) hx hcd dX7_stand_76 (by decide) ?_
        refine lv_iload_n hx hcd dX7_stand_77 rfl (lv_at hl 1 rfl) ?_
        refine lv_iadd hx hcd dX7_stand_78 ?_
        obtain ⟨i32, ho⟩ := gd_some ho
        refine g_iald hC hW (i := 133) (by decide) rfl i32 dX7_stand_79 ?_
        obtain rfl := Option.some.inj ho
        exact g_iret hC hr hlk hsz hW dX7_stand_80
      have ho := gif_n ho c31
      by_cases c33 : x2 = 1
      · have ho := gif_p ho c33
        refine lv_tableIn (tgt := 81) hx hcd dX7_stand_41 (by rw [c33]; decide) (by rw [c33]; decide) (by rw [c33]; rfl) (by decide) ?_
        refine lv_aload_n hx hcd dX7_stand_81 rfl (lv_at hl 0 rfl) ?_
        refine g_getr hC hW (C := RX7) (T := TX7) (N := 19) (ci := 9) (k := 0) (index := 9) (i := 132) (r := 133) inGX7 rfl (by decide) fl_X7_9 (by decide) rfl rfl dX7_stand_82 ?_
        refine lv_bipush (v := 12) hx hcd dX7_stand_85 (by decide) ?_
        refine lv_iload_n hx hcd dX7_stand_87 rfl (lv_at hl 1 rfl) ?_
        refine lv_iadd hx hcd dX7_stand_88 ?_
        obtain ⟨i34, ho⟩ := gd_some ho
        refine g_iald hC hW (i := 133) (by decide) rfl i34 dX7_stand_89 ?_
        obtain rfl := Option.some.inj ho
        exact g_iret hC hr hlk hsz hW dX7_stand_90
      have ho := gif_n ho c33
      by_cases c35 : x2 = 2
      · have ho := gif_p ho c35
        refine lv_tableIn (tgt := 91) hx hcd dX7_stand_41 (by rw [c35]; decide) (by rw [c35]; decide) (by rw [c35]; rfl) (by decide) ?_
        refine lv_aload_n hx hcd dX7_stand_91 rfl (lv_at hl 0 rfl) ?_
        refine g_getr hC hW (C := RX7) (T := TX7) (N := 19) (ci := 9) (k := 0) (index := 9) (i := 132) (r := 133) inGX7 rfl (by decide) fl_X7_9 (by decide) rfl rfl dX7_stand_92 ?_
        refine lv_bipush (v := 20) hx hcd dX7_stand_95 (by decide) ?_
        refine lv_iload_n hx hcd dX7_stand_97 rfl (lv_at hl 1 rfl) ?_
        refine lv_iadd hx hcd dX7_stand_98 ?_
        obtain ⟨i36, ho⟩ := gd_some ho
        refine g_iald hC hW (i := 133) (by decide) rfl i36 dX7_stand_99 ?_
        obtain rfl := Option.some.inj ho
        exact g_iret hC hr hlk hsz hW dX7_stand_100
      have ho := gif_n ho c35
      by_cases c37 : x2 = 3
      · have ho := gif_p ho c37
        refine lv_tableIn (tgt := 101) hx hcd dX7_stand_41 (by rw [c37]; decide) (by rw [c37]; decide) (by rw [c37]; rfl) (by decide) ?_
        refine lv_iconst (v := 0) hx hcd dX7_stand_101 (by decide) ?_
        refine lv_istore_n (lv' := [(3, .int 0), (0, .ref (ad 132)), (1, .int x1), (2, .int x2)]) hx hcd dX7_stand_102 rfl hl (by decide) rfl (fun ls hl => ?_)
        refine lv_iconst (v := 0) hx hcd dX7_stand_103 (by decide) ?_
        refine lv_istore (lv' := [(4, .int 0), (3, .int 0), (0, .ref (ad 132)), (1, .int x1), (2, .int x2)]) hx hcd dX7_stand_104 hl (by decide) rfl (fun ls hl => ?_)
        exact l_X7_stand l D y ad sz hC hr hlk hsz _ ho _ _ _ hW (lv_sub hl [2, 3, 1, 0] rfl)
      have ho := gif_n ho c37
      refine lv_tableOut (tgt := 146) hx hcd dX7_stand_41 (by have zc31 := lv_neT c31 (a := 0) rfl; have zc33 := lv_neT c33 (a := 1) rfl; have zc35 := lv_neT c35 (a := 2) rfl; have zc37 := lv_neT c37 (a := 3) rfl; omega) (by decide) ?_
      refine lv_aload_n hx hcd dX7_stand_146 rfl (lv_at hl 0 rfl) ?_
      refine lv_iload_n hx hcd dX7_stand_147 rfl (lv_at hl 1 rfl) ?_
      refine lv_iload_n hx hcd dX7_stand_148 rfl (lv_at hl 2 rfl) ?_
      obtain ⟨r39, h38, ho⟩ := gb_some ho
      refine g_calli hW (g_runV (As := [.int x1, .int x2]) (rest := []) (i := 132) hC hW (c_X7_ofStays l D y ad x1 x2 _ _ h38) ok_X7_122 ⟨rfl, rfl, Nat.le_of_ble_eq_true rfl, Nat.le_of_ble_eq_true rfl⟩ (by decide) rfl rfl rfl rfl hl.1 rfl (Nat.le_of_ble_eq_true rfl) dX7_stand_149 ⟨Nat.zero_le _, Nat.zero_le _⟩) (fun H locs hW => ?_)
      obtain rfl := Option.some.inj ho
      exact g_iret hC hr hlk hsz hW dX7_stand_152
    · have ho := gif_n ho c30
      refine lv_iconst (v := 0) hx hcd dX7_stand_38 (by decide) ?_
      obtain rfl := Option.some.inj ho
      exact g_iret hC hr hlk hsz hW dX7_stand_39
noncomputable def X7_stayAt_k0 (σ : gS) (x1 : Int32) (x2 : Int32) (x3 : Int32) : Option ((Int32 × Int32 × Int32) ⊕ (Int32)) :=
  if 20 ≤ x3 then (some (.inr (-1))) else ((X7_isOn σ x3).bind fun r3 => if r3 = 0 then (some (.inl (x1, x2, (x3 + 1)))) else ((X7_on σ x3).bind fun r6 => if r6 = x1 then ((X7_from σ x3).bind fun r9 => (X7_to σ x3).bind fun r11 => (X7_in σ x2 r9 (r11 - (1 : Int32))).bind fun r13 => if r13 = 0 then (some (.inl (x1, x2, (x3 + 1)))) else (some (.inr x3))) else (some (.inl (x1, x2, (x3 + 1))))))
noncomputable def X7_stayAt_s (σ : gS) (a : Int32 × Int32 × Int32) : Option ((Int32 × Int32 × Int32) ⊕ (Int32)) :=
  X7_stayAt_k0 σ a.1 a.2.1 a.2.2
noncomputable def X7_stayAt (σ : gS) (x1 : Int32) (x2 : Int32) : Option (Int32) :=
  gr (X7_stayAt_s σ) (x1, x2, 0)
set_option maxHeartbeats 4000000 in
set_option maxRecDepth 100000 in
theorem l_X7_stayAt {p : Program} {e : Env} {s : State} {m : MethodId} {args : Array Value} {below : List Frame} {meth : Method} {c : Code} (l : Launch) (D : va_G) (y : ClassId × ClassId × ClassId) (ad : Nat → Nat) (σ : gS) (sz : Nat) (hC : g_C p s m args c cX7_stayAt 4 RX7 D y) (hr : meth.sig.returnType = (some .int)) (hlk : meth.locks = false) (hsz : s.heap.size = sz) {r0 : Int32} : ∀ a : Int32 × Int32 × Int32, gr (X7_stayAt_s σ) a = some r0 → ∀ (H : Heap) (locs : List Loc) (ls : Array Slot), g_W (g_A ad sz) s.heap D y ad [] σ H locs → lv_has ls 4 [(0, .ref (ad 132)), (1, .int a.1), (2, .int a.2.1), (3, .int a.2.2)] → W p l e ({ frames := 4, cells := 0, slots := 0, locals := 85 }) s m args below meth c H locs 0 0 (MQ below (g_Qi D y ad σ sz r0) args s 0 0 (g_A ad sz)) (F0 m 2 ls []) := by
  have hx := hC.1
  have hcd := hC.2.1
  refine gr_all (fun a o ho hret hjmp => ?_)
  obtain ⟨x1, x2, x3⟩ := a
  intro H locs ls hW hl
  have ho : X7_stayAt_k0 σ x1 x2 x3 = some o := ho
  unfold X7_stayAt_k0 at ho
  refine lv_iload_n hx hcd dX7_stayAt_2 rfl (lv_at hl 3 rfl) ?_
  refine lv_bipush (v := 20) hx hcd dX7_stayAt_3 (by decide) ?_
  refine lv_icmp_ge (tgt := 52) hx hcd dX7_stayAt_5 (by decide) (fun c1 => ?_) (fun c1 => ?_)
  · have ho := gif_p ho c1
    refine lv_iconst (v := (-1)) hx hcd dX7_stayAt_52 (by decide) ?_
    obtain rfl := hret _ (Option.some.inj ho).symm
    exact g_iret hC hr hlk hsz hW dX7_stayAt_53
  · have ho := gif_n ho c1
    refine lv_aload_n hx hcd dX7_stayAt_8 rfl (lv_at hl 0 rfl) ?_
    refine lv_iload_n hx hcd dX7_stayAt_9 rfl (lv_at hl 3 rfl) ?_
    obtain ⟨r3, h2, ho⟩ := gb_some ho
    refine g_calli hW (g_runV (As := [.int x3]) (rest := []) (i := 132) hC hW (c_X7_isOn l D y ad x3 _ _ h2) ok_X7_97 ⟨rfl, rfl, Nat.le_of_ble_eq_true rfl, Nat.le_of_ble_eq_true rfl⟩ (by decide) rfl rfl rfl rfl hl.1 rfl (Nat.le_of_ble_eq_true rfl) dX7_stayAt_10 ⟨Nat.zero_le _, Nat.zero_le _⟩) (fun H locs hW => ?_)
    refine lv_if_eq (tgt := 46) hx hcd dX7_stayAt_13 (by decide) (fun c4 => ?_) (fun c4 => ?_)
    · have ho := gif_p ho c4
      refine lv_iinc (v := x3 + 1) (lv' := [(3, .int (x3 + 1)), (0, .ref (ad 132)), (1, .int x1), (2, .int x2)]) hx hcd dX7_stayAt_46 hl (k := 3) rfl rfl (by decide) rfl (fun ls hl => ?_)
      refine lv_goto (tgt := 2) hx hcd dX7_stayAt_49 (by decide) ?_
      exact hjmp _ (Option.some.inj ho).symm _ _ _ hW (lv_sub hl [1, 2, 3, 0] rfl)
    · have ho := gif_n ho c4
      refine lv_aload_n hx hcd dX7_stayAt_16 rfl (lv_at hl 0 rfl) ?_
      refine lv_iload_n hx hcd dX7_stayAt_17 rfl (lv_at hl 3 rfl) ?_
      obtain ⟨r6, h5, ho⟩ := gb_some ho
      refine g_calli hW (g_runV (As := [.int x3]) (rest := []) (i := 132) hC hW (c_X7_on l D y ad x3 _ _ h5) ok_X7_94 ⟨rfl, rfl, Nat.le_of_ble_eq_true rfl, Nat.le_of_ble_eq_true rfl⟩ (by decide) rfl rfl rfl rfl hl.1 rfl (Nat.le_of_ble_eq_true rfl) dX7_stayAt_18 ⟨Nat.zero_le _, Nat.zero_le _⟩) (fun H locs hW => ?_)
      refine lv_iload_n hx hcd dX7_stayAt_21 rfl (lv_at hl 1 rfl) ?_
      refine lv_icmp_ne (tgt := 46) hx hcd dX7_stayAt_22 (by decide) (fun c7 => ?_) (fun c7 => ?_)
      · have ho := gif_n ho c7
        refine lv_iinc (v := x3 + 1) (lv' := [(3, .int (x3 + 1)), (0, .ref (ad 132)), (1, .int x1), (2, .int x2)]) hx hcd dX7_stayAt_46 hl (k := 3) rfl rfl (by decide) rfl (fun ls hl => ?_)
        refine lv_goto (tgt := 2) hx hcd dX7_stayAt_49 (by decide) ?_
        exact hjmp _ (Option.some.inj ho).symm _ _ _ hW (lv_sub hl [1, 2, 3, 0] rfl)
      · have ho := gif_p ho c7
        refine lv_iload_n hx hcd dX7_stayAt_25 rfl (lv_at hl 2 rfl) ?_
        refine lv_aload_n hx hcd dX7_stayAt_26 rfl (lv_at hl 0 rfl) ?_
        refine lv_iload_n hx hcd dX7_stayAt_27 rfl (lv_at hl 3 rfl) ?_
        obtain ⟨r9, h8, ho⟩ := gb_some ho
        refine g_calli hW (g_runV (As := [.int x3]) (rest := [.int x2]) (i := 132) hC hW (c_X7_from l D y ad x3 _ _ h8) ok_X7_103 ⟨rfl, rfl, Nat.le_of_ble_eq_true rfl, Nat.le_of_ble_eq_true rfl⟩ (by decide) rfl rfl rfl rfl hl.1 rfl (Nat.le_of_ble_eq_true rfl) dX7_stayAt_28 ⟨Nat.zero_le _, Nat.zero_le _⟩) (fun H locs hW => ?_)
        refine lv_aload_n hx hcd dX7_stayAt_31 rfl (lv_at hl 0 rfl) ?_
        refine lv_iload_n hx hcd dX7_stayAt_32 rfl (lv_at hl 3 rfl) ?_
        obtain ⟨r11, h10, ho⟩ := gb_some ho
        refine g_calli hW (g_runV (As := [.int x3]) (rest := [.int r9, .int x2]) (i := 132) hC hW (c_X7_to l D y ad x3 _ _ h10) ok_X7_106 ⟨rfl, rfl, Nat.le_of_ble_eq_true rfl, Nat.le_of_ble_eq_true rfl⟩ (by decide) rfl rfl rfl rfl hl.1 rfl (Nat.le_of_ble_eq_true rfl) dX7_stayAt_33 ⟨Nat.zero_le _, Nat.zero_le _⟩) (fun H locs hW => ?_)
        refine lv_iconst (v := 1) hx hcd dX7_stayAt_36 (by decide) ?_
        refine lv_isub hx hcd dX7_stayAt_37 ?_
        obtain ⟨r13, h12, ho⟩ := gb_some ho
        refine g_calli hW (g_runS (As := [.int x2, .int r9, .int (r11 - (1 : Int32))]) (rest := []) hC hW (c_X7_in l D y ad x2 r9 (r11 - (1 : Int32)) _ _ h12) ok_X7_51 ⟨rfl, rfl, Nat.le_of_ble_eq_true rfl, Nat.le_of_ble_eq_true rfl⟩ rfl hl.1 rfl (Nat.le_of_ble_eq_true rfl) dX7_stayAt_38 ⟨Nat.zero_le _, Nat.zero_le _⟩) (fun H locs hW => ?_)
        refine lv_if_eq (tgt := 46) hx hcd dX7_stayAt_41 (by decide) (fun c14 => ?_) (fun c14 => ?_)
        · have ho := gif_p ho c14
          refine lv_iinc (v := x3 + 1) (lv' := [(3, .int (x3 + 1)), (0, .ref (ad 132)), (1, .int x1), (2, .int x2)]) hx hcd dX7_stayAt_46 hl (k := 3) rfl rfl (by decide) rfl (fun ls hl => ?_)
          refine lv_goto (tgt := 2) hx hcd dX7_stayAt_49 (by decide) ?_
          exact hjmp _ (Option.some.inj ho).symm _ _ _ hW (lv_sub hl [1, 2, 3, 0] rfl)
        · have ho := gif_n ho c14
          refine lv_iload_n hx hcd dX7_stayAt_44 rfl (lv_at hl 3 rfl) ?_
          obtain rfl := hret _ (Option.some.inj ho).symm
          exact g_iret hC hr hlk hsz hW dX7_stayAt_45
set_option maxHeartbeats 4000000 in
set_option maxRecDepth 100000 in
theorem c_X7_stayAt (l : Launch) (D : va_G) (y : ClassId × ClassId × ClassId) (ad : Nat → Nat) (x1 : Int32) (x2 : Int32) (σ : gS) (sz : Nat) {q : Int32} (h : X7_stayAt σ x1 x2 = some q) : Met l yX7_stayAt (Cond.code yX7_stayAt cX7_stayAt 4 (some .int) :: gl) ({ frames := 4, cells := 0, slots := 0, locals := 85 }) (g_Pc D y ad σ sz [.ref (ad 132), .int x1, .int x2]) (g_Qi D y ad σ sz q) 0 0 (g_A ad sz) := by
  have ho := h
  unfold X7_stayAt at ho
  refine g_start (by decide) (Nat.le_of_ble_eq_true rfl) (fun p e s m below meth c ls hC hr hlk hsz hW hl => ?_)
  have hx := hC.1
  have hcd := hC.2.1
  have hl : lv_has ls 4 [(0, .ref (ad 132)), (1, .int x1), (2, .int x2)] := hl
  refine lv_iconst (v := 0) hx hcd dX7_stayAt_0 (by decide) ?_
  refine lv_istore_n (lv' := [(3, .int 0), (0, .ref (ad 132)), (1, .int x1), (2, .int x2)]) hx hcd dX7_stayAt_1 rfl hl (by decide) rfl (fun ls hl => ?_)
  exact l_X7_stayAt l D y ad σ sz hC hr hlk hsz _ ho _ _ _ hW (lv_sub hl [1, 2, 3, 0] rfl)
