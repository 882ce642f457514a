noncomputable def X1_lookAtStay_k0 (σ : gS) (b : Nat) (b2 : Nat) (x2 : Int32) (x3 : Int32) (x4 : Int32) : Option ((Int32 × Int32 × Int32 × gS) ⊕ (gS)) :=
  if (σ b 5) ≤ x4 then (some (.inr σ)) else (if x4 = x3 then (some (.inl (x2, x3, (x4 + 1), σ))) else ((X0_isOpened σ b2 x4).bind fun r9 => if r9 = 0 then (some (.inl (x2, x3, (x4 + 1), σ))) else ((X0_isLargeEnough σ b2 x4 x2).bind fun r12 => if r12 = 0 then (some (.inl (x2, x3, (x4 + 1), σ))) else (gd (ib x2 20) <| lt_ (g_up σ (b + 2) x2.toNatClampNeg ((σ (b + 2) x2.toNatClampNeg) ||| ((1 : Int32) <<< (x4 &&& 31)))) fun σ15 => (X0_clashesOn σ15 b2 x2 x4).bind fun r17 => gd (ib ((x2 * (8 : Int32)) + x4) 160) <| lt_ (g_up σ15 (b + 1) ((x2 * (8 : Int32)) + x4).toNatClampNeg r17) fun σ19 => some (.inl (x2, x3, (x4 + 1), σ19))))))
noncomputable def X1_lookAtStay_s (b : Nat) (b2 : Nat) (a : Int32 × Int32 × Int32 × gS) : Option ((Int32 × Int32 × Int32 × gS) ⊕ (gS)) :=
  X1_lookAtStay_k0 a.2.2.2 b b2 a.1 a.2.1 a.2.2.1
noncomputable def X1_lookAtStay (σ : gS) (b : Nat) (b2 : Nat) (x2 : Int32) : Option (gS) :=
  gd (ib x2 20) <| (X0_clashesOn σ b2 x2 (σ (b2 + 11) x2.toNatClampNeg)).bind fun r3 => lt_ (g_up σ (b + 3) x2.toNatClampNeg r3) fun σ4 => lt_ (g_up σ4 (b + 2) x2.toNatClampNeg 0) fun σ5 => gr (X1_lookAtStay_s b b2) (x2, (σ (b2 + 11) x2.toNatClampNeg), 0, σ5)
set_option maxHeartbeats 4000000 in
set_option maxRecDepth 100000 in
theorem l_X1_lookAtStay {p : Program} {e : Env} {s : State} {m : MethodId} {args : Array Value} {below : List Frame} {meth : Method} {c : Code} (l : Launch) (D : va_G) (y : ClassId × ClassId × ClassId) (ad : Nat → Nat) {b : Nat} (hb : g_cla b) {b2 : Nat} (hb2 : g_air b2) (sz : Nat) (hC : g_C p s m args c cX1_lookAtStay 5 RX1 D y) (hr : meth.sig.returnType = none) (hlk : meth.locks = false) (hsz : s.heap.size = sz) {r0 : gS} : ∀ a : Int32 × Int32 × Int32 × gS, gr (X1_lookAtStay_s b b2) a = some r0 → ∀ (H : Heap) (locs : List Loc) (ls : Array Slot), g_W (g_A ad sz) s.heap D y ad [] a.2.2.2 H locs → lv_has ls 5 [(0, .ref (ad b)), (1, .ref (ad b2)), (2, .int a.1), (3, .int a.2.1), (4, .int a.2.2.1)] → W p l e ({ frames := 2, cells := 0, slots := 0, locals := 50 }) s m args below meth c H locs 0 0 (MQ below (g_Qv D y ad r0 sz) args s 0 0 (g_A ad sz)) (F0 m 29 ls []) := by
  have hx := hC.1
  have hcd := hC.2.1
  refine gr_all (fun a o ho hret hjmp => ?_)
  obtain ⟨x2, x3, x4, σ⟩ := a
  intro H locs ls hW hl
  have ho : X1_lookAtStay_k0 σ b b2 x2 x3 x4 = some o := ho
  unfold X1_lookAtStay_k0 at ho
  refine lv_iload hx hcd dX1_lookAtStay_29 (lv_at hl 4 rfl) ?_
  refine lv_aload_n hx hcd dX1_lookAtStay_31 rfl (lv_at hl 0 rfl) ?_
  refine g_geti hC hW (C := RX1) (T := TX1) (N := 7) (ci := 3) (k := 5) (index := 37) (i := b) inGX1 rfl (by decide) fl_X1_37 (g_lt_cla (j := 0) hb (by decide)) (g_sh_cla hb) rfl dX1_lookAtStay_32 ?_
  refine lv_icmp_ge (tgt := 101) hx hcd dX1_lookAtStay_35 (by decide) (fun c6 => ?_) (fun c6 => ?_)
  · have ho := gif_p ho c6
    obtain rfl := hret _ (Option.some.inj ho).symm
    exact g_vret hC hr hlk hsz hW dX1_lookAtStay_101
  · have ho := gif_n ho c6
    refine lv_iload hx hcd dX1_lookAtStay_38 (lv_at hl 4 rfl) ?_
    refine lv_iload_n hx hcd dX1_lookAtStay_40 rfl (lv_at hl 3 rfl) ?_
    refine lv_icmp_eq (tgt := 95) hx hcd dX1_lookAtStay_41 (by decide) (fun c7 => ?_) (fun c7 => ?_)
    · have ho := gif_p ho c7
      refine lv_iinc (v := x4 + 1) (lv' := [(4, .int (x4 + 1)), (0, .ref (ad b)), (1, .ref (ad b2)), (2, .int x2), (3, .int x3)]) hx hcd dX1_lookAtStay_95 hl (k := 4) rfl rfl (by decide) rfl (fun ls hl => ?_)
      refine lv_goto (tgt := 29) hx hcd dX1_lookAtStay_98 (by decide) ?_
      exact hjmp _ (Option.some.inj ho).symm _ _ _ hW (lv_sub hl [1, 2, 3, 4, 0] rfl)
    · have ho := gif_n ho c7
      refine lv_aload_n hx hcd dX1_lookAtStay_44 rfl (lv_at hl 1 rfl) ?_
      refine lv_iload hx hcd dX1_lookAtStay_45 (lv_at hl 4 rfl) ?_
      obtain ⟨r9, h8, ho⟩ := gb_some ho
      refine g_calli hW (g_runV (As := [.int x4]) (rest := []) (i := b2) hC hW (c_X0_isOpened l D y ad hb2 x4 _ _ h8) ok_X1_56 ⟨rfl, rfl, Nat.le_of_ble_eq_true rfl, Nat.le_of_ble_eq_true rfl⟩ (g_lt_air hb2) (g_sh_air hb2) rfl rfl rfl hl.1 rfl (Nat.le_of_ble_eq_true rfl) dX1_lookAtStay_47 ⟨Nat.zero_le _, Nat.zero_le _⟩) (fun H locs hW => ?_)
      refine lv_if_eq (tgt := 95) hx hcd dX1_lookAtStay_50 (by decide) (fun c10 => ?_) (fun c10 => ?_)
      · have ho := gif_p ho c10
        refine lv_iinc (v := x4 + 1) (lv' := [(4, .int (x4 + 1)), (0, .ref (ad b)), (1, .ref (ad b2)), (2, .int x2), (3, .int x3)]) hx hcd dX1_lookAtStay_95 hl (k := 4) rfl rfl (by decide) rfl (fun ls hl => ?_)
        refine lv_goto (tgt := 29) hx hcd dX1_lookAtStay_98 (by decide) ?_
        exact hjmp _ (Option.some.inj ho).symm _ _ _ hW (lv_sub hl [1, 2, 3, 4, 0] rfl)
      · have ho := gif_n ho c10
        refine lv_aload_n hx hcd dX1_lookAtStay_53 rfl (lv_at hl 1 rfl) ?_
        refine lv_iload hx hcd dX1_lookAtStay_54 (lv_at hl 4 rfl) ?_
        refine lv_iload_n hx hcd dX1_lookAtStay_56 rfl (lv_at hl 2 rfl) ?_
        obtain ⟨r12, h11, ho⟩ := gb_some ho
        refine g_calli hW (g_runV (As := [.int x4, .int x2]) (rest := []) (i := b2) hC hW (c_X0_isLargeEnough l D y ad hb2 x4 x2 _ _ h11) ok_X1_59 ⟨rfl, rfl, Nat.le_of_ble_eq_true rfl, Nat.le_of_ble_eq_true rfl⟩ (g_lt_air hb2) (g_sh_air hb2) rfl rfl rfl hl.1 rfl (Nat.le_of_ble_eq_true rfl) dX1_lookAtStay_57 ⟨Nat.zero_le _, Nat.zero_le _⟩) (fun H locs hW => ?_)
        refine lv_if_eq (tgt := 95) hx hcd dX1_lookAtStay_60 (by decide) (fun c13 => ?_) (fun c13 => ?_)
        · have ho := gif_p ho c13
          refine lv_iinc (v := x4 + 1) (lv' := [(4, .int (x4 + 1)), (0, .ref (ad b)), (1, .ref (ad b2)), (2, .int x2), (3, .int x3)]) hx hcd dX1_lookAtStay_95 hl (k := 4) rfl rfl (by decide) rfl (fun ls hl => ?_)
          refine lv_goto (tgt := 29) hx hcd dX1_lookAtStay_98 (by decide) ?_
          exact hjmp _ (Option.some.inj ho).symm _ _ _ hW (lv_sub hl [1, 2, 3, 4, 0] rfl)
        · have ho := gif_n ho c13
          refine lv_aload_n hx hcd dX1_lookAtStay_63 rfl (lv_at hl 0 rfl) ?_
          refine g_getr hC hW (C := RX1) (T := TX1) (N := 7) (ci := 3) (k := 1) (index := 15) (i := b) (r := (b + 2)) inGX1 rfl (by decide) fl_X1_15 (g_lt_cla (j := 0) hb (by decide)) (g_sh_cla hb) rfl dX1_lookAtStay_64 ?_
          refine lv_iload_n hx hcd dX1_lookAtStay_67 rfl (lv_at hl 2 rfl) ?_
          refine lv_dup2_11 hx hcd dX1_lookAtStay_68 rfl rfl ?_
          obtain ⟨i14, ho⟩ := gd_some ho
          refine g_iald hC hW (i := (b + 2)) (g_lt_cla (j := 2) hb (by decide)) (g_sc2 hb) i14 dX1_lookAtStay_69 ?_
          refine lv_iconst (v := 1) hx hcd dX1_lookAtStay_70 (by decide) ?_
          refine lv_iload hx hcd dX1_lookAtStay_71 (lv_at hl 4 rfl) ?_
          refine lv_ishl hx hcd dX1_lookAtStay_73 ?_
          refine lv_ior hx hcd dX1_lookAtStay_74 ?_
          obtain ⟨σ15, eσ15, ho⟩ := lt_ex ho
          refine g_iast hC hW (i := (b + 2)) (g_lt_cla (j := 2) hb (by decide)) (g_sc2 hb) i14 dX1_lookAtStay_75 (fun H locs hW => ?_)
          rw [← eσ15] at hW
          refine lv_aload_n hx hcd dX1_lookAtStay_76 rfl (lv_at hl 0 rfl) ?_
          refine g_getr hC hW (C := RX1) (T := TX1) (N := 7) (ci := 3) (k := 0) (index := 9) (i := b) (r := (b + 1)) inGX1 rfl (by decide) fl_X1_9 (g_lt_cla (j := 0) hb (by decide)) (g_sh_cla hb) rfl dX1_lookAtStay_77 ?_
          refine lv_iload_n hx hcd dX1_lookAtStay_80 rfl (lv_at hl 2 rfl) ?_
          refine lv_bipush (v := 8) hx hcd dX1_lookAtStay_81 (by decide) ?_
          refine lv_imul hx hcd dX1_lookAtStay_83 ?_
          refine lv_iload hx hcd dX1_lookAtStay_84 (lv_at hl 4 rfl) ?_
          refine lv_iadd hx hcd dX1_lookAtStay_86 ?_
          refine lv_aload_n hx hcd dX1_lookAtStay_87 rfl (lv_at hl 1 rfl) ?_
          refine lv_iload_n hx hcd dX1_lookAtStay_88 rfl (lv_at hl 2 rfl) ?_
          refine lv_iload hx hcd dX1_lookAtStay_89 (lv_at hl 4 rfl) ?_
          obtain ⟨r17, h16, ho⟩ := gb_some ho
          refine g_calli hW (g_runV (As := [.int x2, .int x4]) (rest := [.int ((x2 * (8 : Int32)) + x4), .ref (ad (b + 1))]) (i := b2) hC hW (c_X0_clashesOn l D y ad hb2 x2 x4 _ _ h16) ok_X1_52 ⟨rfl, rfl, Nat.le_of_ble_eq_true rfl, Nat.le_of_ble_eq_true rfl⟩ (g_lt_air hb2) (g_sh_air hb2) rfl rfl rfl hl.1 rfl (Nat.le_of_ble_eq_true rfl) dX1_lookAtStay_91 ⟨Nat.zero_le _, Nat.zero_le _⟩) (fun H locs hW => ?_)
          obtain ⟨i18, ho⟩ := gd_some ho
          obtain ⟨σ19, eσ19, ho⟩ := lt_ex ho
          refine g_iast hC hW (i := (b + 1)) (g_lt_cla (j := 1) hb (by decide)) (g_sc1 hb) i18 dX1_lookAtStay_94 (fun H locs hW => ?_)
          rw [← eσ19] at hW
          refine lv_iinc (v := x4 + 1) (lv' := [(4, .int (x4 + 1)), (0, .ref (ad b)), (1, .ref (ad b2)), (2, .int x2), (3, .int x3)]) hx hcd dX1_lookAtStay_95 hl (k := 4) rfl rfl (by decide) rfl (fun ls hl => ?_)
          refine lv_goto (tgt := 29) hx hcd dX1_lookAtStay_98 (by decide) ?_
          exact hjmp _ (Option.some.inj ho).symm _ _ _ hW (lv_sub hl [1, 2, 3, 4, 0] rfl)
set_option maxHeartbeats 4000000 in
set_option maxRecDepth 100000 in
theorem c_X1_lookAtStay (l : Launch) (D : va_G) (y : ClassId × ClassId × ClassId) (ad : Nat → Nat) {b : Nat} (hb : g_cla b) {b2 : Nat} (hb2 : g_air b2) (x2 : Int32) (σ : gS) (sz : Nat) {q : gS} (h : X1_lookAtStay σ b b2 x2 = some q) : Met l yX1_lookAtStay (Cond.code yX1_lookAtStay cX1_lookAtStay 5 none :: gl) ({ frames := 2, cells := 0, slots := 0, locals := 50 }) (g_Pc D y ad σ sz [.ref (ad b), .ref (ad b2), .int x2]) (g_Qv D y ad q sz) 0 0 (g_A ad sz) := by
  have ho := h
  unfold X1_lookAtStay at ho
  refine g_start (by decide) (Nat.le_of_ble_eq_true rfl) (fun p e s m below meth c ls hC hr hlk hsz hW hl => ?_)
  have hx := hC.1
  have hcd := hC.2.1
  have hl : lv_has ls 5 [(0, .ref (ad b)), (1, .ref (ad b2)), (2, .int x2)] := hl
  refine lv_aload_n hx hcd dX1_lookAtStay_0 rfl (lv_at hl 1 rfl) ?_
  refine g_getr hC hW (C := RX0) (T := TX0) (N := 16) (ci := 2) (k := 15) (index := 49) (i := b2) (r := (b2 + 11)) inGX0 rfl (by decide) fl_X1_49 (g_lt_air hb2) (g_sh_air hb2) rfl dX1_lookAtStay_1 ?_
  refine lv_iload_n hx hcd dX1_lookAtStay_4 rfl (lv_at hl 2 rfl) ?_
  obtain ⟨i1, ho⟩ := gd_some ho
  refine g_iald hC hW (i := (b2 + 11)) (g_lt_arr (j := 11) hb2 (by decide)) (g_sa11 hb2) i1 dX1_lookAtStay_5 ?_
  refine lv_istore_n (lv' := [(3, .int (σ (b2 + 11) x2.toNatClampNeg)), (0, .ref (ad b)), (1, .ref (ad b2)), (2, .int x2)]) hx hcd dX1_lookAtStay_6 rfl hl (by decide) rfl (fun ls hl => ?_)
  refine lv_aload_n hx hcd dX1_lookAtStay_7 rfl (lv_at hl 1 rfl) ?_
  refine g_getr hC hW (C := RX1) (T := TX1) (N := 7) (ci := 3) (k := 2) (index := 18) (i := b) (r := (b + 3)) inGX1 rfl (by decide) fl_X1_18 (g_lt_cla (j := 0) hb (by decide)) (g_sh_cla hb) rfl dX1_lookAtStay_8 ?_
  refine lv_iload_n hx hcd dX1_lookAtStay_11 rfl (lv_at hl 3 rfl) ?_
  refine lv_aload_n hx hcd dX1_lookAtStay_12 rfl (lv_at hl 2 rfl) ?_
  refine lv_iload_n hx hcd dX1_lookAtStay_13 rfl (lv_at hl 3 rfl) ?_
  refine lv_iload_n hx hcd dX1_lookAtStay_14 rfl (lv_at hl 0 rfl) ?_
  obtain ⟨r3, h2, ho⟩ := gb_some ho
  refine g_calli hW (g_runV (As := [.int x2, .int (σ (b2 + 11) x2.toNatClampNeg)]) (rest := [.int x2, .ref (ad (b + 3))]) (i := b2) hC hW (c_X0_clashesOn l D y ad hb2 x2 (σ (b2 + 11) x2.toNatClampNeg) _ _ h2) ok_X1_52 ⟨rfl, rfl, Nat.le_of_ble_eq_true rfl, Nat.le_of_ble_eq_true rfl⟩ (g_lt_air hb2) (g_sh_air hb2) rfl rfl rfl hl.1 rfl (Nat.le_of_ble_eq_true rfl) dX1_lookAtStay_15 ⟨Nat.zero_le _, Nat.zero_le _⟩) (fun H locs hW => ?_)
  obtain ⟨σ4, eσ4, ho⟩ := lt_ex ho
  refine g_iast hC hW (i := (b + 3)) (g_lt_cla (j := 3) hb (by decide)) (g_sc3 hb) i1 dX1_lookAtStay_18 (fun H locs hW => ?_)
  rw [← eσ4] at hW
  refine lv_aload_n hx hcd dX1_lookAtStay_19 rfl (lv_at hl 1 rfl) ?_
  refine g_getr hC hW (C := RX1) (T := TX1) (N := 7) (ci := 3) (k := 1) (index := 15) (i := b) (r := (b + 2)) inGX1 rfl (by decide) fl_X1_15 (g_lt_cla (j := 0) hb (by decide)) (g_sh_cla hb) rfl dX1_lookAtStay_20 ?_
  refine lv_iload_n hx hcd dX1_lookAtStay_23 rfl (lv_at hl 3 rfl) ?_
  refine lv_iconst (v := 0) hx hcd dX1_lookAtStay_24 (by decide) ?_
  obtain ⟨σ5, eσ5, ho⟩ := lt_ex ho
  refine g_iast hC hW (i := (b + 2)) (g_lt_cla (j := 2) hb (by decide)) (g_sc2 hb) i1 dX1_lookAtStay_25 (fun H locs hW => ?_)
  rw [← eσ5] at hW
  refine lv_iconst (v := 0) hx hcd dX1_lookAtStay_26 (by decide) ?_
  refine lv_istore (lv' := [(4, .int 0), (3, .int (σ (b2 + 11) x2.toNatClampNeg)), (0, .ref (ad b)), (1, .ref (ad b2)), (2, .int x2)]) hx hcd dX1_lookAtStay_27 hl (by decide) rfl (fun ls hl => ?_)
  exact l_X1_lookAtStay l D y ad hb hb2 sz hC hr hlk hsz _ ho _ _ _ hW (lv_sub hl [2, 3, 4, 1, 0] rfl)
noncomputable def X1_lookAt_k0 (σ : gS) (b : Nat) (b2 : Nat) (x2 : Int32) : Option ((Int32 × gS) ⊕ (gS)) :=
  if 20 ≤ x2 then (some (.inr σ)) else ((X0_isOnStand σ b2 x2).bind fun r8 => if r8 = 0 then (some (.inl ((x2 + 1), σ))) else (gd (ib (σ b 6) 20) <| lt_ (g_up σ (b + 4) (σ b 6).toNatClampNeg x2) fun σ11 => lt_ (g_up σ11 b 6 ((σ11 b 6) + (1 : Int32))) fun σ12 => (X1_lookAtStay σ12 b b2 x2).bind fun σ14 => some (.inl ((x2 + 1), σ14))))
noncomputable def X1_lookAt_s (b : Nat) (b2 : Nat) (a : Int32 × gS) : Option ((Int32 × gS) ⊕ (gS)) :=
  X1_lookAt_k0 a.2 b b2 a.1
noncomputable def X1_lookAt (σ : gS) (b : Nat) (b2 : Nat) : Option (gS) :=
  (X0_hinderedStays σ b2).bind fun r2 => lt_ (g_up σ b 4 r2) fun σ3 => lt_ (g_up σ3 b 5 (σ3 b2 0)) fun σ4 => lt_ (g_up σ4 b 6 0) fun σ5 => gr (X1_lookAt_s b b2) (0, σ5)
set_option maxHeartbeats 4000000 in
set_option maxRecDepth 100000 in
theorem l_X1_lookAt {p : Program} {e : Env} {s : State} {m : MethodId} {args : Array Value} {below : List Frame} {meth : Method} {c : Code} (l : Launch) (D : va_G) (y : ClassId × ClassId × ClassId) (ad : Nat → Nat) {b : Nat} (hb : g_cla b) {b2 : Nat} (hb2 : g_air b2) (sz : Nat) (hC : g_C p s m args c cX1_lookAt 3 RX1 D y) (hr : meth.sig.returnType = none) (hlk : meth.locks = false) (hsz : s.heap.size = sz) {r0 : gS} : ∀ a : Int32 × gS, gr (X1_lookAt_s b b2) a = some r0 → ∀ (H : Heap) (locs : List Loc) (ls : Array Slot), g_W (g_A ad sz) s.heap D y ad [] a.2 H locs → lv_has ls 3 [(0, .ref (ad b)), (1, .ref (ad b2)), (2, .int a.1)] → W p l e ({ frames := 3, cells := 0, slots := 0, locals := 74 }) s m args below meth c H locs 0 0 (MQ below (g_Qv D y ad r0 sz) args s 0 0 (g_A ad sz)) (F0 m 23 ls []) := by
  have hx := hC.1
  have hcd := hC.2.1
  refine gr_all (fun a o ho hret hjmp => ?_)
  obtain ⟨x2, σ⟩ := a
  intro H locs ls hW hl
  have ho : X1_lookAt_k0 σ b b2 x2 = some o := ho
  unfold X1_lookAt_k0 at ho
  refine lv_iload_n hx hcd dX1_lookAt_23 rfl (lv_at hl 2 rfl) ?_
  refine lv_bipush (v := 20) hx hcd dX1_lookAt_24 (by decide) ?_
  refine lv_icmp_ge (tgt := 69) hx hcd dX1_lookAt_26 (by decide) (fun c6 => ?_) (fun c6 => ?_)
  · have ho := gif_p ho c6
    obtain rfl := hret _ (Option.some.inj ho).symm
    exact g_vret hC hr hlk hsz hW dX1_lookAt_69
  · have ho := gif_n ho c6
    refine lv_aload_n hx hcd dX1_lookAt_29 rfl (lv_at hl 1 rfl) ?_
    refine lv_iload_n hx hcd dX1_lookAt_30 rfl (lv_at hl 2 rfl) ?_
    obtain ⟨r8, h7, ho⟩ := gb_some ho
    refine g_calli hW (g_runV (As := [.int x2]) (rest := []) (i := b2) hC hW (c_X0_isOnStand l D y ad hb2 x2 _ _ h7) ok_X1_41 ⟨rfl, rfl, Nat.le_of_ble_eq_true rfl, Nat.le_of_ble_eq_true rfl⟩ (g_lt_air hb2) (g_sh_air hb2) rfl rfl rfl hl.1 rfl (Nat.le_of_ble_eq_true rfl) dX1_lookAt_31 ⟨Nat.zero_le _, Nat.zero_le _⟩) (fun H locs hW => ?_)
    refine lv_if_eq (tgt := 63) hx hcd dX1_lookAt_34 (by decide) (fun c9 => ?_) (fun c9 => ?_)
    · have ho := gif_p ho c9
      refine lv_iinc (v := x2 + 1) (lv' := [(2, .int (x2 + 1)), (0, .ref (ad b)), (1, .ref (ad b2))]) hx hcd dX1_lookAt_63 hl (k := 2) rfl rfl (by decide) rfl (fun ls hl => ?_)
      refine lv_goto (tgt := 23) hx hcd dX1_lookAt_66 (by decide) ?_
      exact hjmp _ (Option.some.inj ho).symm _ _ _ hW (lv_sub hl [1, 2, 0] rfl)
    · have ho := gif_n ho c9
      refine lv_aload_n hx hcd dX1_lookAt_37 rfl (lv_at hl 0 rfl) ?_
      refine g_getr hC hW (C := RX1) (T := TX1) (N := 7) (ci := 3) (k := 3) (index := 21) (i := b) (r := (b + 4)) inGX1 rfl (by decide) fl_X1_21 (g_lt_cla (j := 0) hb (by decide)) (g_sh_cla hb) rfl dX1_lookAt_38 ?_
      refine lv_aload_n hx hcd dX1_lookAt_41 rfl (lv_at hl 0 rfl) ?_
      refine g_geti hC hW (C := RX1) (T := TX1) (N := 7) (ci := 3) (k := 6) (index := 38) (i := b) inGX1 rfl (by decide) fl_X1_38 (g_lt_cla (j := 0) hb (by decide)) (g_sh_cla hb) rfl dX1_lookAt_42 ?_
      refine lv_iload_n hx hcd dX1_lookAt_45 rfl (lv_at hl 2 rfl) ?_
      obtain ⟨i10, ho⟩ := gd_some ho
      obtain ⟨σ11, eσ11, ho⟩ := lt_ex ho
      refine g_iast hC hW (i := (b + 4)) (g_lt_cla (j := 4) hb (by decide)) (g_sc4 hb) i10 dX1_lookAt_46 (fun H locs hW => ?_)
      rw [← eσ11] at hW
      refine lv_aload_n hx hcd dX1_lookAt_47 rfl (lv_at hl 0 rfl) ?_
      refine lv_dup hx hcd dX1_lookAt_48 rfl ?_
      refine g_geti hC hW (C := RX1) (T := TX1) (N := 7) (ci := 3) (k := 6) (index := 38) (i := b) inGX1 rfl (by decide) fl_X1_38 (g_lt_cla (j := 0) hb (by decide)) (g_sh_cla hb) rfl dX1_lookAt_49 ?_
      refine lv_iconst (v := 1) hx hcd dX1_lookAt_52 (by decide) ?_
      refine lv_iadd hx hcd dX1_lookAt_53 ?_
      obtain ⟨σ12, eσ12, ho⟩ := lt_ex ho
      refine g_puti hC hW (C := RX1) (T := TX1) (N := 7) (ci := 3) (k := 6) (index := 38) (i := b) inGX1 tyX1 tyX1_ok nmX1 rfl (by decide) fl_X1_38 rfl (g_lt_cla (j := 0) hb (by decide)) (g_sh_cla hb) rfl rfl rfl dX1_lookAt_54 (fun H locs hW => ?_)
      rw [← eσ12] at hW
      refine lv_aload_n hx hcd dX1_lookAt_57 rfl (lv_at hl 0 rfl) ?_
      refine lv_aload_n hx hcd dX1_lookAt_58 rfl (lv_at hl 1 rfl) ?_
      refine lv_iload_n hx hcd dX1_lookAt_59 rfl (lv_at hl 2 rfl) ?_
      obtain ⟨σ14, h13, ho⟩ := gb_some ho
      refine g_callv hW (g_runV (As := [.ref (ad b2), .int x2]) (rest := []) (i := b) hC hW (c_X1_lookAtStay l D y ad hb hb2 x2 _ _ h13) ok_X1_45 ⟨rfl, rfl, Nat.le_of_ble_eq_true rfl, Nat.le_of_ble_eq_true rfl⟩ (g_lt_cla (j := 0) hb (by decide)) (g_sh_cla hb) rfl rfl rfl hl.1 rfl (Nat.le_of_ble_eq_true rfl) dX1_lookAt_60 ⟨Nat.zero_le _, Nat.zero_le _⟩) (fun H locs hW => ?_)
      refine lv_iinc (v := x2 + 1) (lv' := [(2, .int (x2 + 1)), (0, .ref (ad b)), (1, .ref (ad b2))]) hx hcd dX1_lookAt_63 hl (k := 2) rfl rfl (by decide) rfl (fun ls hl => ?_)
      refine lv_goto (tgt := 23) hx hcd dX1_lookAt_66 (by decide) ?_
      exact hjmp _ (Option.some.inj ho).symm _ _ _ hW (lv_sub hl [1, 2, 0] rfl)
set_option maxHeartbeats 4000000 in
set_option maxRecDepth 100000 in
theorem c_X1_lookAt (l : Launch) (D : va_G) (y : ClassId × ClassId × ClassId) (ad : Nat → Nat) {b : Nat} (hb : g_cla b) {b2 : Nat} (hb2 : g_air b2) (σ : gS) (sz : Nat) {q : gS} (h : X1_lookAt σ b b2 = some q) : Met l yX1_lookAt (Cond.code yX1_lookAt cX1_lookAt 3 none :: gl) ({ frames := 3, cells := 0, slots := 0, locals := 74 }) (g_Pc D y ad σ sz [.ref (ad b), .ref (ad b2)]) (g_Qv D y ad q sz) 0 0 (g_A ad sz) := by
  have ho := h
  unfold X1_lookAt at ho
  refine g_start (by decide) (Nat.le_of_ble_eq_true rfl) (fun p e s m below meth c ls hC hr hlk hsz hW hl => ?_)
  have hx := hC.1
  have hcd := hC.2.1
  have hl : lv_has ls 3 [(0, .ref (ad b)), (1, .ref (ad b2))] := hl
  refine lv_aload_n hx hcd dX1_lookAt_0 rfl (lv_at hl 0 rfl) ?_
  refine lv_aload_n hx hcd dX1_lookAt_1 rfl (lv_at hl 1 rfl) ?_
  obtain ⟨r2, h1, ho⟩ := gb_some ho
  refine g_calli hW (g_runV (As := []) (rest := [.ref (ad b)]) (i := b2) hC hW (c_X0_hinderedStays l D y ad hb2 _ _ h1) ok_X1_24 ⟨rfl, rfl, Nat.le_of_ble_eq_true rfl, Nat.le_of_ble_eq_true rfl⟩ (g_lt_air hb2) (g_sh_air hb2) rfl rfl rfl hl.1 rfl (Nat.le_of_ble_eq_true rfl) dX1_lookAt_2 ⟨Nat.zero_le _, Nat.zero_le _⟩) (fun H locs hW => ?_)
  obtain ⟨σ3, eσ3, ho⟩ := lt_ex ho
  refine g_puti hC hW (C := RX1) (T := TX1) (N := 7) (ci := 3) (k := 4) (index := 30) (i := b) inGX1 tyX1 tyX1_ok nmX1 rfl (by decide) fl_X1_30 rfl (g_lt_cla (j := 0) hb (by decide)) (g_sh_cla hb) rfl rfl rfl dX1_lookAt_5 (fun H locs hW => ?_)
  rw [← eσ3] at hW
  refine lv_aload_n hx hcd dX1_lookAt_8 rfl (lv_at hl 0 rfl) ?_
  refine lv_aload_n hx hcd dX1_lookAt_9 rfl (lv_at hl 1 rfl) ?_
  refine g_geti hC hW (C := RX0) (T := TX0) (N := 16) (ci := 2) (k := 0) (index := 34) (i := b2) inGX0 rfl (by decide) fl_X1_34 (g_lt_air hb2) (g_sh_air hb2) rfl dX1_lookAt_10 ?_
  obtain ⟨σ4, eσ4, ho⟩ := lt_ex ho
  refine g_puti hC hW (C := RX1) (T := TX1) (N := 7) (ci := 3) (k := 5) (index := 37) (i := b) inGX1 tyX1 tyX1_ok nmX1 rfl (by decide) fl_X1_37 rfl (g_lt_cla (j := 0) hb (by decide)) (g_sh_cla hb) rfl rfl rfl dX1_lookAt_13 (fun H locs hW => ?_)
  rw [← eσ4] at hW
  refine lv_aload_n hx hcd dX1_lookAt_16 rfl (lv_at hl 0 rfl) ?_
  refine lv_iconst (v := 0) hx hcd dX1_lookAt_17 (by decide) ?_
  obtain ⟨σ5, eσ5, ho⟩ := lt_ex ho
  refine g_puti hC hW (C := RX1) (T := TX1) (N := 7) (ci := 3) (k := 6) (index := 38) (i := b) inGX1 tyX1 tyX1_ok nmX1 rfl (by decide) fl_X1_38 rfl (g_lt_cla (j := 0) hb (by decide)) (g_sh_cla hb) rfl rfl rfl dX1_lookAt_18 (fun H locs hW => ?_)
  rw [← eσ5] at hW
  refine lv_iconst (v := 0) hx hcd dX1_lookAt_21 (by decide) ?_
  refine lv_istore_n (lv' := [(2, .int 0), (0, .ref (ad b)), (1, .ref (ad b2))]) hx hcd dX1_lookAt_22 rfl hl (by decide) rfl (fun ls hl => ?_)
  exact l_X1_lookAt l D y ad hb hb2 sz hC hr hlk hsz _ ho _ _ _ hW (lv_sub hl [1, 2, 0] rfl)
noncomputable def X1_isRestSound_k0 (σ : gS) (b : Nat) (x1 : Int32) (x2 : Int32) : Option ((Int32 × Int32) ⊕ (Int32)) :=
  if (σ b 6) ≤ x2 then (some (.inr 1)) else (gd (ib x2 20) <| if ((x1 >>> ((σ (b + 4) x2.toNatClampNeg) &&& 31)) &&& (1 : Int32)) = 0 then (gd (ib (σ (b + 4) x2.toNatClampNeg) 20) <| if ((σ (b + 3) (σ (b + 4) x2.toNatClampNeg).toNatClampNeg) &&& (x1 ^^^ (-1 : Int32))) = 0 then (some (.inl (x1, (x2 + 1)))) else (some (.inr 0))) else (some (.inl (x1, (x2 + 1)))))
noncomputable def X1_isRestSound_s (σ : gS) (b : Nat) (a : Int32 × Int32) : Option ((Int32 × Int32) ⊕ (Int32)) :=
  X1_isRestSound_k0 σ b a.1 a.2
noncomputable def X1_isRestSound (σ : gS) (b : Nat) (x1 : Int32) : Option (Int32) :=
  if ((σ b 4) &&& (x1 ^^^ (-1 : Int32))) = 0 then (gr (X1_isRestSound_s σ b) (x1, 0)) else (some 0)
set_option maxHeartbeats 4000000 in
set_option maxRecDepth 100000 in
theorem l_X1_isRestSound {p : Program} {e : Env} {s : State} {m : MethodId} {args : Array Value} {below : List Frame} {meth : Method} {c : Code} (l : Launch) (D : va_G) (y : ClassId × ClassId × ClassId) (ad : Nat → Nat) {b : Nat} (hb : g_cla b) (σ : gS) (sz : Nat) (hC : g_C p s m args c cX1_isRestSound 4 RX1 D y) (hr : meth.sig.returnType = (some .boolean)) (hlk : meth.locks = false) (hsz : s.heap.size = sz) {r0 : Int32} : ∀ a : Int32 × Int32, gr (X1_isRestSound_s σ b) a = some r0 → ∀ (H : Heap) (locs : List Loc) (ls : Array Slot), g_W (g_A ad sz) s.heap D y ad [] σ H locs → lv_has ls 4 [(0, .ref (ad b)), (1, .int a.1), (2, .int a.2)] → W p l e ({ frames := 0, cells := 0, slots := 0, locals := 0 }) s m args below meth c H locs 0 0 (MQ below (g_Qi D y ad σ sz r0) args s 0 0 (g_A ad sz)) (F0 m 15 ls []) := by
  have hx := hC.1
  have hcd := hC.2.1
  refine gr_all (fun a o ho hret hjmp => ?_)
  obtain ⟨x1, x2⟩ := a
  intro H locs ls hW hl
  have ho : X1_isRestSound_k0 σ b x1 x2 = some o := ho
  unfold X1_isRestSound_k0 at ho
  refine lv_iload_n hx hcd dX1_isRestSound_15 rfl (lv_at hl 2 rfl) ?_
  refine lv_aload_n hx hcd dX1_isRestSound_16 rfl (lv_at hl 0 rfl) ?_
  refine g_geti hC hW (C := RX1) (T := TX1) (N := 7) (ci := 3) (k := 6) (index := 38) (i := b) inGX1 rfl (by decide) fl_X1_38 (g_lt_cla (j := 0) hb (by decide)) (g_sh_cla hb) rfl dX1_isRestSound_17 ?_
  refine lv_icmp_ge (tgt := 59) hx hcd dX1_isRestSound_20 (by decide) (fun c2 => ?_) (fun c2 => ?_)
  · have ho := gif_p ho c2
    refine lv_iconst (v := 1) hx hcd dX1_isRestSound_59 (by decide) ?_
    obtain rfl := hret _ (Option.some.inj ho).symm
    exact g_zret (r := 1) hC hr hlk hsz hW (by decide) dX1_isRestSound_60
  · have ho := gif_n ho c2
    refine lv_aload_n hx hcd dX1_isRestSound_23 rfl (lv_at hl 0 rfl) ?_
    refine g_getr hC hW (C := RX1) (T := TX1) (N := 7) (ci := 3) (k := 3) (index := 21) (i := b) (r := (b + 4)) inGX1 rfl (by decide) fl_X1_21 (g_lt_cla (j := 0) hb (by decide)) (g_sh_cla hb) rfl dX1_isRestSound_24 ?_
    refine lv_iload_n hx hcd dX1_isRestSound_27 rfl (lv_at hl 2 rfl) ?_
    obtain ⟨i3, ho⟩ := gd_some ho
    refine g_iald hC hW (i := (b + 4)) (g_lt_cla (j := 4) hb (by decide)) (g_sc4 hb) i3 dX1_isRestSound_28 ?_
    refine lv_istore_n (lv' := [(3, .int (σ (b + 4) x2.toNatClampNeg)), (0, .ref (ad b)), (1, .int x1), (2, .int x2)]) hx hcd dX1_isRestSound_29 rfl hl (by decide) rfl (fun ls hl => ?_)
    refine lv_iload_n hx hcd dX1_isRestSound_30 rfl (lv_at hl 2 rfl) ?_
    refine lv_iload_n hx hcd dX1_isRestSound_31 rfl (lv_at hl 0 rfl) ?_
    refine lv_ishr hx hcd dX1_isRestSound_32 ?_
    refine lv_iconst (v := 1) hx hcd dX1_isRestSound_33 (by decide) ?_
    refine lv_iand hx hcd dX1_isRestSound_34 ?_
    refine lv_if_ne (tgt := 53) hx hcd dX1_isRestSound_35 (by decide) (fun c4 => ?_) (fun c4 => ?_)
    · have ho := gif_n ho c4
      refine lv_iinc (v := x2 + 1) (lv' := [(2, .int (x2 + 1)), (3, .int (σ (b + 4) x2.toNatClampNeg)), (0, .ref (ad b)), (1, .int x1)]) hx hcd dX1_isRestSound_53 hl (k := 3) rfl rfl (by decide) rfl (fun ls hl => ?_)
      refine lv_goto (tgt := 15) hx hcd dX1_isRestSound_56 (by decide) ?_
      exact hjmp _ (Option.some.inj ho).symm _ _ _ hW (lv_sub hl [2, 3, 0] rfl)
    · have ho := gif_p ho c4
      refine lv_aload_n hx hcd dX1_isRestSound_38 rfl (lv_at hl 1 rfl) ?_
      refine g_getr hC hW (C := RX1) (T := TX1) (N := 7) (ci := 3) (k := 2) (index := 18) (i := b) (r := (b + 3)) inGX1 rfl (by decide) fl_X1_18 (g_lt_cla (j := 0) hb (by decide)) (g_sh_cla hb) rfl dX1_isRestSound_39 ?_
      refine lv_iload_n hx hcd dX1_isRestSound_42 rfl (lv_at hl 0 rfl) ?_
      obtain ⟨i5, ho⟩ := gd_some ho
      refine g_iald hC hW (i := (b + 3)) (g_lt_cla (j := 3) hb (by decide)) (g_sc3 hb) i5 dX1_isRestSound_43 ?_
      refine lv_iload_n hx hcd dX1_isRestSound_44 rfl (lv_at hl 2 rfl) ?_
      refine lv_iconst (v := (-1)) hx hcd dX1_isRestSound_45 (by decide) ?_
      refine lv_ixor hx hcd dX1_isRestSound_46 ?_
      refine lv_iand hx hcd dX1_isRestSound_47 ?_
      refine lv_if_eq (tgt := 53) hx hcd dX1_isRestSound_48 (by decide) (fun c6 => ?_) (fun c6 => ?_)
      · have ho := gif_p ho c6
        refine lv_iinc (v := x2 + 1) (lv' := [(2, .int (x2 + 1)), (3, .int (σ (b + 4) x2.toNatClampNeg)), (0, .ref (ad b)), (1, .int x1)]) hx hcd dX1_isRestSound_53 hl (k := 3) rfl rfl (by decide) rfl (fun ls hl => ?_)
        refine lv_goto (tgt := 15) hx hcd dX1_isRestSound_56 (by decide) ?_
        exact hjmp _ (Option.some.inj ho).symm _ _ _ hW (lv_sub hl [2, 3, 0] rfl)
      · have ho := gif_n ho c6
        refine lv_iconst (v := 0) hx hcd dX1_isRestSound_51 (by decide) ?_
        obtain rfl := hret _ (Option.some.inj ho).symm
        exact g_zret (r := 0) hC hr hlk hsz hW (by decide) dX1_isRestSound_52
set_option maxHeartbeats 4000000 in
set_option maxRecDepth 100000 in
theorem c_X1_isRestSound (l : Launch) (D : va_G) (y : ClassId × ClassId × ClassId) (ad : Nat → Nat) {b : Nat} (hb : g_cla b) (x1 : Int32) (σ : gS) (sz : Nat) {q : Int32} (h : X1_isRestSound σ b x1 = some q) : Met l yX1_isRestSound (Cond.code yX1_isRestSound cX1_isRestSound 4 (some .boolean) :: gl) ({ frames := 0, cells := 0, slots := 0, locals := 0 }) (g_Pc D y ad σ sz [.ref (ad b), .int x1]) (g_Qi D y ad σ sz q) 0 0 (g_A ad sz) := by
  have ho := h
  unfold X1_isRestSound at ho
  refine g_start (by decide) (Nat.le_of_ble_eq_true rfl) (fun p e s m below meth c ls hC hr hlk hsz hW hl => ?_)
  have hx := hC.1
  have hcd := hC.2.1
  have hl : lv_has ls 4 [(0, .ref (ad b)), (1, .int x1)] := hl
  refine lv_aload_n hx hcd dX1_isRestSound_0 rfl (lv_at hl 0 rfl) ?_
  refine g_geti hC hW (C := RX1) (T := TX1) (N := 7) (ci := 3) (k := 4) (index := 30) (i := b) inGX1 rfl (by decide) fl_X1_30 (g_lt_cla (j := 0) hb (by decide)) (g_sh_cla hb) rfl dX1_isRestSound_1 ?_
  refine lv_iload_n hx hcd dX1_isRestSound_4 rfl (lv_at hl 1 rfl) ?_
  refine lv_iconst (v := (-1)) hx hcd dX1_isRestSound_5 (by decide) ?_
  refine lv_ixor hx hcd dX1_isRestSound_6 ?_
  refine lv_iand hx hcd dX1_isRestSound_7 ?_
  refine lv_if_eq (tgt := 13) hx hcd dX1_isRestSound_8 (by decide) (fun c1 => ?_) (fun c1 => ?_)
  · have ho := gif_p ho c1
    refine lv_iconst (v := 0) hx hcd dX1_isRestSound_13 (by decide) ?_
    refine lv_istore_n (lv' := [(2, .int 0), (0, .ref (ad b)), (1, .int x1)]) hx hcd dX1_isRestSound_14 rfl hl (by decide) rfl (fun ls hl => ?_)
    exact l_X1_isRestSound l D y ad hb σ sz hC hr hlk hsz _ ho _ _ _ hW (lv_sub hl [1, 2, 0] rfl)
  · have ho := gif_n ho c1
    refine lv_iconst (v := 0) hx hcd dX1_isRestSound_11 (by decide) ?_
    obtain rfl := Option.some.inj ho
    exact g_zret (r := 0) hC hr hlk hsz hW (by decide) dX1_isRestSound_12
noncomputable def X1_freeFor_k0 (σ : gS) (b : Nat) (x1 : Int32) (x2 : Int32) (x3 : Int32) (x4 : Int32) : Option ((Int32 × Int32 × Int32 × Int32) ⊕ (Int32)) :=
  if (σ b 5) ≤ x4 then (some (.inr x3)) else (gd (ib x1 20) <| if (((σ (b + 2) x1.toNatClampNeg) >>> (x4 &&& 31)) &&& (1 : Int32)) = 0 then (some (.inl (x1, x2, x3, (x4 + 1)))) else (gd (ib ((x1 * (8 : Int32)) + x4) 160) <| if ((σ (b + 1) ((x1 * (8 : Int32)) + x4).toNatClampNeg) &&& (x2 ^^^ (-1 : Int32))) = 0 then (some (.inl (x1, x2, (x3 ||| ((1 : Int32) <<< (x4 &&& 31))), (x4 + 1)))) else (some (.inl (x1, x2, x3, (x4 + 1))))))
noncomputable def X1_freeFor_s (σ : gS) (b : Nat) (a : Int32 × Int32 × Int32 × Int32) : Option ((Int32 × Int32 × Int32 × Int32) ⊕ (Int32)) :=
  X1_freeFor_k0 σ b a.1 a.2.1 a.2.2.1 a.2.2.2
noncomputable def X1_freeFor (σ : gS) (b : Nat) (x1 : Int32) (x2 : Int32) : Option (Int32) :=
  gr (X1_freeFor_s σ b) (x1, x2, 0, 0)
set_option maxHeartbeats 4000000 in
set_option maxRecDepth 100000 in
theorem l_X1_freeFor {p : Program} {e : Env} {s : State} {m : MethodId} {args : Array Value} {below : List Frame} {meth : Method} {c : Code} (l : Launch) (D : va_G) (y : ClassId × ClassId × ClassId) (ad : Nat → Nat) {b : Nat} (hb : g_cla b) (σ : gS) (sz : Nat) (hC : g_C p s m args c cX1_freeFor 5 RX1 D y) (hr : meth.sig.returnType = (some .int)) (hlk : meth.locks = false) (hsz : s.heap.size = sz) {r0 : Int32} : ∀ a : Int32 × Int32 × Int32 × Int32, gr (X1_freeFor_s σ b) a = some r0 → ∀ (H : Heap) (locs : List Loc) (ls : Array Slot), g_W (g_A ad sz) s.heap D y ad [] σ H locs → lv_has ls 5 [(0, .ref (ad b)), (1, .int a.1), (2, .int a.2.1), (3, .int a.2.2.1), (4, .int a.2.2.2)] → W p l e ({ frames := 0, cells := 0, slots := 0, locals := 0 }) s m args below meth c H locs 0 0 (MQ below (g_Qi D y ad σ sz r0) args s 0 0 (g_A ad sz)) (F0 m 5 ls []) := by
  have hx := hC.1
  have hcd := hC.2.1
  refine gr_all (fun a o ho hret hjmp => ?_)
  obtain ⟨x1, x2, x3, x4⟩ := a
  intro H locs ls hW hl
  have ho : X1_freeFor_k0 σ b x1 x2 x3 x4 = some o := ho
  unfold X1_freeFor_k0 at ho
  refine lv_iload hx hcd dX1_freeFor_5 (lv_at hl 4 rfl) ?_
  refine lv_aload_n hx hcd dX1_freeFor_7 rfl (lv_at hl 0 rfl) ?_
  refine g_geti hC hW (C := RX1) (T := TX1) (N := 7) (ci := 3) (k := 5) (index := 37) (i := b) inGX1 rfl (by decide) fl_X1_37 (g_lt_cla (j := 0) hb (by decide)) (g_sh_cla hb) rfl dX1_freeFor_8 ?_
  refine lv_icmp_ge (tgt := 60) hx hcd dX1_freeFor_11 (by decide) (fun c1 => ?_) (fun c1 => ?_)
  · have ho := gif_p ho c1
    refine lv_iload_n hx hcd dX1_freeFor_60 rfl (lv_at hl 3 rfl) ?_
    obtain rfl := hret _ (Option.some.inj ho).symm
    exact g_iret hC hr hlk hsz hW dX1_freeFor_61
  · have ho := gif_n ho c1
    refine lv_aload_n hx hcd dX1_freeFor_14 rfl (lv_at hl 0 rfl) ?_
    refine g_getr hC hW (C := RX1) (T := TX1) (N := 7) (ci := 3) (k := 1) (index := 15) (i := b) (r := (b + 2)) inGX1 rfl (by decide) fl_X1_15 (g_lt_cla (j := 0) hb (by decide)) (g_sh_cla hb) rfl dX1_freeFor_15 ?_
    refine lv_iload_n hx hcd dX1_freeFor_18 rfl (lv_at hl 1 rfl) ?_
    obtain ⟨i2, ho⟩ := gd_some ho
    refine g_iald hC hW (i := (b + 2)) (g_lt_cla (j := 2) hb (by decide)) (g_sc2 hb) i2 dX1_freeFor_19 ?_
    refine lv_iload hx hcd dX1_freeFor_20 (lv_at hl 4 rfl) ?_
    refine lv_ishr hx hcd dX1_freeFor_22 ?_
    refine lv_iconst (v := 1) hx hcd dX1_freeFor_23 (by decide) ?_
    refine lv_iand hx hcd dX1_freeFor_24 ?_
    refine lv_if_eq (tgt := 54) hx hcd dX1_freeFor_25 (by decide) (fun c3 => ?_) (fun c3 => ?_)
    · have ho := gif_p ho c3
      refine lv_iinc (v := x4 + 1) (lv' := [(4, .int (x4 + 1)), (0, .ref (ad b)), (1, .int x1), (2, .int x2), (3, .int x3)]) hx hcd dX1_freeFor_54 hl (k := 4) rfl rfl (by decide) rfl (fun ls hl => ?_)
      refine lv_goto (tgt := 5) hx hcd dX1_freeFor_57 (by decide) ?_
      exact hjmp _ (Option.some.inj ho).symm _ _ _ hW (lv_sub hl [1, 2, 3, 4, 0] rfl)
    · have ho := gif_n ho c3
      refine lv_aload_n hx hcd dX1_freeFor_28 rfl (lv_at hl 0 rfl) ?_
      refine g_getr hC hW (C := RX1) (T := TX1) (N := 7) (ci := 3) (k := 0) (index := 9) (i := b) (r := (b + 1)) inGX1 rfl (by decide) fl_X1_9 (g_lt_cla (j := 0) hb (by decide)) (g_sh_cla hb) rfl dX1_freeFor_29 ?_
      refine lv_iload_n hx hcd dX1_freeFor_32 rfl (lv_at hl 1 rfl) ?_
      refine lv_bipush (v := 8) hx hcd dX1_freeFor_33 (by decide) ?_
      refine lv_imul hx hcd dX1_freeFor_35 ?_
      refine lv_iload hx hcd dX1_freeFor_36 (lv_at hl 4 rfl) ?_
      refine lv_iadd hx hcd dX1_freeFor_38 ?_
      obtain ⟨i4, ho⟩ := gd_some ho
      refine g_iald hC hW (i := (b + 1)) (g_lt_cla (j := 1) hb (by decide)) (g_sc1 hb) i4 dX1_freeFor_39 ?_
      refine lv_iload_n hx hcd dX1_freeFor_40 rfl (lv_at hl 2 rfl) ?_
      refine lv_iconst (v := (-1)) hx hcd dX1_freeFor_41 (by decide) ?_
      refine lv_ixor hx hcd dX1_freeFor_42 ?_
      refine lv_iand hx hcd dX1_freeFor_43 ?_
      refine lv_if_ne (tgt := 54) hx hcd dX1_freeFor_44 (by decide) (fun c5 => ?_) (fun c5 => ?_)
      · have ho := gif_n ho c5
        refine lv_iinc (v := x4 + 1) (lv' := [(4, .int (x4 + 1)), (0, .ref (ad b)), (1, .int x1), (2, .int x2), (3, .int x3)]) hx hcd dX1_freeFor_54 hl (k := 4) rfl rfl (by decide) rfl (fun ls hl => ?_)
        refine lv_goto (tgt := 5) hx hcd dX1_freeFor_57 (by decide) ?_
        exact hjmp _ (Option.some.inj ho).symm _ _ _ hW (lv_sub hl [1, 2, 3, 4, 0] rfl)
      · have ho := gif_p ho c5
        refine lv_iload_n hx hcd dX1_freeFor_47 rfl (lv_at hl 3 rfl) ?_
        refine lv_iconst (v := 1) hx hcd dX1_freeFor_48 (by decide) ?_
        refine lv_iload hx hcd dX1_freeFor_49 (lv_at hl 4 rfl) ?_
        refine lv_ishl hx hcd dX1_freeFor_51 ?_
        refine lv_ior hx hcd dX1_freeFor_52 ?_
        refine lv_istore_n (lv' := [(3, .int (x3 ||| ((1 : Int32) <<< (x4 &&& 31)))), (0, .ref (ad b)), (1, .int x1), (2, .int x2), (4, .int x4)]) hx hcd dX1_freeFor_53 rfl hl (by decide) rfl (fun ls hl => ?_)
        refine lv_iinc (v := x4 + 1) (lv' := [(4, .int (x4 + 1)), (3, .int (x3 ||| ((1 : Int32) <<< (x4 &&& 31)))), (0, .ref (ad b)), (1, .int x1), (2, .int x2)]) hx hcd dX1_freeFor_54 hl (k := 4) rfl rfl (by decide) rfl (fun ls hl => ?_)
        refine lv_goto (tgt := 5) hx hcd dX1_freeFor_57 (by decide) ?_
        exact hjmp _ (Option.some.inj ho).symm _ _ _ hW (lv_sub hl [2, 3, 4, 1, 0] rfl)
set_option maxHeartbeats 4000000 in
set_option maxRecDepth 100000 in
theorem c_X1_freeFor (l : Launch) (D : va_G) (y : ClassId × ClassId × ClassId) (ad : Nat → Nat) {b : Nat} (hb : g_cla b) (x1 : Int32) (x2 : Int32) (σ : gS) (sz : Nat) {q : Int32} (h : X1_freeFor σ b x1 x2 = some q) : Met l yX1_freeFor (Cond.code yX1_freeFor cX1_freeFor 5 (some .int) :: gl) ({ frames := 0, cells := 0, slots := 0, locals := 0 }) (g_Pc D y ad σ sz [.ref (ad b), .int x1, .int x2]) (g_Qi D y ad σ sz q) 0 0 (g_A ad sz) := by
  have ho := h
  unfold X1_freeFor at ho
  refine g_start (by decide) (Nat.le_of_ble_eq_true rfl) (fun p e s m below meth c ls hC hr hlk hsz hW hl => ?_)
  have hx := hC.1
  have hcd := hC.2.1
  have hl : lv_has ls 5 [(0, .ref (ad b)), (1, .int x1), (2, .int x2)] := hl
  refine lv_iconst (v := 0) hx hcd dX1_freeFor_0 (by decide) ?_
  refine lv_istore_n (lv' := [(3, .int 0), (0, .ref (ad b)), (1, .int x1), (2, .int x2)]) hx hcd dX1_freeFor_1 rfl hl (by decide) rfl (fun ls hl => ?_)
  refine lv_iconst (v := 0) hx hcd dX1_freeFor_2 (by decide) ?_
  refine lv_istore (lv' := [(4, .int 0), (3, .int 0), (0, .ref (ad b)), (1, .int x1), (2, .int x2)]) hx hcd dX1_freeFor_3 hl (by decide) rfl (fun ls hl => ?_)
  exact l_X1_freeFor l D y ad hb σ sz hC hr hlk hsz _ ho _ _ _ hW (lv_sub hl [2, 3, 4, 1, 0] rfl)
noncomputable def X2_standIn (σ : gS) (x0 : Int32) (x1 : Int32) : Option (Int32) :=
  some ((x0 >>> (((3 : Int32) * x1) &&& 31)) &&& (7 : Int32))
set_option maxHeartbeats 4000000 in
set_option maxRecDepth 100000 in
theorem c_X2_standIn (l : Launch) (D : va_G) (y : ClassId × ClassId × ClassId) (ad : Nat → Nat) (x0 : Int32) (x1 : Int32) (σ : gS) (sz : Nat) {q : Int32} (h : X2_standIn σ x0 x1 = some q) : Met l yX2_standIn (Cond.code yX2_standIn cX2_standIn 2 (some .int) :: gl) ({ frames := 0, cells := 0, slots := 0, locals := 0 }) (g_Pc D y ad σ sz [.int x0, .int x1]) (g_Qi D y ad σ sz q) 0 0 (g_A ad sz) := by
  have ho := h
  unfold X2_standIn at ho
  refine g_start (by decide) (Nat.le_of_ble_eq_true rfl) (fun p e s m below meth c ls hC hr hlk hsz hW hl => ?_)
  have hx := hC.1
  have hcd := hC.2.1
  have hl : lv_has ls 2 [(0, .int x0), (1, .int x1)] := hl
  refine lv_iload_n hx hcd dX2_standIn_0 rfl (lv_at hl 0 rfl) ?_
  refine lv_iconst (v := 3) hx hcd dX2_standIn_1 (by decide) ?_
  refine lv_iload_n hx hcd dX2_standIn_2 rfl (lv_at hl 1 rfl) ?_
  refine lv_imul hx hcd dX2_standIn_3 ?_
  refine lv_ishr hx hcd dX2_standIn_4 ?_
  refine lv_bipush (v := 7) hx hcd dX2_standIn_5 (by decide) ?_
  refine lv_iand hx hcd dX2_standIn_7 ?_
  obtain rfl := Option.some.inj ho
  exact g_iret hC hr hlk hsz hW dX2_standIn_8
noncomputable def X2_isRowSound_k0 (σ : gS) (b : Nat) (x2 : Int32) (x3 : Int32) (x4 : Int32) : Option ((Nat × Int32 × Int32 × Int32 × Int32 × Int32) ⊕ (Int32)) :=
  if x3 ≤ x4 then (some (.inr 1)) else ((X2_standIn σ x2 x4).bind fun r3 => gd (ib x4 3) <| if (((σ 13 x4.toNatClampNeg) >>> (r3 &&& 31)) &&& (1 : Int32)) = 0 then (some (.inr 0)) else (some (.inl (1, x2, x3, x4, r3, 0))))
noncomputable def X2_isRowSound_k1 (σ : gS) (b : Nat) (x2 : Int32) (x3 : Int32) (x4 : Int32) (x5 : Int32) (x6 : Int32) : Option ((Nat × Int32 × Int32 × Int32 × Int32 × Int32) ⊕ (Int32)) :=
  if x4 ≤ x6 then (some (.inl (0, x2, x3, (x4 + 1), 0, 0))) else (gd (ib x4 3) <| gd (ib x6 3) <| (X2_standIn σ x2 x6).bind fun r10 => (X0_wouldClash σ b (σ 12 x4.toNatClampNeg) x5 (σ 12 x6.toNatClampNeg) r10).bind fun r12 => if r12 = 0 then (some (.inl (1, x2, x3, x4, x5, (x6 + 1)))) else (some (.inr 0)))
noncomputable def X2_isRowSound_s (σ : gS) (b : Nat) (a : Nat × Int32 × Int32 × Int32 × Int32 × Int32) : Option ((Nat × Int32 × Int32 × Int32 × Int32 × Int32) ⊕ (Int32)) :=
  if a.1 = 0 then X2_isRowSound_k0 σ b a.2.1 a.2.2.1 a.2.2.2.1 else if a.1 = 1 then X2_isRowSound_k1 σ b a.2.1 a.2.2.1 a.2.2.2.1 a.2.2.2.2.1 a.2.2.2.2.2 else none
noncomputable def X2_isRowSound (σ : gS) (b : Nat) (x2 : Int32) (x3 : Int32) : Option (Int32) :=
  gr (X2_isRowSound_s σ b) (0, x2, x3, 0, 0, 0)
set_option maxHeartbeats 4000000 in
set_option maxRecDepth 100000 in
theorem l_X2_isRowSound {p : Program} {e : Env} {s : State} {m : MethodId} {args : Array Value} {below : List Frame} {meth : Method} {c : Code} (l : Launch) (D : va_G) (y : ClassId × ClassId × ClassId) (ad : Nat → Nat) {b : Nat} (hb : g_air b) (σ : gS) (sz : Nat) (hC : g_C p s m args c cX2_isRowSound 7 RX2 D y) (hr : meth.sig.returnType = (some .boolean)) (hlk : meth.locks = false) (hsz : s.heap.size = sz) {r0 : Int32} : ∀ a : Nat × Int32 × Int32 × Int32 × Int32 × Int32, gr (X2_isRowSound_s σ b) a = some r0 → ∀ (H : Heap) (locs : List Loc) (ls : Array Slot), g_W (g_A ad sz) s.heap D y ad [] σ H locs → (a.1 = 0 → lv_has ls 7 [(0, .ref (ad 11)), (1, .ref (ad b)), (2, .int a.2.1), (3, .int a.2.2.1), (4, .int a.2.2.2.1)] → W p l e ({ frames := 1, cells := 0, slots := 0, locals := 25 }) s m args below meth c H locs 0 0 (MQ below (g_Qi D y ad σ sz r0) args s 0 0 (g_A ad sz)) (F0 m 3 ls [])) ∧ (a.1 = 1 → lv_has ls 7 [(0, .ref (ad 11)), (1, .ref (ad b)), (2, .int a.2.1), (3, .int a.2.2.1), (4, .int a.2.2.2.1), (5, .int a.2.2.2.2.1), (6, .int a.2.2.2.2.2)] → W p l e ({ frames := 1, cells := 0, slots := 0, locals := 25 }) s m args below meth c H locs 0 0 (MQ below (g_Qi D y ad σ sz r0) args s 0 0 (g_A ad sz)) (F0 m 37 ls [])) := by
  have hx := hC.1
  have hcd := hC.2.1
  refine gr_all (fun a o ho hret hjmp => ?_)
  obtain ⟨lb, y0, y1, y2, y3, y4⟩ := a
  intro H locs ls hW
  refine ⟨?_, ?_⟩
  · intro hlb hl
    have hlb : lb = 0 := hlb
    subst hlb
    have ho : X2_isRowSound_k0 σ b y0 y1 y2 = some o := ho
    unfold X2_isRowSound_k0 at ho
    have hl : lv_has ls 7 [(0, .ref (ad 11)), (1, .ref (ad b)), (2, .int y0), (3, .int y1), (4, .int y2)] := hl
    have hW : g_W (g_A ad sz) s.heap D y ad [] σ H locs := hW
    refine lv_iload hx hcd dX2_isRowSound_3 (lv_at hl 4 rfl) ?_
    refine lv_iload_n hx hcd dX2_isRowSound_5 rfl (lv_at hl 3 rfl) ?_
    refine lv_icmp_ge (tgt := 87) hx hcd dX2_isRowSound_6 (by decide) (fun c1 => ?_) (fun c1 => ?_)
    · have ho := gif_p ho c1
      refine lv_iconst (v := 1) hx hcd dX2_isRowSound_87 (by decide) ?_
      obtain rfl := hret _ (Option.some.inj ho).symm
      exact g_zret (r := 1) hC hr hlk hsz hW (by decide) dX2_isRowSound_88
    · have ho := gif_n ho c1
      refine lv_iload_n hx hcd dX2_isRowSound_9 rfl (lv_at hl 2 rfl) ?_
      refine lv_iload hx hcd dX2_isRowSound_10 (lv_at hl 4 rfl) ?_
      obtain ⟨r3, h2, ho⟩ := gb_some ho
      refine g_calli hW (g_runS (As := [.int y0, .int y2]) (rest := []) hC hW (c_X2_standIn l D y ad y0 y2 _ _ h2) ok_X2_55 ⟨rfl, rfl, Nat.le_of_ble_eq_true rfl, Nat.le_of_ble_eq_true rfl⟩ rfl hl.1 rfl (Nat.le_of_ble_eq_true rfl) dX2_isRowSound_12 ⟨Nat.zero_le _, Nat.zero_le _⟩) (fun H locs hW => ?_)
      refine lv_istore (lv' := [(5, .int r3), (0, .ref (ad 11)), (1, .ref (ad b)), (2, .int y0), (3, .int y1), (4, .int y2)]) hx hcd dX2_isRowSound_15 hl (by decide) rfl (fun ls hl => ?_)
      refine lv_aload_n hx hcd dX2_isRowSound_17 rfl (lv_at hl 1 rfl) ?_
      refine g_getr hC hW (C := RX2) (T := TX2) (N := 4) (ci := 4) (k := 2) (index := 22) (i := 11) (r := 13) inGX2 rfl (by decide) fl_X2_22 (by decide) rfl rfl dX2_isRowSound_18 ?_
      refine lv_iload hx hcd dX2_isRowSound_21 (lv_at hl 5 rfl) ?_
      obtain ⟨i4, ho⟩ := gd_some ho
      refine g_iald hC hW (i := 13) (by decide) rfl i4 dX2_isRowSound_23 ?_
      refine lv_iload hx hcd dX2_isRowSound_24 (lv_at hl 0 rfl) ?_
      refine lv_ishr hx hcd dX2_isRowSound_26 ?_
      refine lv_iconst (v := 1) hx hcd dX2_isRowSound_27 (by decide) ?_
      refine lv_iand hx hcd dX2_isRowSound_28 ?_
      refine lv_if_ne (tgt := 34) hx hcd dX2_isRowSound_29 (by decide) (fun c5 => ?_) (fun c5 => ?_)
      · have ho := gif_n ho c5
        refine lv_iconst (v := 0) hx hcd dX2_isRowSound_34 (by decide) ?_
        refine lv_istore (lv' := [(6, .int 0), (5, .int r3), (0, .ref (ad 11)), (1, .ref (ad b)), (2, .int y0), (3, .int y1), (4, .int y2)]) hx hcd dX2_isRowSound_35 hl (by decide) rfl (fun ls hl => ?_)
        exact (hjmp _ (Option.some.inj ho).symm _ _ _ hW).2 rfl (lv_sub hl [2, 3, 4, 5, 6, 1, 0] rfl)
      · have ho := gif_p ho c5
        refine lv_iconst (v := 0) hx hcd dX2_isRowSound_32 (by decide) ?_
        obtain rfl := hret _ (Option.some.inj ho).symm
        exact g_zret (r := 0) hC hr hlk hsz hW (by decide) dX2_isRowSound_33
  · intro hlb hl
    have hlb : lb = 1 := hlb
    subst hlb
    have ho : X2_isRowSound_k1 σ b y0 y1 y2 y3 y4 = some o := ho
    unfold X2_isRowSound_k1 at ho
    have hl : lv_has ls 7 [(0, .ref (ad 11)), (1, .ref (ad b)), (2, .int y0), (3, .int y1), (4, .int y2), (5, .int y3), (6, .int y4)] := hl
    have hW : g_W (g_A ad sz) s.heap D y ad [] σ H locs := hW
    refine lv_iload hx hcd dX2_isRowSound_37 (lv_at hl 6 rfl) ?_
    refine lv_iload hx hcd dX2_isRowSound_39 (lv_at hl 4 rfl) ?_
    refine lv_icmp_ge (tgt := 81) hx hcd dX2_isRowSound_41 (by decide) (fun c6 => ?_) (fun c6 => ?_)
    · have ho := gif_p ho c6
      refine lv_iinc (v := y2 + 1) (lv' := [(4, .int (y2 + 1)), (0, .ref (ad 11)), (1, .ref (ad b)), (2, .int y0), (3, .int y1), (5, .int y3), (6, .int y4)]) hx hcd dX2_isRowSound_81 hl (k := 4) rfl rfl (by decide) rfl (fun ls hl => ?_)
      refine lv_goto (tgt := 3) hx hcd dX2_isRowSound_84 (by decide) ?_
      exact (hjmp _ (Option.some.inj ho).symm _ _ _ hW).1 rfl (lv_sub hl [1, 2, 3, 4, 0] rfl)
    · have ho := gif_n ho c6
      refine lv_aload_n hx hcd dX2_isRowSound_44 rfl (lv_at hl 1 rfl) ?_
      refine lv_aload_n hx hcd dX2_isRowSound_45 rfl (lv_at hl 0 rfl) ?_
      refine g_getr hC hW (C := RX2) (T := TX2) (N := 4) (ci := 4) (k := 1) (index := 18) (i := 11) (r := 12) inGX2 rfl (by decide) fl_X2_18 (by decide) rfl rfl dX2_isRowSound_46 ?_
      refine lv_iload hx hcd dX2_isRowSound_49 (lv_at hl 4 rfl) ?_
      obtain ⟨i7, ho⟩ := gd_some ho
      refine g_iald hC hW (i := 12) (by decide) rfl i7 dX2_isRowSound_51 ?_
      refine lv_iload hx hcd dX2_isRowSound_52 (lv_at hl 5 rfl) ?_
      refine lv_aload_n hx hcd dX2_isRowSound_54 rfl (lv_at hl 0 rfl) ?_
      refine g_getr hC hW (C := RX2) (T := TX2) (N := 4) (ci := 4) (k := 1) (index := 18) (i := 11) (r := 12) inGX2 rfl (by decide) fl_X2_18 (by decide) rfl rfl dX2_isRowSound_55 ?_
      refine lv_iload hx hcd dX2_isRowSound_58 (lv_at hl 6 rfl) ?_
      obtain ⟨i8, ho⟩ := gd_some ho
      refine g_iald hC hW (i := 12) (by decide) rfl i8 dX2_isRowSound_60 ?_
      refine lv_iload_n hx hcd dX2_isRowSound_61 rfl (lv_at hl 2 rfl) ?_
      refine lv_iload hx hcd dX2_isRowSound_62 (lv_at hl 6 rfl) ?_
      obtain ⟨r10, h9, ho⟩ := gb_some ho
      refine g_calli hW (g_runS (As := [.int y0, .int y4]) (rest := [.int (σ 12 y4.toNatClampNeg), .int y3, .int (σ 12 y2.toNatClampNeg), .ref (ad b)]) hC hW (c_X2_standIn l D y ad y0 y4 _ _ h9) ok_X2_55 ⟨rfl, rfl, Nat.le_of_ble_eq_true rfl, Nat.le_of_ble_eq_true rfl⟩ rfl hl.1 rfl (Nat.le_of_ble_eq_true rfl) dX2_isRowSound_64 ⟨Nat.zero_le _, Nat.zero_le _⟩) (fun H locs hW => ?_)
      obtain ⟨r12, h11, ho⟩ := gb_some ho
      refine g_calli hW (g_runV (As := [.int (σ 12 y2.toNatClampNeg), .int y3, .int (σ 12 y4.toNatClampNeg), .int r10]) (rest := []) (i := b) hC hW (c_X0_wouldClash l D y ad hb (σ 12 y2.toNatClampNeg) y3 (σ 12 y4.toNatClampNeg) r10 _ _ h11) ok_X2_58 ⟨rfl, rfl, Nat.le_of_ble_eq_true rfl, Nat.le_of_ble_eq_true rfl⟩ (g_lt_air hb) (g_sh_air hb) rfl rfl rfl hl.1 rfl (Nat.le_of_ble_eq_true rfl) dX2_isRowSound_67 ⟨Nat.zero_le _, Nat.zero_le _⟩) (fun H locs hW => ?_)
      refine lv_if_eq (tgt := 75) hx hcd dX2_isRowSound_70 (by decide) (fun c13 => ?_) (fun c13 => ?_)
      · have ho := gif_p ho c13
        refine lv_iinc (v := y4 + 1) (lv' := [(6, .int (y4 + 1)), (0, .ref (ad 11)), (1, .ref (ad b)), (2, .int y0), (3, .int y1), (4, .int y2), (5, .int y3)]) hx hcd dX2_isRowSound_75 hl (k := 6) rfl rfl (by decide) rfl (fun ls hl => ?_)
        refine lv_goto (tgt := 37) hx hcd dX2_isRowSound_78 (by decide) ?_
        exact (hjmp _ (Option.some.inj ho).symm _ _ _ hW).2 rfl (lv_sub hl [1, 2, 3, 4, 5, 6, 0] rfl)
      · have ho := gif_n ho c13
        refine lv_iconst (v := 0) hx hcd dX2_isRowSound_73 (by decide) ?_
        obtain rfl := hret _ (Option.some.inj ho).symm
        exact g_zret (r := 0) hC hr hlk hsz hW (by decide) dX2_isRowSound_74
set_option maxHeartbeats 4000000 in
set_option maxRecDepth 100000 in
theorem c_X2_isRowSound (l : Launch) (D : va_G) (y : ClassId × ClassId × ClassId) (ad : Nat → Nat) {b : Nat} (hb : g_air b) (x2 : Int32) (x3 : Int32) (σ : gS) (sz : Nat) {q : Int32} (h : X2_isRowSound σ b x2 x3 = some q) : Met l yX2_isRowSound (Cond.code yX2_isRowSound cX2_isRowSound 7 (some .boolean) :: gl) ({ frames := 1, cells := 0, slots := 0, locals := 25 }) (g_Pc D y ad σ sz [.ref (ad 11), .ref (ad b), .int x2, .int x3]) (g_Qi D y ad σ sz q) 0 0 (g_A ad sz) := by
  have ho := h
  unfold X2_isRowSound at ho
  refine g_start (by decide) (Nat.le_of_ble_eq_true rfl) (fun p e s m below meth c ls hC hr hlk hsz hW hl => ?_)
  have hx := hC.1
  have hcd := hC.2.1
  have hl : lv_has ls 7 [(0, .ref (ad 11)), (1, .ref (ad b)), (2, .int x2), (3, .int x3)] := hl
  refine lv_iconst (v := 0) hx hcd dX2_isRowSound_0 (by decide) ?_
  refine lv_istore (lv' := [(4, .int 0), (0, .ref (ad 11)), (1, .ref (ad b)), (2, .int x2), (3, .int x3)]) hx hcd dX2_isRowSound_1 hl (by decide) rfl (fun ls hl => ?_)
  exact (l_X2_isRowSound l D y ad hb σ sz hC hr hlk hsz _ ho _ _ _ hW).1 rfl (lv_sub hl [1, 2, 3, 4, 0] rfl)
noncomputable def X2_trySet_k0 (σ : gS) (b : Nat) (x2 : Int32) (x3 : Int32) (x4 : Int32) : Option ((Nat × Int32 × Int32 × Int32 × gS) ⊕ (gS)) :=
  if x2 ≤ x4 then ((X1_isRestSound σ 19 x3).bind fun r4 => if r4 = 0 then (some (.inr σ)) else (some (.inl (1, x2, x3, 0, σ)))) else (gd (ib x4 3) <| some (.inl (0, x2, (x3 ||| ((1 : Int32) <<< ((σ 12 x4.toNatClampNeg) &&& 31))), (x4 + 1), σ)))
noncomputable def X2_trySet_k1 (σ : gS) (b : Nat) (x2 : Int32) (x3 : Int32) (x4 : Int32) : Option ((Nat × Int32 × Int32 × Int32 × gS) ⊕ (gS)) :=
  if x2 ≤ x4 then (some (.inl (2, x2, ((1 : Int32) <<< (((3 : Int32) * x2) &&& 31)), 0, σ))) else (gd (ib x4 3) <| (X1_freeFor σ 19 (σ 12 x4.toNatClampNeg) x3).bind fun r10 => lt_ (g_up σ 13 x4.toNatClampNeg r10) fun σ11 => if (σ11 13 x4.toNatClampNeg) = 0 then (some (.inr σ11)) else (some (.inl (1, x2, x3, (x4 + 1), σ11))))
noncomputable def X2_trySet_k2 (σ : gS) (b : Nat) (x2 : Int32) (x4 : Int32) (x5 : Int32) : Option ((Nat × Int32 × Int32 × Int32 × gS) ⊕ (gS)) :=
  if x4 ≤ x5 then (some (.inr σ)) else ((X2_isRowSound σ b x5 x2).bind fun r15 => if r15 = 0 then (some (.inl (2, x2, x4, (x5 + 1), σ))) else (lt_ (g_up σ 11 3 x2) fun σ17 => some (.inr σ17)))
noncomputable def X2_trySet_s (b : Nat) (a : Nat × Int32 × Int32 × Int32 × gS) : Option ((Nat × Int32 × Int32 × Int32 × gS) ⊕ (gS)) :=
  if a.1 = 0 then X2_trySet_k0 a.2.2.2.2 b a.2.1 a.2.2.1 a.2.2.2.1 else if a.1 = 1 then X2_trySet_k1 a.2.2.2.2 b a.2.1 a.2.2.1 a.2.2.2.1 else if a.1 = 2 then X2_trySet_k2 a.2.2.2.2 b a.2.1 a.2.2.1 a.2.2.2.1 else none
noncomputable def X2_trySet (σ : gS) (b : Nat) (x2 : Int32) : Option (gS) :=
  if x2 < (σ 11 3) then (gr (X2_trySet_s b) (0, x2, 0, 0, σ)) else (some σ)
set_option maxHeartbeats 4000000 in
set_option maxRecDepth 100000 in
theorem l_X2_trySet {p : Program} {e : Env} {s : State} {m : MethodId} {args : Array Value} {below : List Frame} {meth : Method} {c : Code} (l : Launch) (D : va_G) (y : ClassId × ClassId × ClassId) (ad : Nat → Nat) {b : Nat} (hb : g_air b) (sz : Nat) (hC : g_C p s m args c cX2_trySet 6 RX2 D y) (hr : meth.sig.returnType = none) (hlk : meth.locks = false) (hsz : s.heap.size = sz) {r0 : gS} : ∀ a : Nat × Int32 × Int32 × Int32 × gS, gr (X2_trySet_s b) a = some r0 → ∀ (H : Heap) (locs : List Loc) (ls : Array Slot), g_W (g_A ad sz) s.heap D y ad [] a.2.2.2.2 H locs → (a.1 = 0 → lv_has ls 6 [(0, .ref (ad 11)), (1, .ref (ad b)), (2, .int a.2.1), (3, .int a.2.2.1), (4, .int a.2.2.2.1)] → W p l e ({ frames := 2, cells := 0, slots := 0, locals := 51 }) s m args below meth c H locs 0 0 (MQ below (g_Qv D y ad r0 sz) args s 0 0 (g_A ad sz)) (F0 m 14 ls [])) ∧ (a.1 = 1 → lv_has ls 6 [(0, .ref (ad 11)), (1, .ref (ad b)), (2, .int a.2.1), (3, .int a.2.2.1), (4, .int a.2.2.2.1)] → W p l e ({ frames := 2, cells := 0, slots := 0, locals := 51 }) s m args below meth c H locs 0 0 (MQ below (g_Qv D y ad r0 sz) args s 0 0 (g_A ad sz)) (F0 m 53 ls [])) ∧ (a.1 = 2 → lv_has ls 6 [(0, .ref (ad 11)), (1, .ref (ad b)), (2, .int a.2.1), (4, .int a.2.2.1), (5, .int a.2.2.2.1)] → W p l e ({ frames := 2, cells := 0, slots := 0, locals := 51 }) s m args below meth c H locs 0 0 (MQ below (g_Qv D y ad r0 sz) args s 0 0 (g_A ad sz)) (F0 m 108 ls [])) := by
  have hx := hC.1
  have hcd := hC.2.1
  refine gr_all (fun a o ho hret hjmp => ?_)
  obtain ⟨lb, y0, y1, y2, σ⟩ := a
  intro H locs ls hW
  refine ⟨?_, ?_, ?_⟩
  · intro hlb hl
    have hlb : lb = 0 := hlb
    subst hlb
    have ho : X2_trySet_k0 σ b y0 y1 y2 = some o := ho
    unfold X2_trySet_k0 at ho
    have hl : lv_has ls 6 [(0, .ref (ad 11)), (1, .ref (ad b)), (2, .int y0), (3, .int y1), (4, .int y2)] := hl
    have hW : g_W (g_A ad sz) s.heap D y ad [] σ H locs := hW
    refine lv_iload hx hcd dX2_trySet_14 (lv_at hl 4 rfl) ?_
    refine lv_iload_n hx hcd dX2_trySet_16 rfl (lv_at hl 2 rfl) ?_
    refine lv_icmp_ge (tgt := 38) hx hcd dX2_trySet_17 (by decide) (fun c2 => ?_) (fun c2 => ?_)
    · have ho := gif_p ho c2
      refine lv_aload_n hx hcd dX2_trySet_38 rfl (lv_at hl 0 rfl) ?_
      refine g_getr hC hW (C := RX2) (T := TX2) (N := 4) (ci := 4) (k := 0) (index := 12) (i := 11) (r := 19) inGX2 rfl (by decide) fl_X2_12 (by decide) rfl rfl dX2_trySet_39 ?_
      refine lv_iload_n hx hcd dX2_trySet_42 rfl (lv_at hl 3 rfl) ?_
      obtain ⟨r4, h3, ho⟩ := gb_some ho
      refine g_calli hW (g_runV (As := [.int y1]) (rest := []) (i := 19) hC hW (c_X1_isRestSound l D y ad g_cla19 y1 _ _ h3) ok_X2_43 ⟨rfl, rfl, Nat.le_of_ble_eq_true rfl, Nat.le_of_ble_eq_true rfl⟩ (g_lt_cla (j := 0) g_cla19 (by decide)) (g_sh_cla g_cla19) rfl rfl rfl hl.1 rfl (Nat.le_of_ble_eq_true rfl) dX2_trySet_43 ⟨Nat.zero_le _, Nat.zero_le _⟩) (fun H locs hW => ?_)
      refine lv_if_ne (tgt := 50) hx hcd dX2_trySet_46 (by decide) (fun c5 => ?_) (fun c5 => ?_)
      · have ho := gif_n ho c5
        refine lv_iconst (v := 0) hx hcd dX2_trySet_50 (by decide) ?_
        refine lv_istore (lv' := [(4, .int 0), (0, .ref (ad 11)), (1, .ref (ad b)), (2, .int y0), (3, .int y1)]) hx hcd dX2_trySet_51 hl (by decide) rfl (fun ls hl => ?_)
        exact (hjmp _ (Option.some.inj ho).symm _ _ _ hW).2.1 rfl (lv_sub hl [1, 2, 3, 4, 0] rfl)
      · have ho := gif_p ho c5
        obtain rfl := hret _ (Option.some.inj ho).symm
        exact g_vret hC hr hlk hsz hW dX2_trySet_49
    · have ho := gif_n ho c2
      refine lv_iload_n hx hcd dX2_trySet_20 rfl (lv_at hl 3 rfl) ?_
      refine lv_iconst (v := 1) hx hcd dX2_trySet_21 (by decide) ?_
      refine lv_aload_n hx hcd dX2_trySet_22 rfl (lv_at hl 0 rfl) ?_
      refine g_getr hC hW (C := RX2) (T := TX2) (N := 4) (ci := 4) (k := 1) (index := 18) (i := 11) (r := 12) inGX2 rfl (by decide) fl_X2_18 (by decide) rfl rfl dX2_trySet_23 ?_
      refine lv_iload hx hcd dX2_trySet_26 (lv_at hl 4 rfl) ?_
      obtain ⟨i6, ho⟩ := gd_some ho
      refine g_iald hC hW (i := 12) (by decide) rfl i6 dX2_trySet_28 ?_
      refine lv_ishl hx hcd dX2_trySet_29 ?_
      refine lv_ior hx hcd dX2_trySet_30 ?_
      refine lv_istore_n (lv' := [(3, .int (y1 ||| ((1 : Int32) <<< ((σ 12 y2.toNatClampNeg) &&& 31)))), (0, .ref (ad 11)), (1, .ref (ad b)), (2, .int y0), (4, .int y2)]) hx hcd dX2_trySet_31 rfl hl (by decide) rfl (fun ls hl => ?_)
      refine lv_iinc (v := y2 + 1) (lv' := [(4, .int (y2 + 1)), (3, .int (y1 ||| ((1 : Int32) <<< ((σ 12 y2.toNatClampNeg) &&& 31)))), (0, .ref (ad 11)), (1, .ref (ad b)), (2, .int y0)]) hx hcd dX2_trySet_32 hl (k := 4) rfl rfl (by decide) rfl (fun ls hl => ?_)
      refine lv_goto (tgt := 14) hx hcd dX2_trySet_35 (by decide) ?_
      exact (hjmp _ (Option.some.inj ho).symm _ _ _ hW).1 rfl (lv_sub hl [2, 3, 4, 1, 0] rfl)
  · intro hlb hl
    have hlb : lb = 1 := hlb
    subst hlb
    have ho : X2_trySet_k1 σ b y0 y1 y2 = some o := ho
    unfold X2_trySet_k1 at ho
    have hl : lv_has ls 6 [(0, .ref (ad 11)), (1, .ref (ad b)), (2, .int y0), (3, .int y1), (4, .int y2)] := hl
    have hW : g_W (g_A ad sz) s.heap D y ad [] σ H locs := hW
    refine lv_iload hx hcd dX2_trySet_53 (lv_at hl 4 rfl) ?_
    refine lv_iload_n hx hcd dX2_trySet_55 rfl (lv_at hl 2 rfl) ?_
    refine lv_icmp_ge (tgt := 98) hx hcd dX2_trySet_56 (by decide) (fun c7 => ?_) (fun c7 => ?_)
    · have ho := gif_p ho c7
      refine lv_iconst (v := 1) hx hcd dX2_trySet_98 (by decide) ?_
      refine lv_iconst (v := 3) hx hcd dX2_trySet_99 (by decide) ?_
      refine lv_iload_n hx hcd dX2_trySet_100 rfl (lv_at hl 2 rfl) ?_
      refine lv_imul hx hcd dX2_trySet_101 ?_
      refine lv_ishl hx hcd dX2_trySet_102 ?_
      refine lv_istore (lv' := [(4, .int ((1 : Int32) <<< (((3 : Int32) * y0) &&& 31))), (0, .ref (ad 11)), (1, .ref (ad b)), (2, .int y0), (3, .int y1)]) hx hcd dX2_trySet_103 hl (by decide) rfl (fun ls hl => ?_)
      refine lv_iconst (v := 0) hx hcd dX2_trySet_105 (by decide) ?_
      refine lv_istore (lv' := [(5, .int 0), (4, .int ((1 : Int32) <<< (((3 : Int32) * y0) &&& 31))), (0, .ref (ad 11)), (1, .ref (ad b)), (2, .int y0), (3, .int y1)]) hx hcd dX2_trySet_106 hl (by decide) rfl (fun ls hl => ?_)
      exact (hjmp _ (Option.some.inj ho).symm _ _ _ hW).2.2 rfl (lv_sub hl [2, 3, 4, 1, 0] rfl)
    · have ho := gif_n ho c7
      refine lv_aload_n hx hcd dX2_trySet_59 rfl (lv_at hl 0 rfl) ?_
      refine g_getr hC hW (C := RX2) (T := TX2) (N := 4) (ci := 4) (k := 2) (index := 22) (i := 11) (r := 13) inGX2 rfl (by decide) fl_X2_22 (by decide) rfl rfl dX2_trySet_60 ?_
      refine lv_iload hx hcd dX2_trySet_63 (lv_at hl 4 rfl) ?_
      refine lv_aload_n hx hcd dX2_trySet_65 rfl (lv_at hl 0 rfl) ?_
      refine g_getr hC hW (C := RX2) (T := TX2) (N := 4) (ci := 4) (k := 0) (index := 12) (i := 11) (r := 19) inGX2 rfl (by decide) fl_X2_12 (by decide) rfl rfl dX2_trySet_66 ?_
      refine lv_aload_n hx hcd dX2_trySet_69 rfl (lv_at hl 0 rfl) ?_
      refine g_getr hC hW (C := RX2) (T := TX2) (N := 4) (ci := 4) (k := 1) (index := 18) (i := 11) (r := 12) inGX2 rfl (by decide) fl_X2_18 (by decide) rfl rfl dX2_trySet_70 ?_
      refine lv_iload hx hcd dX2_trySet_73 (lv_at hl 4 rfl) ?_
      obtain ⟨i8, ho⟩ := gd_some ho
      refine g_iald hC hW (i := 12) (by decide) rfl i8 dX2_trySet_75 ?_
      refine lv_iload_n hx hcd dX2_trySet_76 rfl (lv_at hl 3 rfl) ?_
      obtain ⟨r10, h9, ho⟩ := gb_some ho
      refine g_calli hW (g_runV (As := [.int (σ 12 y2.toNatClampNeg), .int y1]) (rest := [.int y2, .ref (ad 13)]) (i := 19) hC hW (c_X1_freeFor l D y ad g_cla19 (σ 12 y2.toNatClampNeg) y1 _ _ h9) ok_X2_47 ⟨rfl, rfl, Nat.le_of_ble_eq_true rfl, Nat.le_of_ble_eq_true rfl⟩ (g_lt_cla (j := 0) g_cla19 (by decide)) (g_sh_cla g_cla19) rfl rfl rfl hl.1 rfl (Nat.le_of_ble_eq_true rfl) dX2_trySet_77 ⟨Nat.zero_le _, Nat.zero_le _⟩) (fun H locs hW => ?_)
      obtain ⟨σ11, eσ11, ho⟩ := lt_ex ho
      refine g_iast hC hW (i := 13) (by decide) rfl i8 dX2_trySet_80 (fun H locs hW => ?_)
      rw [← eσ11] at hW
      refine lv_aload_n hx hcd dX2_trySet_81 rfl (lv_at hl 0 rfl) ?_
      refine g_getr hC hW (C := RX2) (T := TX2) (N := 4) (ci := 4) (k := 2) (index := 22) (i := 11) (r := 13) inGX2 rfl (by decide) fl_X2_22 (by decide) rfl rfl dX2_trySet_82 ?_
      refine lv_iload hx hcd dX2_trySet_85 (lv_at hl 4 rfl) ?_
      refine g_iald hC hW (i := 13) (by decide) rfl i8 dX2_trySet_87 ?_
      refine lv_if_ne (tgt := 92) hx hcd dX2_trySet_88 (by decide) (fun c12 => ?_) (fun c12 => ?_)
      · have ho := gif_n ho c12
        refine lv_iinc (v := y2 + 1) (lv' := [(4, .int (y2 + 1)), (0, .ref (ad 11)), (1, .ref (ad b)), (2, .int y0), (3, .int y1)]) hx hcd dX2_trySet_92 hl (k := 4) rfl rfl (by decide) rfl (fun ls hl => ?_)
        refine lv_goto (tgt := 53) hx hcd dX2_trySet_95 (by decide) ?_
        exact (hjmp _ (Option.some.inj ho).symm _ _ _ hW).2.1 rfl (lv_sub hl [1, 2, 3, 4, 0] rfl)
      · have ho := gif_p ho c12
        obtain rfl := hret _ (Option.some.inj ho).symm
        exact g_vret hC hr hlk hsz hW dX2_trySet_91
  · intro hlb hl
    have hlb : lb = 2 := hlb
    subst hlb
    have ho : X2_trySet_k2 σ b y0 y1 y2 = some o := ho
    unfold X2_trySet_k2 at ho
    have hl : lv_has ls 6 [(0, .ref (ad 11)), (1, .ref (ad b)), (2, .int y0), (4, .int y1), (5, .int y2)] := hl
    have hW : g_W (g_A ad sz) s.heap D y ad [] σ H locs := hW
    refine lv_iload hx hcd dX2_trySet_108 (lv_at hl 4 rfl) ?_
    refine lv_iload hx hcd dX2_trySet_110 (lv_at hl 3 rfl) ?_
    refine lv_icmp_ge (tgt := 138) hx hcd dX2_trySet_112 (by decide) (fun c13 => ?_) (fun c13 => ?_)
    · have ho := gif_p ho c13
      obtain rfl := hret _ (Option.some.inj ho).symm
      exact g_vret hC hr hlk hsz hW dX2_trySet_138
    · have ho := gif_n ho c13
      refine lv_aload_n hx hcd dX2_trySet_115 rfl (lv_at hl 0 rfl) ?_
      refine lv_aload_n hx hcd dX2_trySet_116 rfl (lv_at hl 1 rfl) ?_
      refine lv_iload hx hcd dX2_trySet_117 (lv_at hl 4 rfl) ?_
      refine lv_iload_n hx hcd dX2_trySet_119 rfl (lv_at hl 2 rfl) ?_
      obtain ⟨r15, h14, ho⟩ := gb_some ho
      refine g_calli hW (g_runV (As := [.ref (ad b), .int y2, .int y0]) (rest := []) (i := 11) hC hW (c_X2_isRowSound l D y ad hb y2 y0 _ _ h14) ok_X2_51 ⟨rfl, rfl, Nat.le_of_ble_eq_true rfl, Nat.le_of_ble_eq_true rfl⟩ (by decide) rfl rfl rfl rfl hl.1 rfl (Nat.le_of_ble_eq_true rfl) dX2_trySet_120 ⟨Nat.zero_le _, Nat.zero_le _⟩) (fun H locs hW => ?_)
      refine lv_if_eq (tgt := 132) hx hcd dX2_trySet_123 (by decide) (fun c16 => ?_) (fun c16 => ?_)
      · have ho := gif_p ho c16
        refine lv_iinc (v := y2 + 1) (lv' := [(5, .int (y2 + 1)), (0, .ref (ad 11)), (1, .ref (ad b)), (2, .int y0), (4, .int y1)]) hx hcd dX2_trySet_132 hl (k := 4) rfl rfl (by decide) rfl (fun ls hl => ?_)
        refine lv_goto (tgt := 108) hx hcd dX2_trySet_135 (by decide) ?_
        exact (hjmp _ (Option.some.inj ho).symm _ _ _ hW).2.2 rfl (lv_sub hl [1, 2, 3, 4, 0] rfl)
      · have ho := gif_n ho c16
        refine lv_aload_n hx hcd dX2_trySet_126 rfl (lv_at hl 0 rfl) ?_
        refine lv_iload_n hx hcd dX2_trySet_127 rfl (lv_at hl 2 rfl) ?_
        obtain ⟨σ17, eσ17, ho⟩ := lt_ex ho
        refine g_puti hC hW (C := RX2) (T := TX2) (N := 4) (ci := 4) (k := 3) (index := 29) (i := 11) inGX2 tyX2 tyX2_ok nmX2 rfl (by decide) fl_X2_29 rfl (by decide) rfl rfl rfl rfl dX2_trySet_128 (fun H locs hW => ?_)
        rw [← eσ17] at hW
        obtain rfl := hret _ (Option.some.inj ho).symm
        exact g_vret hC hr hlk hsz hW dX2_trySet_131
set_option maxHeartbeats 4000000 in
set_option maxRecDepth 100000 in
theorem c_X2_trySet (l : Launch) (D : va_G) (y : ClassId × ClassId × ClassId) (ad : Nat → Nat) {b : Nat} (hb : g_air b) (x2 : Int32) (σ : gS) (sz : Nat) {q : gS} (h : X2_trySet σ b x2 = some q) : Met l yX2_trySet (Cond.code yX2_trySet cX2_trySet 6 none :: gl) ({ frames := 2, cells := 0, slots := 0, locals := 51 }) (g_Pc D y ad σ sz [.ref (ad 11), .ref (ad b), .int x2]) (g_Qv D y ad q sz) 0 0 (g_A ad sz) := by
  have ho := h
  unfold X2_trySet at ho
  refine g_start (by decide) (Nat.le_of_ble_eq_true rfl) (fun p e s m below meth c ls hC hr hlk hsz hW hl => ?_)
  have hx := hC.1
  have hcd := hC.2.1
  have hl : lv_has ls 6 [(0, .ref (ad 11)), (1, .ref (ad b)), (2, .int x2)] := hl
  refine lv_iload_n hx hcd dX2_trySet_0 rfl (lv_at hl 2 rfl) ?_
  refine lv_aload_n hx hcd dX2_trySet_1 rfl (lv_at hl 0 rfl) ?_
  refine g_geti hC hW (C := RX2) (T := TX2) (N := 4) (ci := 4) (k := 3) (index := 29) (i := 11) inGX2 rfl (by decide) fl_X2_29 (by decide) rfl rfl dX2_trySet_2 ?_
  refine lv_icmp_lt (tgt := 9) hx hcd dX2_trySet_5 (by decide) (fun c1 => ?_) (fun c1 => ?_)
  · have ho := gif_p ho c1
    refine lv_iconst (v := 0) hx hcd dX2_trySet_9 (by decide) ?_
    refine lv_istore_n (lv' := [(3, .int 0), (0, .ref (ad 11)), (1, .ref (ad b)), (2, .int x2)]) hx hcd dX2_trySet_10 rfl hl (by decide) rfl (fun ls hl => ?_)
    refine lv_iconst (v := 0) hx hcd dX2_trySet_11 (by decide) ?_
    refine lv_istore (lv' := [(4, .int 0), (3, .int 0), (0, .ref (ad 11)), (1, .ref (ad b)), (2, .int x2)]) hx hcd dX2_trySet_12 hl (by decide) rfl (fun ls hl => ?_)
    exact (l_X2_trySet l D y ad hb sz hC hr hlk hsz _ ho _ _ _ hW).1 rfl (lv_sub hl [2, 3, 4, 1, 0] rfl)
  · have ho := gif_n ho c1
    obtain rfl := Option.some.inj ho
    exact g_vret hC hr hlk hsz hW dX2_trySet_8
noncomputable def X2_least_k0 (σ : gS) (b : Nat) (x2 : Int32) : Option ((Nat × Int32 × Int32 × Int32 × gS) ⊕ (Int32 × gS)) :=
  if (σ 19 6) ≤ x2 then (some (.inr ((σ 11 3), σ))) else (gd (ib x2 20) <| lt_ (g_up σ 12 (0 : Int32).toNatClampNeg (σ (19 + 4) x2.toNatClampNeg)) fun σ8 => (X2_trySet σ8 b 1).bind fun σ10 => some (.inl (1, x2, (x2 + (1 : Int32)), 0, σ10)))
noncomputable def X2_least_k1 (σ : gS) (b : Nat) (x2 : Int32) (x3 : Int32) : Option ((Nat × Int32 × Int32 × Int32 × gS) ⊕ (Int32 × gS)) :=
  if (σ 19 6) ≤ x3 then (some (.inl (0, (x2 + 1), 0, 0, σ))) else (gd (ib x3 20) <| lt_ (g_up σ 12 (1 : Int32).toNatClampNeg (σ (19 + 4) x3.toNatClampNeg)) fun σ13 => (X2_trySet σ13 b 2).bind fun σ15 => some (.inl (2, x2, x3, (x3 + (1 : Int32)), σ15)))
noncomputable def X2_least_k2 (σ : gS) (b : Nat) (x2 : Int32) (x3 : Int32) (x4 : Int32) : Option ((Nat × Int32 × Int32 × Int32 × gS) ⊕ (Int32 × gS)) :=
  if (σ 19 6) ≤ x4 then (some (.inl (1, x2, (x3 + 1), 0, σ))) else (gd (ib x4 20) <| lt_ (g_up σ 12 (2 : Int32).toNatClampNeg (σ (19 + 4) x4.toNatClampNeg)) fun σ18 => (X2_trySet σ18 b 3).bind fun σ20 => some (.inl (2, x2, x3, (x4 + 1), σ20)))
noncomputable def X2_least_s (b : Nat) (a : Nat × Int32 × Int32 × Int32 × gS) : Option ((Nat × Int32 × Int32 × Int32 × gS) ⊕ (Int32 × gS)) :=
  if a.1 = 0 then X2_least_k0 a.2.2.2.2 b a.2.1 else if a.1 = 1 then X2_least_k1 a.2.2.2.2 b a.2.1 a.2.2.1 else if a.1 = 2 then X2_least_k2 a.2.2.2.2 b a.2.1 a.2.2.1 a.2.2.2.1 else none
noncomputable def X2_least (σ : gS) (b : Nat) : Option (Int32 × gS) :=
  (X1_lookAt σ 19 b).bind fun σ2 => lt_ (g_up σ2 11 3 4) fun σ3 => (X2_trySet σ3 b 0).bind fun σ5 => gr (X2_least_s b) (0, 0, 0, 0, σ5)
set_option maxHeartbeats 4000000 in
set_option maxRecDepth 100000 in
theorem l_X2_least {p : Program} {e : Env} {s : State} {m : MethodId} {args : Array Value} {below : List Frame} {meth : Method} {c : Code} (l : Launch) (D : va_G) (y : ClassId × ClassId × ClassId) (ad : Nat → Nat) {b : Nat} (hb : g_air b) (sz : Nat) (hC : g_C p s m args c cX2_least 5 RX2 D y) (hr : meth.sig.returnType = (some .int)) (hlk : meth.locks = false) (hsz : s.heap.size = sz) {r0 : Int32 × gS} : ∀ a : Nat × Int32 × Int32 × Int32 × gS, gr (X2_least_s b) a = some r0 → ∀ (H : Heap) (locs : List Loc) (ls : Array Slot), g_W (g_A ad sz) s.heap D y ad [] a.2.2.2.2 H locs → (a.1 = 0 → lv_has ls 5 [(0, .ref (ad 11)), (1, .ref (ad b)), (2, .int a.2.1)] → W p l e ({ frames := 4, cells := 0, slots := 0, locals := 96 }) s m args below meth c H locs 0 0 (MQ below (g_Qi D y ad r0.2 sz r0.1) args s 0 0 (g_A ad sz)) (F0 m 21 ls [])) ∧ (a.1 = 1 → lv_has ls 5 [(0, .ref (ad 11)), (1, .ref (ad b)), (2, .int a.2.1), (3, .int a.2.2.1)] → W p l e ({ frames := 4, cells := 0, slots := 0, locals := 96 }) s m args below meth c H locs 0 0 (MQ below (g_Qi D y ad r0.2 sz r0.1) args s 0 0 (g_A ad sz)) (F0 m 57 ls [])) ∧ (a.1 = 2 → lv_has ls 5 [(0, .ref (ad 11)), (1, .ref (ad b)), (2, .int a.2.1), (3, .int a.2.2.1), (4, .int a.2.2.2.1)] → W p l e ({ frames := 4, cells := 0, slots := 0, locals := 96 }) s m args below meth c H locs 0 0 (MQ below (g_Qi D y ad r0.2 sz r0.1) args s 0 0 (g_A ad sz)) (F0 m 94 ls [])) := by
  have hx := hC.1
  have hcd := hC.2.1
  refine gr_all (fun a o ho hret hjmp => ?_)
  obtain ⟨lb, y0, y1, y2, σ⟩ := a
  intro H locs ls hW
  refine ⟨?_, ?_, ?_⟩
  · intro hlb hl
    have hlb : lb = 0 := hlb
    subst hlb
    have ho : X2_least_k0 σ b y0 = some o := ho
    unfold X2_least_k0 at ho
    have hl : lv_has ls 5 [(0, .ref (ad 11)), (1, .ref (ad b)), (2, .int y0)] := hl
    have hW : g_W (g_A ad sz) s.heap D y ad [] σ H locs := hW
    refine lv_iload_n hx hcd dX2_least_21 rfl (lv_at hl 2 rfl) ?_
    refine lv_aload_n hx hcd dX2_least_22 rfl (lv_at hl 0 rfl) ?_
    refine g_getr hC hW (C := RX2) (T := TX2) (N := 4) (ci := 4) (k := 0) (index := 12) (i := 11) (r := 19) inGX2 rfl (by decide) fl_X2_12 (by decide) rfl rfl dX2_least_23 ?_
    refine g_geti hC hW (C := RX1) (T := TX1) (N := 7) (ci := 3) (k := 6) (index := 37) (i := 19) inGX1 rfl (by decide) fl_X2_37 (g_lt_cla (j := 0) g_cla19 (by decide)) (g_sh_cla g_cla19) rfl dX2_least_26 ?_
    refine lv_icmp_ge (tgt := 146) hx hcd dX2_least_29 (by decide) (fun c6 => ?_) (fun c6 => ?_)
    · have ho := gif_p ho c6
      refine lv_aload_n hx hcd dX2_least_146 rfl (lv_at hl 0 rfl) ?_
      refine g_geti hC hW (C := RX2) (T := TX2) (N := 4) (ci := 4) (k := 3) (index := 29) (i := 11) inGX2 rfl (by decide) fl_X2_29 (by decide) rfl rfl dX2_least_147 ?_
      obtain rfl := hret _ (Option.some.inj ho).symm
      exact g_iret hC hr hlk hsz hW dX2_least_150
    · have ho := gif_n ho c6
      refine lv_aload_n hx hcd dX2_least_32 rfl (lv_at hl 0 rfl) ?_
      refine g_getr hC hW (C := RX2) (T := TX2) (N := 4) (ci := 4) (k := 1) (index := 18) (i := 11) (r := 12) inGX2 rfl (by decide) fl_X2_18 (by decide) rfl rfl dX2_least_33 ?_
      refine lv_iconst (v := 0) hx hcd dX2_least_36 (by decide) ?_
      refine lv_aload_n hx hcd dX2_least_37 rfl (lv_at hl 0 rfl) ?_
      refine g_getr hC hW (C := RX2) (T := TX2) (N := 4) (ci := 4) (k := 0) (index := 12) (i := 11) (r := 19) inGX2 rfl (by decide) fl_X2_12 (by decide) rfl rfl dX2_least_38 ?_
      refine g_getr hC hW (C := RX1) (T := TX1) (N := 7) (ci := 3) (k := 3) (index := 40) (i := 19) (r := (19 + 4)) inGX1 rfl (by decide) fl_X2_40 (g_lt_cla (j := 0) g_cla19 (by decide)) (g_sh_cla g_cla19) rfl dX2_least_41 ?_
      refine lv_iload_n hx hcd dX2_least_44 rfl (lv_at hl 2 rfl) ?_
      obtain ⟨i7, ho⟩ := gd_some ho
      refine g_iald hC hW (i := (19 + 4)) (g_lt_cla (j := 4) g_cla19 (by decide)) (g_sc4 g_cla19) i7 dX2_least_45 ?_
      obtain ⟨σ8, eσ8, ho⟩ := lt_ex ho
      refine g_iast hC hW (i := 12) (by decide) rfl (by decide) dX2_least_46 (fun H locs hW => ?_)
      rw [← eσ8] at hW
      refine lv_aload_n hx hcd dX2_least_47 rfl (lv_at hl 0 rfl) ?_
      refine lv_aload_n hx hcd dX2_least_48 rfl (lv_at hl 1 rfl) ?_
      refine lv_iconst (v := 1) hx hcd dX2_least_49 (by decide) ?_
      obtain ⟨σ10, h9, ho⟩ := gb_some ho
      refine g_callv hW (g_runV (As := [.ref (ad b), .int 1]) (rest := []) (i := 11) hC hW (c_X2_trySet l D y ad hb 1 _ _ h9) ok_X2_33 ⟨rfl, rfl, Nat.le_of_ble_eq_true rfl, Nat.le_of_ble_eq_true rfl⟩ (by decide) rfl rfl rfl rfl hl.1 rfl (Nat.le_of_ble_eq_true rfl) dX2_least_50 ⟨Nat.zero_le _, Nat.zero_le _⟩) (fun H locs hW => ?_)
      refine lv_iload_n hx hcd dX2_least_53 rfl (lv_at hl 2 rfl) ?_
      refine lv_iconst (v := 1) hx hcd dX2_least_54 (by decide) ?_
      refine lv_iadd hx hcd dX2_least_55 ?_
      refine lv_istore_n (lv' := [(3, .int (y0 + (1 : Int32))), (0, .ref (ad 11)), (1, .ref (ad b)), (2, .int y0)]) hx hcd dX2_least_56 rfl hl (by decide) rfl (fun ls hl => ?_)
      exact (hjmp _ (Option.some.inj ho).symm _ _ _ hW).2.1 rfl (lv_sub hl [1, 2, 3, 0] rfl)
  · intro hlb hl
    have hlb : lb = 1 := hlb
    subst hlb
    have ho : X2_least_k1 σ b y0 y1 = some o := ho
    unfold X2_least_k1 at ho
    have hl : lv_has ls 5 [(0, .ref (ad 11)), (1, .ref (ad b)), (2, .int y0), (3, .int y1)] := hl
    have hW : g_W (g_A ad sz) s.heap D y ad [] σ H locs := hW
    refine lv_iload_n hx hcd dX2_least_57 rfl (lv_at hl 3 rfl) ?_
    refine lv_aload_n hx hcd dX2_least_58 rfl (lv_at hl 0 rfl) ?_
    refine g_getr hC hW (C := RX2) (T := TX2) (N := 4) (ci := 4) (k := 0) (index := 12) (i := 11) (r := 19) inGX2 rfl (by decide) fl_X2_12 (by decide) rfl rfl dX2_least_59 ?_
    refine g_geti hC hW (C := RX1) (T := TX1) (N := 7) (ci := 3) (k := 6) (index := 37) (i := 19) inGX1 rfl (by decide) fl_X2_37 (g_lt_cla (j := 0) g_cla19 (by decide)) (g_sh_cla g_cla19) rfl dX2_least_62 ?_
    refine lv_icmp_ge (tgt := 140) hx hcd dX2_least_65 (by decide) (fun c11 => ?_) (fun c11 => ?_)
    · have ho := gif_p ho c11
      refine lv_iinc (v := y0 + 1) (lv' := [(2, .int (y0 + 1)), (0, .ref (ad 11)), (1, .ref (ad b)), (3, .int y1)]) hx hcd dX2_least_140 hl (k := 2) rfl rfl (by decide) rfl (fun ls hl => ?_)
      refine lv_goto (tgt := 21) hx hcd dX2_least_143 (by decide) ?_
      exact (hjmp _ (Option.some.inj ho).symm _ _ _ hW).1 rfl (lv_sub hl [1, 2, 0] rfl)
    · have ho := gif_n ho c11
      refine lv_aload_n hx hcd dX2_least_68 rfl (lv_at hl 0 rfl) ?_
      refine g_getr hC hW (C := RX2) (T := TX2) (N := 4) (ci := 4) (k := 1) (index := 18) (i := 11) (r := 12) inGX2 rfl (by decide) fl_X2_18 (by decide) rfl rfl dX2_least_69 ?_
      refine lv_iconst (v := 1) hx hcd dX2_least_72 (by decide) ?_
      refine lv_aload_n hx hcd dX2_least_73 rfl (lv_at hl 0 rfl) ?_
      refine g_getr hC hW (C := RX2) (T := TX2) (N := 4) (ci := 4) (k := 0) (index := 12) (i := 11) (r := 19) inGX2 rfl (by decide) fl_X2_12 (by decide) rfl rfl dX2_least_74 ?_
      refine g_getr hC hW (C := RX1) (T := TX1) (N := 7) (ci := 3) (k := 3) (index := 40) (i := 19) (r := (19 + 4)) inGX1 rfl (by decide) fl_X2_40 (g_lt_cla (j := 0) g_cla19 (by decide)) (g_sh_cla g_cla19) rfl dX2_least_77 ?_
      refine lv_iload_n hx hcd dX2_least_80 rfl (lv_at hl 3 rfl) ?_
      obtain ⟨i12, ho⟩ := gd_some ho
      refine g_iald hC hW (i := (19 + 4)) (g_lt_cla (j := 4) g_cla19 (by decide)) (g_sc4 g_cla19) i12 dX2_least_81 ?_
      obtain ⟨σ13, eσ13, ho⟩ := lt_ex ho
      refine g_iast hC hW (i := 12) (by decide) rfl (by decide) dX2_least_82 (fun H locs hW => ?_)
      rw [← eσ13] at hW
      refine lv_aload_n hx hcd dX2_least_83 rfl (lv_at hl 0 rfl) ?_
      refine lv_aload_n hx hcd dX2_least_84 rfl (lv_at hl 1 rfl) ?_
      refine lv_iconst (v := 2) hx hcd dX2_least_85 (by decide) ?_
      obtain ⟨σ15, h14, ho⟩ := gb_some ho
      refine g_callv hW (g_runV (As := [.ref (ad b), .int 2]) (rest := []) (i := 11) hC hW (c_X2_trySet l D y ad hb 2 _ _ h14) ok_X2_33 ⟨rfl, rfl, Nat.le_of_ble_eq_true rfl, Nat.le_of_ble_eq_true rfl⟩ (by decide) rfl rfl rfl rfl hl.1 rfl (Nat.le_of_ble_eq_true rfl) dX2_least_86 ⟨Nat.zero_le _, Nat.zero_le _⟩) (fun H locs hW => ?_)
      refine lv_iload_n hx hcd dX2_least_89 rfl (lv_at hl 3 rfl) ?_
      refine lv_iconst (v := 1) hx hcd dX2_least_90 (by decide) ?_
      refine lv_iadd hx hcd dX2_least_91 ?_
      refine lv_istore (lv' := [(4, .int (y1 + (1 : Int32))), (0, .ref (ad 11)), (1, .ref (ad b)), (2, .int y0), (3, .int y1)]) hx hcd dX2_least_92 hl (by decide) rfl (fun ls hl => ?_)
      exact (hjmp _ (Option.some.inj ho).symm _ _ _ hW).2.2 rfl (lv_sub hl [1, 2, 3, 4, 0] rfl)
  · intro hlb hl
    have hlb : lb = 2 := hlb
    subst hlb
    have ho : X2_least_k2 σ b y0 y1 y2 = some o := ho
    unfold X2_least_k2 at ho
    have hl : lv_has ls 5 [(0, .ref (ad 11)), (1, .ref (ad b)), (2, .int y0), (3, .int y1), (4, .int y2)] := hl
    have hW : g_W (g_A ad sz) s.heap D y ad [] σ H locs := hW
    refine lv_iload hx hcd dX2_least_94 (lv_at hl 4 rfl) ?_
    refine lv_aload_n hx hcd dX2_least_96 rfl (lv_at hl 0 rfl) ?_
    refine g_getr hC hW (C := RX2) (T := TX2) (N := 4) (ci := 4) (k := 0) (index := 12) (i := 11) (r := 19) inGX2 rfl (by decide) fl_X2_12 (by decide) rfl rfl dX2_least_97 ?_
    refine g_geti hC hW (C := RX1) (T := TX1) (N := 7) (ci := 3) (k := 6) (index := 37) (i := 19) inGX1 rfl (by decide) fl_X2_37 (g_lt_cla (j := 0) g_cla19 (by decide)) (g_sh_cla g_cla19) rfl dX2_least_100 ?_
    refine lv_icmp_ge (tgt := 134) hx hcd dX2_least_103 (by decide) (fun c16 => ?_) (fun c16 => ?_)
    · have ho := gif_p ho c16
      refine lv_iinc (v := y1 + 1) (lv' := [(3, .int (y1 + 1)), (0, .ref (ad 11)), (1, .ref (ad b)), (2, .int y0), (4, .int y2)]) hx hcd dX2_least_134 hl (k := 3) rfl rfl (by decide) rfl (fun ls hl => ?_)
      refine lv_goto (tgt := 57) hx hcd dX2_least_137 (by decide) ?_
      exact (hjmp _ (Option.some.inj ho).symm _ _ _ hW).2.1 rfl (lv_sub hl [1, 2, 3, 0] rfl)
    · have ho := gif_n ho c16
      refine lv_aload_n hx hcd dX2_least_106 rfl (lv_at hl 0 rfl) ?_
      refine g_getr hC hW (C := RX2) (T := TX2) (N := 4) (ci := 4) (k := 1) (index := 18) (i := 11) (r := 12) inGX2 rfl (by decide) fl_X2_18 (by decide) rfl rfl dX2_least_107 ?_
      refine lv_iconst (v := 2) hx hcd dX2_least_110 (by decide) ?_
      refine lv_aload_n hx hcd dX2_least_111 rfl (lv_at hl 0 rfl) ?_
      refine g_getr hC hW (C := RX2) (T := TX2) (N := 4) (ci := 4) (k := 0) (index := 12) (i := 11) (r := 19) inGX2 rfl (by decide) fl_X2_12 (by decide) rfl rfl dX2_least_112 ?_
      refine g_getr hC hW (C := RX1) (T := TX1) (N := 7) (ci := 3) (k := 3) (index := 40) (i := 19) (r := (19 + 4)) inGX1 rfl (by decide) fl_X2_40 (g_lt_cla (j := 0) g_cla19 (by decide)) (g_sh_cla g_cla19) rfl dX2_least_115 ?_
      refine lv_iload hx hcd dX2_least_118 (lv_at hl 4 rfl) ?_
      obtain ⟨i17, ho⟩ := gd_some ho
      refine g_iald hC hW (i := (19 + 4)) (g_lt_cla (j := 4) g_cla19 (by decide)) (g_sc4 g_cla19) i17 dX2_least_120 ?_
      obtain ⟨σ18, eσ18, ho⟩ := lt_ex ho
      refine g_iast hC hW (i := 12) (by decide) rfl (by decide) dX2_least_121 (fun H locs hW => ?_)
      rw [← eσ18] at hW
      refine lv_aload_n hx hcd dX2_least_122 rfl (lv_at hl 0 rfl) ?_
      refine lv_aload_n hx hcd dX2_least_123 rfl (lv_at hl 1 rfl) ?_
      refine lv_iconst (v := 3) hx hcd dX2_least_124 (by decide) ?_
      obtain ⟨σ20, h19, ho⟩ := gb_some ho
      refine g_callv hW (g_runV (As := [.ref (ad b), .int 3]) (rest := []) (i := 11) hC hW (c_X2_trySet l D y ad hb 3 _ _ h19) ok_X2_33 ⟨rfl, rfl, Nat.le_of_ble_eq_true rfl, Nat.le_of_ble_eq_true rfl⟩ (by decide) rfl rfl rfl rfl hl.1 rfl (Nat.le_of_ble_eq_true rfl) dX2_least_125 ⟨Nat.zero_le _, Nat.zero_le _⟩) (fun H locs hW => ?_)
      refine lv_iinc (v := y2 + 1) (lv' := [(4, .int (y2 + 1)), (0, .ref (ad 11)), (1, .ref (ad b)), (2, .int y0), (3, .int y1)]) hx hcd dX2_least_128 hl (k := 4) rfl rfl (by decide) rfl (fun ls hl => ?_)
      refine lv_goto (tgt := 94) hx hcd dX2_least_131 (by decide) ?_
      exact (hjmp _ (Option.some.inj ho).symm _ _ _ hW).2.2 rfl (lv_sub hl [1, 2, 3, 4, 0] rfl)
set_option maxHeartbeats 4000000 in
set_option maxRecDepth 100000 in
theorem c_X2_least (l : Launch) (D : va_G) (y : ClassId × ClassId × ClassId) (ad : Nat → Nat) {b : Nat} (hb : g_air b) (σ : gS) (sz : Nat) {q : Int32 × gS} (h : X2_least σ b = some q) : Met l yX2_least (Cond.code yX2_least cX2_least 5 (some .int) :: gl) ({ frames := 4, cells := 0, slots := 0, locals := 96 }) (g_Pc D y ad σ sz [.ref (ad 11), .ref (ad b)]) (g_Qi D y ad q.2 sz q.1) 0 0 (g_A ad sz) := by
  have ho := h
  unfold X2_least at ho
  refine g_start (by decide) (Nat.le_of_ble_eq_true rfl) (fun p e s m below meth c ls hC hr hlk hsz hW hl => ?_)
  have hx := hC.1
  have hcd := hC.2.1
  have hl : lv_has ls 5 [(0, .ref (ad 11)), (1, .ref (ad b))] := hl
  refine lv_aload_n hx hcd dX2_least_0 rfl (lv_at hl 0 rfl) ?_
  refine g_getr hC hW (C := RX2) (T := TX2) (N := 4) (ci := 4) (k := 0) (index := 12) (i := 11) (r := 19) inGX2 rfl (by decide) fl_X2_12 (by decide) rfl rfl dX2_least_1 ?_
  refine lv_aload_n hx hcd dX2_least_4 rfl (lv_at hl 1 rfl) ?_
  obtain ⟨σ2, h1, ho⟩ := gb_some ho
  refine g_callv hW (g_runV (As := [.ref (ad b)]) (rest := []) (i := 19) hC hW (c_X1_lookAt l D y ad g_cla19 hb _ _ h1) ok_X2_25 ⟨rfl, rfl, Nat.le_of_ble_eq_true rfl, Nat.le_of_ble_eq_true rfl⟩ (g_lt_cla (j := 0) g_cla19 (by decide)) (g_sh_cla g_cla19) rfl rfl rfl hl.1 rfl (Nat.le_of_ble_eq_true rfl) dX2_least_5 ⟨Nat.zero_le _, Nat.zero_le _⟩) (fun H locs hW => ?_)
  refine lv_aload_n hx hcd dX2_least_8 rfl (lv_at hl 0 rfl) ?_
  refine lv_iconst (v := 4) hx hcd dX2_least_9 (by decide) ?_
  obtain ⟨σ3, eσ3, ho⟩ := lt_ex ho
  refine g_puti hC hW (C := RX2) (T := TX2) (N := 4) (ci := 4) (k := 3) (index := 29) (i := 11) inGX2 tyX2 tyX2_ok nmX2 rfl (by decide) fl_X2_29 rfl (by decide) rfl rfl rfl rfl dX2_least_10 (fun H locs hW => ?_)
  rw [← eσ3] at hW
  refine lv_aload_n hx hcd dX2_least_13 rfl (lv_at hl 0 rfl) ?_
  refine lv_aload_n hx hcd dX2_least_14 rfl (lv_at hl 1 rfl) ?_
  refine lv_iconst (v := 0) hx hcd dX2_least_15 (by decide) ?_
  obtain ⟨σ5, h4, ho⟩ := gb_some ho
  refine g_callv hW (g_runV (As := [.ref (ad b), .int 0]) (rest := []) (i := 11) hC hW (c_X2_trySet l D y ad hb 0 _ _ h4) ok_X2_33 ⟨rfl, rfl, Nat.le_of_ble_eq_true rfl, Nat.le_of_ble_eq_true rfl⟩ (by decide) rfl rfl rfl rfl hl.1 rfl (Nat.le_of_ble_eq_true rfl) dX2_least_16 ⟨Nat.zero_le _, Nat.zero_le _⟩) (fun H locs hW => ?_)
  refine lv_iconst (v := 0) hx hcd dX2_least_19 (by decide) ?_
  refine lv_istore_n (lv' := [(2, .int 0), (0, .ref (ad 11)), (1, .ref (ad b))]) hx hcd dX2_least_20 rfl hl (by decide) rfl (fun ls hl => ?_)
  exact (l_X2_least l D y ad hb sz hC hr hlk hsz _ ho _ _ _ hW).1 rfl (lv_sub hl [1, 2, 0] rfl)
noncomputable def X3_canBeMoved_k0 (σ : gS) (x1 : Int32) (x2 : Int32) : Option ((Nat × Int32 × Int32 × gS) ⊕ (Int32 × gS)) :=
  if (σ 7 4) ≤ x2 then ((X1_isRestSound σ 14 x1).bind fun r3 => if r3 = 0 then (some (.inr (0, σ))) else (some (.inl (1, x1, 0, σ)))) else (gd (ib x2 3) <| some (.inl (0, (x1 ||| ((1 : Int32) <<< ((σ 9 x2.toNatClampNeg) &&& 31))), (x2 + 1), σ)))
noncomputable def X3_canBeMoved_k1 (σ : gS) (x1 : Int32) (x2 : Int32) : Option ((Nat × Int32 × Int32 × gS) ⊕ (Int32 × gS)) :=
  if (σ 7 4) ≤ x2 then (some (.inr (1, σ))) else (gd (ib x2 3) <| (X1_freeFor σ 14 (σ 9 x2.toNatClampNeg) x1).bind fun r9 => lt_ (g_up σ 8 x2.toNatClampNeg r9) fun σ10 => if (σ10 8 x2.toNatClampNeg) = 0 then (some (.inr (0, σ10))) else (some (.inl (1, x1, (x2 + 1), σ10))))
noncomputable def X3_canBeMoved_s (a : Nat × Int32 × Int32 × gS) : Option ((Nat × Int32 × Int32 × gS) ⊕ (Int32 × gS)) :=
  if a.1 = 0 then X3_canBeMoved_k0 a.2.2.2 a.2.1 a.2.2.1 else if a.1 = 1 then X3_canBeMoved_k1 a.2.2.2 a.2.1 a.2.2.1 else none
noncomputable def X3_canBeMoved (σ : gS) : Option (Int32 × gS) :=
  gr (X3_canBeMoved_s) (0, 0, 0, σ)
set_option maxHeartbeats 4000000 in
set_option maxRecDepth 100000 in
theorem l_X3_canBeMoved {p : Program} {e : Env} {s : State} {m : MethodId} {args : Array Value} {below : List Frame} {meth : Method} {c : Code} (l : Launch) (D : va_G) (y : ClassId × ClassId × ClassId) (ad : Nat → Nat) (sz : Nat) (hC : g_C p s m args c cX3_canBeMoved 3 RX3 D y) (hr : meth.sig.returnType = (some .boolean)) (hlk : meth.locks = false) (hsz : s.heap.size = sz) {r0 : Int32 × gS} : ∀ a : Nat × Int32 × Int32 × gS, gr (X3_canBeMoved_s) a = some r0 → ∀ (H : Heap) (locs : List Loc) (ls : Array Slot), g_W (g_A ad sz) s.heap D y ad [] a.2.2.2 H locs → (a.1 = 0 → lv_has ls 3 [(0, .ref (ad 7)), (1, .int a.2.1), (2, .int a.2.2.1)] → W p l e ({ frames := 1, cells := 0, slots := 0, locals := 24 }) s m args below meth c H locs 0 0 (MQ below (g_Qi D y ad r0.2 sz r0.1) args s 0 0 (g_A ad sz)) (F0 m 4 ls [])) ∧ (a.1 = 1 → lv_has ls 3 [(0, .ref (ad 7)), (1, .int a.2.1), (2, .int a.2.2.1)] → W p l e ({ frames := 1, cells := 0, slots := 0, locals := 24 }) s m args below meth c H locs 0 0 (MQ below (g_Qi D y ad r0.2 sz r0.1) args s 0 0 (g_A ad sz)) (F0 m 44 ls [])) := by
  have hx := hC.1
  have hcd := hC.2.1
  refine gr_all (fun a o ho hret hjmp => ?_)
  obtain ⟨lb, y0, y1, σ⟩ := a
  intro H locs ls hW
  refine ⟨?_, ?_⟩
  · intro hlb hl
    have hlb : lb = 0 := hlb
    subst hlb
    have ho : X3_canBeMoved_k0 σ y0 y1 = some o := ho
    unfold X3_canBeMoved_k0 at ho
    have hl : lv_has ls 3 [(0, .ref (ad 7)), (1, .int y0), (2, .int y1)] := hl
    have hW : g_W (g_A ad sz) s.heap D y ad [] σ H locs := hW
    refine lv_iload_n hx hcd dX3_canBeMoved_4 rfl (lv_at hl 2 rfl) ?_
    refine lv_aload_n hx hcd dX3_canBeMoved_5 rfl (lv_at hl 0 rfl) ?_
    refine g_geti hC hW (C := RX3) (T := TX3) (N := 5) (ci := 5) (k := 4) (index := 28) (i := 7) inGX3 rfl (by decide) fl_X3_28 (by decide) rfl rfl dX3_canBeMoved_6 ?_
    refine lv_icmp_ge (tgt := 29) hx hcd dX3_canBeMoved_9 (by decide) (fun c1 => ?_) (fun c1 => ?_)
    · have ho := gif_p ho c1
      refine lv_aload_n hx hcd dX3_canBeMoved_29 rfl (lv_at hl 0 rfl) ?_
      refine g_getr hC hW (C := RX3) (T := TX3) (N := 5) (ci := 5) (k := 0) (index := 12) (i := 7) (r := 14) inGX3 rfl (by decide) fl_X3_12 (by decide) rfl rfl dX3_canBeMoved_30 ?_
      refine lv_iload_n hx hcd dX3_canBeMoved_33 rfl (lv_at hl 1 rfl) ?_
      obtain ⟨r3, h2, ho⟩ := gb_some ho
      refine g_calli hW (g_runV (As := [.int y0]) (rest := []) (i := 14) hC hW (c_X1_isRestSound l D y ad g_cla14 y0 _ _ h2) ok_X3_59 ⟨rfl, rfl, Nat.le_of_ble_eq_true rfl, Nat.le_of_ble_eq_true rfl⟩ (g_lt_cla (j := 0) g_cla14 (by decide)) (g_sh_cla g_cla14) rfl rfl rfl hl.1 rfl (Nat.le_of_ble_eq_true rfl) dX3_canBeMoved_34 ⟨Nat.zero_le _, Nat.zero_le _⟩) (fun H locs hW => ?_)
      refine lv_if_ne (tgt := 42) hx hcd dX3_canBeMoved_37 (by decide) (fun c4 => ?_) (fun c4 => ?_)
      · have ho := gif_n ho c4
        refine lv_iconst (v := 0) hx hcd dX3_canBeMoved_42 (by decide) ?_
        refine lv_istore_n (lv' := [(2, .int 0), (0, .ref (ad 7)), (1, .int y0)]) hx hcd dX3_canBeMoved_43 rfl hl (by decide) rfl (fun ls hl => ?_)
        exact (hjmp _ (Option.some.inj ho).symm _ _ _ hW).2 rfl (lv_sub hl [1, 2, 0] rfl)
      · have ho := gif_p ho c4
        refine lv_iconst (v := 0) hx hcd dX3_canBeMoved_40 (by decide) ?_
        obtain rfl := hret _ (Option.some.inj ho).symm
        exact g_zret (r := 0) hC hr hlk hsz hW (by decide) dX3_canBeMoved_41
    · have ho := gif_n ho c1
      refine lv_iload_n hx hcd dX3_canBeMoved_12 rfl (lv_at hl 1 rfl) ?_
      refine lv_iconst (v := 1) hx hcd dX3_canBeMoved_13 (by decide) ?_
      refine lv_aload_n hx hcd dX3_canBeMoved_14 rfl (lv_at hl 0 rfl) ?_
      refine g_getr hC hW (C := RX3) (T := TX3) (N := 5) (ci := 5) (k := 2) (index := 22) (i := 7) (r := 9) inGX3 rfl (by decide) fl_X3_22 (by decide) rfl rfl dX3_canBeMoved_15 ?_
      refine lv_iload_n hx hcd dX3_canBeMoved_18 rfl (lv_at hl 2 rfl) ?_
      obtain ⟨i5, ho⟩ := gd_some ho
      refine g_iald hC hW (i := 9) (by decide) rfl i5 dX3_canBeMoved_19 ?_
      refine lv_ishl hx hcd dX3_canBeMoved_20 ?_
      refine lv_ior hx hcd dX3_canBeMoved_21 ?_
      refine lv_istore_n (lv' := [(1, .int (y0 ||| ((1 : Int32) <<< ((σ 9 y1.toNatClampNeg) &&& 31)))), (0, .ref (ad 7)), (2, .int y1)]) hx hcd dX3_canBeMoved_22 rfl hl (by decide) rfl (fun ls hl => ?_)
      refine lv_iinc (v := y1 + 1) (lv' := [(2, .int (y1 + 1)), (1, .int (y0 ||| ((1 : Int32) <<< ((σ 9 y1.toNatClampNeg) &&& 31)))), (0, .ref (ad 7))]) hx hcd dX3_canBeMoved_23 hl (k := 2) rfl rfl (by decide) rfl (fun ls hl => ?_)
      refine lv_goto (tgt := 4) hx hcd dX3_canBeMoved_26 (by decide) ?_
      exact (hjmp _ (Option.some.inj ho).symm _ _ _ hW).1 rfl (lv_sub hl [2, 1, 0] rfl)
  · intro hlb hl
    have hlb : lb = 1 := hlb
    subst hlb
    have ho : X3_canBeMoved_k1 σ y0 y1 = some o := ho
    unfold X3_canBeMoved_k1 at ho
    have hl : lv_has ls 3 [(0, .ref (ad 7)), (1, .int y0), (2, .int y1)] := hl
    have hW : g_W (g_A ad sz) s.heap D y ad [] σ H locs := hW
    refine lv_iload_n hx hcd dX3_canBeMoved_44 rfl (lv_at hl 2 rfl) ?_
    refine lv_aload_n hx hcd dX3_canBeMoved_45 rfl (lv_at hl 0 rfl) ?_
    refine g_geti hC hW (C := RX3) (T := TX3) (N := 5) (ci := 5) (k := 4) (index := 28) (i := 7) inGX3 rfl (by decide) fl_X3_28 (by decide) rfl rfl dX3_canBeMoved_46 ?_
    refine lv_icmp_ge (tgt := 89) hx hcd dX3_canBeMoved_49 (by decide) (fun c6 => ?_) (fun c6 => ?_)
    · have ho := gif_p ho c6
      refine lv_iconst (v := 1) hx hcd dX3_canBeMoved_89 (by decide) ?_
      obtain rfl := hret _ (Option.some.inj ho).symm
      exact g_zret (r := 1) hC hr hlk hsz hW (by decide) dX3_canBeMoved_90
    · have ho := gif_n ho c6
      refine lv_aload_n hx hcd dX3_canBeMoved_52 rfl (lv_at hl 0 rfl) ?_
      refine g_getr hC hW (C := RX3) (T := TX3) (N := 5) (ci := 5) (k := 1) (index := 18) (i := 7) (r := 8) inGX3 rfl (by decide) fl_X3_18 (by decide) rfl rfl dX3_canBeMoved_53 ?_
      refine lv_iload_n hx hcd dX3_canBeMoved_56 rfl (lv_at hl 2 rfl) ?_
      refine lv_aload_n hx hcd dX3_canBeMoved_57 rfl (lv_at hl 0 rfl) ?_
      refine g_getr hC hW (C := RX3) (T := TX3) (N := 5) (ci := 5) (k := 0) (index := 12) (i := 7) (r := 14) inGX3 rfl (by decide) fl_X3_12 (by decide) rfl rfl dX3_canBeMoved_58 ?_
      refine lv_aload_n hx hcd dX3_canBeMoved_61 rfl (lv_at hl 0 rfl) ?_
      refine g_getr hC hW (C := RX3) (T := TX3) (N := 5) (ci := 5) (k := 2) (index := 22) (i := 7) (r := 9) inGX3 rfl (by decide) fl_X3_22 (by decide) rfl rfl dX3_canBeMoved_62 ?_
      refine lv_iload_n hx hcd dX3_canBeMoved_65 rfl (lv_at hl 2 rfl) ?_
      obtain ⟨i7, ho⟩ := gd_some ho
      refine g_iald hC hW (i := 9) (by decide) rfl i7 dX3_canBeMoved_66 ?_
      refine lv_iload_n hx hcd dX3_canBeMoved_67 rfl (lv_at hl 1 rfl) ?_
      obtain ⟨r9, h8, ho⟩ := gb_some ho
      refine g_calli hW (g_runV (As := [.int (σ 9 y1.toNatClampNeg), .int y0]) (rest := [.int y1, .ref (ad 8)]) (i := 14) hC hW (c_X1_freeFor l D y ad g_cla14 (σ 9 y1.toNatClampNeg) y0 _ _ h8) ok_X3_63 ⟨rfl, rfl, Nat.le_of_ble_eq_true rfl, Nat.le_of_ble_eq_true rfl⟩ (g_lt_cla (j := 0) g_cla14 (by decide)) (g_sh_cla g_cla14) rfl rfl rfl hl.1 rfl (Nat.le_of_ble_eq_true rfl) dX3_canBeMoved_68 ⟨Nat.zero_le _, Nat.zero_le _⟩) (fun H locs hW => ?_)
      obtain ⟨σ10, eσ10, ho⟩ := lt_ex ho
      refine g_iast hC hW (i := 8) (by decide) rfl i7 dX3_canBeMoved_71 (fun H locs hW => ?_)
      rw [← eσ10] at hW
      refine lv_aload_n hx hcd dX3_canBeMoved_72 rfl (lv_at hl 0 rfl) ?_
      refine g_getr hC hW (C := RX3) (T := TX3) (N := 5) (ci := 5) (k := 1) (index := 18) (i := 7) (r := 8) inGX3 rfl (by decide) fl_X3_18 (by decide) rfl rfl dX3_canBeMoved_73 ?_
      refine lv_iload_n hx hcd dX3_canBeMoved_76 rfl (lv_at hl 2 rfl) ?_
      refine g_iald hC hW (i := 8) (by decide) rfl i7 dX3_canBeMoved_77 ?_
      refine lv_if_ne (tgt := 83) hx hcd dX3_canBeMoved_78 (by decide) (fun c11 => ?_) (fun c11 => ?_)
      · have ho := gif_n ho c11
        refine lv_iinc (v := y1 + 1) (lv' := [(2, .int (y1 + 1)), (0, .ref (ad 7)), (1, .int y0)]) hx hcd dX3_canBeMoved_83 hl (k := 2) rfl rfl (by decide) rfl (fun ls hl => ?_)
        refine lv_goto (tgt := 44) hx hcd dX3_canBeMoved_86 (by decide) ?_
        exact (hjmp _ (Option.some.inj ho).symm _ _ _ hW).2 rfl (lv_sub hl [1, 2, 0] rfl)
      · have ho := gif_p ho c11
        refine lv_iconst (v := 0) hx hcd dX3_canBeMoved_81 (by decide) ?_
        obtain rfl := hret _ (Option.some.inj ho).symm
        exact g_zret (r := 0) hC hr hlk hsz hW (by decide) dX3_canBeMoved_82
set_option maxHeartbeats 4000000 in
set_option maxRecDepth 100000 in
theorem c_X3_canBeMoved (l : Launch) (D : va_G) (y : ClassId × ClassId × ClassId) (ad : Nat → Nat) (σ : gS) (sz : Nat) {q : Int32 × gS} (h : X3_canBeMoved σ = some q) : Met l yX3_canBeMoved (Cond.code yX3_canBeMoved cX3_canBeMoved 3 (some .boolean) :: gl) ({ frames := 1, cells := 0, slots := 0, locals := 24 }) (g_Pc D y ad σ sz [.ref (ad 7)]) (g_Qi D y ad q.2 sz q.1) 0 0 (g_A ad sz) := by
  have ho := h
  unfold X3_canBeMoved at ho
  refine g_start (by decide) (Nat.le_of_ble_eq_true rfl) (fun p e s m below meth c ls hC hr hlk hsz hW hl => ?_)
  have hx := hC.1
  have hcd := hC.2.1
  have hl : lv_has ls 3 [(0, .ref (ad 7))] := hl
  refine lv_iconst (v := 0) hx hcd dX3_canBeMoved_0 (by decide) ?_
  refine lv_istore_n (lv' := [(1, .int 0), (0, .ref (ad 7))]) hx hcd dX3_canBeMoved_1 rfl hl (by decide) rfl (fun ls hl => ?_)
  refine lv_iconst (v := 0) hx hcd dX3_canBeMoved_2 (by decide) ?_
  refine lv_istore_n (lv' := [(2, .int 0), (1, .int 0), (0, .ref (ad 7))]) hx hcd dX3_canBeMoved_3 rfl hl (by decide) rfl (fun ls hl => ?_)
  exact (l_X3_canBeMoved l D y ad sz hC hr hlk hsz _ ho _ _ _ hW).1 rfl (lv_sub hl [2, 1, 0] rfl)
noncomputable def X3_agreesWithEarlier_k0 (σ : gS) (b : Nat) (x2 : Int32) (x3 : Int32) (x4 : Int32) : Option ((Int32 × Int32 × Int32) ⊕ (Int32)) :=
  if x2 ≤ x4 then (some (.inr 1)) else (gd (ib x2 3) <| gd (ib x4 3) <| (X0_wouldClash σ b (σ 9 x2.toNatClampNeg) x3 (σ 9 x4.toNatClampNeg) (σ 10 x4.toNatClampNeg)).bind fun r5 => if r5 = 0 then (some (.inl (x2, x3, (x4 + 1)))) else (some (.inr 0)))
noncomputable def X3_agreesWithEarlier_s (σ : gS) (b : Nat) (a : Int32 × Int32 × Int32) : Option ((Int32 × Int32 × Int32) ⊕ (Int32)) :=
  X3_agreesWithEarlier_k0 σ b a.1 a.2.1 a.2.2
noncomputable def X3_agreesWithEarlier (σ : gS) (b : Nat) (x2 : Int32) (x3 : Int32) : Option (Int32) :=
  gr (X3_agreesWithEarlier_s σ b) (x2, x3, 0)
set_option maxHeartbeats 4000000 in
set_option maxRecDepth 100000 in
theorem l_X3_agreesWithEarlier {p : Program} {e : Env} {s : State} {m : MethodId} {args : Array Value} {below : List Frame} {meth : Method} {c : Code} (l : Launch) (D : va_G) (y : ClassId × ClassId × ClassId) (ad : Nat → Nat) {b : Nat} (hb : g_air b) (σ : gS) (sz : Nat) (hC : g_C p s m args c cX3_agreesWithEarlier 5 RX3 D y) (hr : meth.sig.returnType = (some .boolean)) (hlk : meth.locks = false) (hsz : s.heap.size = sz) {r0 : Int32} : ∀ a : Int32 × Int32 × Int32, gr (X3_agreesWithEarlier_s σ b) a = some r0 → ∀ (H : Heap) (locs : List Loc) (ls : Array Slot), g_W (g_A ad sz) s.heap D y ad [] σ H locs → lv_has ls 5 [(0, .ref (ad 7)), (1, .ref (ad b)), (2, .int a.1), (3, .int a.2.1), (4, .int a.2.2)] → W p l e ({ frames := 1, cells := 0, slots := 0, locals := 25 }) s m args below meth c H locs 0 0 (MQ below (g_Qi D y ad σ sz r0) args s 0 0 (g_A ad sz)) (F0 m 3 ls []) := by
  have hx := hC.1
  have hcd := hC.2.1
  refine gr_all (fun a o ho hret hjmp => ?_)
  obtain ⟨x2, x3, x4⟩ := a
  intro H locs ls hW hl
  have ho : X3_agreesWithEarlier_k0 σ b x2 x3 x4 = some o := ho
  unfold X3_agreesWithEarlier_k0 at ho
  refine lv_iload hx hcd dX3_agreesWithEarlier_3 (lv_at hl 4 rfl) ?_
  refine lv_iload_n hx hcd dX3_agreesWithEarlier_5 rfl (lv_at hl 2 rfl) ?_
  refine lv_icmp_ge (tgt := 45) hx hcd dX3_agreesWithEarlier_6 (by decide) (fun c1 => ?_) (fun c1 => ?_)
  · have ho := gif_p ho c1
    refine lv_iconst (v := 1) hx hcd dX3_agreesWithEarlier_45 (by decide) ?_
    obtain rfl := hret _ (Option.some.inj ho).symm
    exact g_zret (r := 1) hC hr hlk hsz hW (by decide) dX3_agreesWithEarlier_46
  · have ho := gif_n ho c1
    refine lv_aload_n hx hcd dX3_agreesWithEarlier_9 rfl (lv_at hl 1 rfl) ?_
    refine lv_aload_n hx hcd dX3_agreesWithEarlier_10 rfl (lv_at hl 0 rfl) ?_
    refine g_getr hC hW (C := RX3) (T := TX3) (N := 5) (ci := 5) (k := 2) (index := 22) (i := 7) (r := 9) inGX3 rfl (by decide) fl_X3_22 (by decide) rfl rfl dX3_agreesWithEarlier_11 ?_
    refine lv_iload_n hx hcd dX3_agreesWithEarlier_14 rfl (lv_at hl 2 rfl) ?_
    obtain ⟨i2, ho⟩ := gd_some ho
    refine g_iald hC hW (i := 9) (by decide) rfl i2 dX3_agreesWithEarlier_15 ?_
    refine lv_iload_n hx hcd dX3_agreesWithEarlier_16 rfl (lv_at hl 3 rfl) ?_
    refine lv_aload_n hx hcd dX3_agreesWithEarlier_17 rfl (lv_at hl 0 rfl) ?_
    refine g_getr hC hW (C := RX3) (T := TX3) (N := 5) (ci := 5) (k := 2) (index := 22) (i := 7) (r := 9) inGX3 rfl (by decide) fl_X3_22 (by decide) rfl rfl dX3_agreesWithEarlier_18 ?_
    refine lv_iload hx hcd dX3_agreesWithEarlier_21 (lv_at hl 4 rfl) ?_
    obtain ⟨i3, ho⟩ := gd_some ho
    refine g_iald hC hW (i := 9) (by decide) rfl i3 dX3_agreesWithEarlier_23 ?_
    refine lv_aload_n hx hcd dX3_agreesWithEarlier_24 rfl (lv_at hl 0 rfl) ?_
    refine g_getr hC hW (C := RX3) (T := TX3) (N := 5) (ci := 5) (k := 3) (index := 25) (i := 7) (r := 10) inGX3 rfl (by decide) fl_X3_25 (by decide) rfl rfl dX3_agreesWithEarlier_25 ?_
    refine lv_iload hx hcd dX3_agreesWithEarlier_28 (lv_at hl 4 rfl) ?_
    refine g_iald hC hW (i := 10) (by decide) rfl i3 dX3_agreesWithEarlier_30 ?_
    obtain ⟨r5, h4, ho⟩ := gb_some ho
    refine g_calli hW (g_runV (As := [.int (σ 9 x2.toNatClampNeg), .int x3, .int (σ 9 x4.toNatClampNeg), .int (σ 10 x4.toNatClampNeg)]) (rest := []) (i := b) hC hW (c_X0_wouldClash l D y ad hb (σ 9 x2.toNatClampNeg) x3 (σ 9 x4.toNatClampNeg) (σ 10 x4.toNatClampNeg) _ _ h4) ok_X3_71 ⟨rfl, rfl, Nat.le_of_ble_eq_true rfl, Nat.le_of_ble_eq_true rfl⟩ (g_lt_air hb) (g_sh_air hb) rfl rfl rfl hl.1 rfl (Nat.le_of_ble_eq_true rfl) dX3_agreesWithEarlier_31 ⟨Nat.zero_le _, Nat.zero_le _⟩) (fun H locs hW => ?_)
    refine lv_if_eq (tgt := 39) hx hcd dX3_agreesWithEarlier_34 (by decide) (fun c6 => ?_) (fun c6 => ?_)
    · have ho := gif_p ho c6
      refine lv_iinc (v := x4 + 1) (lv' := [(4, .int (x4 + 1)), (0, .ref (ad 7)), (1, .ref (ad b)), (2, .int x2), (3, .int x3)]) hx hcd dX3_agreesWithEarlier_39 hl (k := 4) rfl rfl (by decide) rfl (fun ls hl => ?_)
      refine lv_goto (tgt := 3) hx hcd dX3_agreesWithEarlier_42 (by decide) ?_
      exact hjmp _ (Option.some.inj ho).symm _ _ _ hW (lv_sub hl [1, 2, 3, 4, 0] rfl)
    · have ho := gif_n ho c6
      refine lv_iconst (v := 0) hx hcd dX3_agreesWithEarlier_37 (by decide) ?_
      obtain rfl := hret _ (Option.some.inj ho).symm
      exact g_zret (r := 0) hC hr hlk hsz hW (by decide) dX3_agreesWithEarlier_38
set_option maxHeartbeats 4000000 in
set_option maxRecDepth 100000 in
theorem c_X3_agreesWithEarlier (l : Launch) (D : va_G) (y : ClassId × ClassId × ClassId) (ad : Nat → Nat) {b : Nat} (hb : g_air b) (x2 : Int32) (x3 : Int32) (σ : gS) (sz : Nat) {q : Int32} (h : X3_agreesWithEarlier σ b x2 x3 = some q) : Met l yX3_agreesWithEarlier (Cond.code yX3_agreesWithEarlier cX3_agreesWithEarlier 5 (some .boolean) :: gl) ({ frames := 1, cells := 0, slots := 0, locals := 25 }) (g_Pc D y ad σ sz [.ref (ad 7), .ref (ad b), .int x2, .int x3]) (g_Qi D y ad σ sz q) 0 0 (g_A ad sz) := by
  have ho := h
  unfold X3_agreesWithEarlier at ho
  refine g_start (by decide) (Nat.le_of_ble_eq_true rfl) (fun p e s m below meth c ls hC hr hlk hsz hW hl => ?_)
  have hx := hC.1
  have hcd := hC.2.1
  have hl : lv_has ls 5 [(0, .ref (ad 7)), (1, .ref (ad b)), (2, .int x2), (3, .int x3)] := hl
  refine lv_iconst (v := 0) hx hcd dX3_agreesWithEarlier_0 (by decide) ?_
  refine lv_istore (lv' := [(4, .int 0), (0, .ref (ad 7)), (1, .ref (ad b)), (2, .int x2), (3, .int x3)]) hx hcd dX3_agreesWithEarlier_1 hl (by decide) rfl (fun ls hl => ?_)
  exact l_X3_agreesWithEarlier l D y ad hb σ sz hC hr hlk hsz _ ho _ _ _ hW (lv_sub hl [1, 2, 3, 4, 0] rfl)
noncomputable def X3_chooseStands_k0 (rc : gS → Nat → Int32 → Option (Int32 × gS)) (σ : gS) (b : Nat) (x2 : Int32) (x3 : Int32) : Option ((Int32 × Int32 × gS) ⊕ (Int32 × gS)) :=
  if 8 ≤ x3 then (some (.inr (0, σ))) else (gd (ib x2 3) <| if (((σ 8 x2.toNatClampNeg) >>> (x3 &&& 31)) &&& (1 : Int32)) = 0 then (some (.inl (x2, (x3 + 1), σ))) else ((X3_agreesWithEarlier σ b x2 x3).bind fun r7 => if r7 = 0 then (some (.inl (x2, (x3 + 1), σ))) else (lt_ (g_up σ 10 x2.toNatClampNeg x3) fun σ9 => (rc σ9 b (x2 + (1 : Int32))).bind fun q11 => if q11.1 = 0 then (some (.inl (x2, (x3 + 1), q11.2))) else (some (.inr (1, q11.2))))))
noncomputable def X3_chooseStands_s (rc : gS → Nat → Int32 → Option (Int32 × gS)) (b : Nat) (a : Int32 × Int32 × gS) : Option ((Int32 × Int32 × gS) ⊕ (Int32 × gS)) :=
  X3_chooseStands_k0 rc a.2.2 b a.1 a.2.1
noncomputable def X3_chooseStands_e (rc : gS → Nat → Int32 → Option (Int32 × gS)) (σ : gS) (b : Nat) (x2 : Int32) : Option (Int32 × gS) :=
  if (σ 7 4) ≤ x2 then (some (1, σ)) else (if x2 < 3 then (gr (X3_chooseStands_s rc b) (x2, 0, σ)) else (some (1, σ)))
noncomputable def X3_chooseStands : Nat → gS → Nat → Int32 → Option (Int32 × gS)
  | 0 => fun _ _ _ => none
  | d + 1 => X3_chooseStands_e (X3_chooseStands d)
set_option maxHeartbeats 4000000 in
set_option maxRecDepth 100000 in
theorem l_X3_chooseStands {p : Program} {e : Env} {s : State} {m : MethodId} {args : Array Value} {below : List Frame} {meth : Method} {c : Code} (l : Launch) (d : Nat) (D : va_G) (y : ClassId × ClassId × ClassId) (ad : Nat → Nat) {b : Nat} (hb : g_air b) (sz : Nat) (hC : g_C p s m args c cX3_chooseStands 4 RX3 D y) (hr : meth.sig.returnType = (some .boolean)) (hlk : meth.locks = false) (hsz : s.heap.size = sz) (hrec : ∀ (D : va_G) (y : ClassId × ClassId × ClassId) (ad : Nat → Nat) {b : Nat} (hb : g_air b) (x2 : Int32) (σ : gS) (sz : Nat) {q : Int32 × gS}, X3_chooseStands d σ b x2 = some q → Met l yX3_chooseStands (Cond.code yX3_chooseStands cX3_chooseStands 4 (some .boolean) :: gl) ({ frames := 2 + d, cells := 0, slots := 0, locals := 49 + 23 * d }) (g_Pc D y ad σ sz [.ref (ad 7), .ref (ad b), .int x2]) (g_Qi D y ad q.2 sz q.1) 0 0 (g_A ad sz)) {r0 : Int32 × gS} : ∀ a : Int32 × Int32 × gS, gr (X3_chooseStands_s (X3_chooseStands d) b) a = some r0 → ∀ (H : Heap) (locs : List Loc) (ls : Array Slot), g_W (g_A ad sz) s.heap D y ad [] a.2.2 H locs → lv_has ls 4 [(0, .ref (ad 7)), (1, .ref (ad b)), (2, .int a.1), (3, .int a.2.1)] → W p l e ({ frames := 2 + (d + 1), cells := 0, slots := 0, locals := 49 + 23 * (d + 1) }) s m args below meth c H locs 0 0 (MQ below (g_Qi D y ad r0.2 sz r0.1) args s 0 0 (g_A ad sz)) (F0 m 17 ls []) := by
  have hx := hC.1
  have hcd := hC.2.1
  refine gr_all (fun a o ho hret hjmp => ?_)
  obtain ⟨x2, x3, σ⟩ := a
  intro H locs ls hW hl
  have ho : X3_chooseStands_k0 (X3_chooseStands d) σ b x2 x3 = some o := ho
  unfold X3_chooseStands_k0 at ho
  refine lv_iload_n hx hcd dX3_chooseStands_17 rfl (lv_at hl 3 rfl) ?_
  refine lv_bipush (v := 8) hx hcd dX3_chooseStands_18 (by decide) ?_
  refine lv_icmp_ge (tgt := 72) hx hcd dX3_chooseStands_20 (by decide) (fun c3 => ?_) (fun c3 => ?_)
  · have ho := gif_p ho c3
    refine lv_iconst (v := 0) hx hcd dX3_chooseStands_72 (by decide) ?_
    obtain rfl := hret _ (Option.some.inj ho).symm
    exact g_zret (r := 0) hC hr hlk hsz hW (by decide) dX3_chooseStands_73
  · have ho := gif_n ho c3
    refine lv_aload_n hx hcd dX3_chooseStands_23 rfl (lv_at hl 0 rfl) ?_
    refine g_getr hC hW (C := RX3) (T := TX3) (N := 5) (ci := 5) (k := 1) (index := 18) (i := 7) (r := 8) inGX3 rfl (by decide) fl_X3_18 (by decide) rfl rfl dX3_chooseStands_24 ?_
    refine lv_iload_n hx hcd dX3_chooseStands_27 rfl (lv_at hl 2 rfl) ?_
    obtain ⟨i4, ho⟩ := gd_some ho
    refine g_iald hC hW (i := 8) (by decide) rfl i4 dX3_chooseStands_28 ?_
    refine lv_iload_n hx hcd dX3_chooseStands_29 rfl (lv_at hl 3 rfl) ?_
    refine lv_ishr hx hcd dX3_chooseStands_30 ?_
    refine lv_iconst (v := 1) hx hcd dX3_chooseStands_31 (by decide) ?_
    refine lv_iand hx hcd dX3_chooseStands_32 ?_
    refine lv_if_eq (tgt := 66) hx hcd dX3_chooseStands_33 (by decide) (fun c5 => ?_) (fun c5 => ?_)
    · have ho := gif_p ho c5
      refine lv_iinc (v := x3 + 1) (lv' := [(3, .int (x3 + 1)), (0, .ref (ad 7)), (1, .ref (ad b)), (2, .int x2)]) hx hcd dX3_chooseStands_66 hl (k := 3) rfl rfl (by decide) rfl (fun ls hl => ?_)
      refine lv_goto (tgt := 17) hx hcd dX3_chooseStands_69 (by decide) ?_
      exact hjmp _ (Option.some.inj ho).symm _ _ _ hW (lv_sub hl [1, 2, 3, 0] rfl)
    · have ho := gif_n ho c5
      refine lv_aload_n hx hcd dX3_chooseStands_36 rfl (lv_at hl 0 rfl) ?_
      refine lv_aload_n hx hcd dX3_chooseStands_37 rfl (lv_at hl 1 rfl) ?_
      refine lv_iload_n hx hcd dX3_chooseStands_38 rfl (lv_at hl 2 rfl) ?_
      refine lv_iload_n hx hcd dX3_chooseStands_39 rfl (lv_at hl 3 rfl) ?_
      obtain ⟨r7, h6, ho⟩ := gb_some ho
      refine g_calli hW (g_runV (As := [.ref (ad b), .int x2, .int x3]) (rest := []) (i := 7) hC hW (c_X3_agreesWithEarlier l D y ad hb x2 x3 _ _ h6) ok_X3_67 ⟨rfl, rfl, by show 1 + 1 ≤ 2 + (d + 1); omega, by show 8 + (5 + 11) + (25) ≤ 49 + 23 * (d + 1); omega⟩ (by decide) rfl rfl rfl rfl hl.1 rfl (Nat.le_of_ble_eq_true rfl) dX3_chooseStands_40 ⟨Nat.zero_le _, Nat.zero_le _⟩) (fun H locs hW => ?_)
      refine lv_if_eq (tgt := 66) hx hcd dX3_chooseStands_43 (by decide) (fun c8 => ?_) (fun c8 => ?_)
      · have ho := gif_p ho c8
        refine lv_iinc (v := x3 + 1) (lv' := [(3, .int (x3 + 1)), (0, .ref (ad 7)), (1, .ref (ad b)), (2, .int x2)]) hx hcd dX3_chooseStands_66 hl (k := 3) rfl rfl (by decide) rfl (fun ls hl => ?_)
        refine lv_goto (tgt := 17) hx hcd dX3_chooseStands_69 (by decide) ?_
        exact hjmp _ (Option.some.inj ho).symm _ _ _ hW (lv_sub hl [1, 2, 3, 0] rfl)
      · have ho := gif_n ho c8
        refine lv_aload_n hx hcd dX3_chooseStands_46 rfl (lv_at hl 0 rfl) ?_
        refine g_getr hC hW (C := RX3) (T := TX3) (N := 5) (ci := 5) (k := 3) (index := 25) (i := 7) (r := 10) inGX3 rfl (by decide) fl_X3_25 (by decide) rfl rfl dX3_chooseStands_47 ?_
        refine lv_iload_n hx hcd dX3_chooseStands_50 rfl (lv_at hl 2 rfl) ?_
        refine lv_iload_n hx hcd dX3_chooseStands_51 rfl (lv_at hl 3 rfl) ?_
        obtain ⟨σ9, eσ9, ho⟩ := lt_ex ho
        refine g_iast hC hW (i := 10) (by decide) rfl i4 dX3_chooseStands_52 (fun H locs hW => ?_)
        rw [← eσ9] at hW
        refine lv_aload_n hx hcd dX3_chooseStands_53 rfl (lv_at hl 0 rfl) ?_
        refine lv_aload_n hx hcd dX3_chooseStands_54 rfl (lv_at hl 1 rfl) ?_
        refine lv_iload_n hx hcd dX3_chooseStands_55 rfl (lv_at hl 2 rfl) ?_
        refine lv_iconst (v := 1) hx hcd dX3_chooseStands_56 (by decide) ?_
        refine lv_iadd hx hcd dX3_chooseStands_57 ?_
        obtain ⟨q11, h10, ho⟩ := gb_some ho
        refine g_calli hW (g_runS (As := [.ref (ad 7), .ref (ad b), .int (x2 + (1 : Int32))]) (rest := []) hC hW (hrec D y ad hb (x2 + (1 : Int32)) _ _ h10) ok_X3_49 ⟨rfl, rfl, by show 2 + d + 1 ≤ 2 + (d + 1); omega, by show 8 + (4 + 11) + (49 + 23 * d) ≤ 49 + 23 * (d + 1); omega⟩ rfl hl.1 rfl (Nat.le_of_ble_eq_true rfl) dX3_chooseStands_58 ⟨Nat.zero_le _, Nat.zero_le _⟩) (fun H locs hW => ?_)
        refine lv_if_eq (tgt := 66) hx hcd dX3_chooseStands_61 (by decide) (fun c12 => ?_) (fun c12 => ?_)
        · have ho := gif_p ho c12
          refine lv_iinc (v := x3 + 1) (lv' := [(3, .int (x3 + 1)), (0, .ref (ad 7)), (1, .ref (ad b)), (2, .int x2)]) hx hcd dX3_chooseStands_66 hl (k := 3) rfl rfl (by decide) rfl (fun ls hl => ?_)
          refine lv_goto (tgt := 17) hx hcd dX3_chooseStands_69 (by decide) ?_
          exact hjmp _ (Option.some.inj ho).symm _ _ _ hW (lv_sub hl [1, 2, 3, 0] rfl)
        · have ho := gif_n ho c12
          refine lv_iconst (v := 1) hx hcd dX3_chooseStands_64 (by decide) ?_
          obtain rfl := hret _ (Option.some.inj ho).symm
          exact g_zret (r := 1) hC hr hlk hsz hW (by decide) dX3_chooseStands_65
set_option maxHeartbeats 4000000 in
set_option maxRecDepth 100000 in
theorem c_X3_chooseStands (l : Launch) : ∀ (d : Nat) (D : va_G) (y : ClassId × ClassId × ClassId) (ad : Nat → Nat) {b : Nat} (hb : g_air b) (x2 : Int32) (σ : gS) (sz : Nat) {q : Int32 × gS}, X3_chooseStands d σ b x2 = some q → Met l yX3_chooseStands (Cond.code yX3_chooseStands cX3_chooseStands 4 (some .boolean) :: gl) ({ frames := 2 + d, cells := 0, slots := 0, locals := 49 + 23 * d }) (g_Pc D y ad σ sz [.ref (ad 7), .ref (ad b), .int x2]) (g_Qi D y ad q.2 sz q.1) 0 0 (g_A ad sz) := by
  intro d
  induction d with
  | zero =>
    intro D y ad b hb x2 σ sz q h
    cases h
  | succ d hrec =>
    intro D y ad b hb x2 σ sz q h
    have ho : X3_chooseStands_e (X3_chooseStands d) σ b x2 = some q := h
    unfold X3_chooseStands_e at ho
    refine g_start (by decide) (Nat.le_of_ble_eq_true rfl) (fun p e s m below meth c ls hC hr hlk hsz hW hl => ?_)
    have hx := hC.1
    have hcd := hC.2.1
    have hl : lv_has ls 4 [(0, .ref (ad 7)), (1, .ref (ad b)), (2, .int x2)] := hl
    refine lv_iload_n hx hcd dX3_chooseStands_0 rfl (lv_at hl 2 rfl) ?_
    refine lv_aload_n hx hcd dX3_chooseStands_1 rfl (lv_at hl 0 rfl) ?_
    refine g_geti hC hW (C := RX3) (T := TX3) (N := 5) (ci := 5) (k := 4) (index := 28) (i := 7) inGX3 rfl (by decide) fl_X3_28 (by decide) rfl rfl dX3_chooseStands_2 ?_
    refine lv_icmp_ge (tgt := 13) hx hcd dX3_chooseStands_5 (by decide) (fun c1 => ?_) (fun c1 => ?_)
    · have ho := gif_p ho c1
      refine lv_iconst (v := 1) hx hcd dX3_chooseStands_13 (by decide) ?_
      obtain rfl := Option.some.inj ho
      exact g_zret (r := 1) hC hr hlk hsz hW (by decide) dX3_chooseStands_14
    · have ho := gif_n ho c1
      refine lv_iload_n hx hcd dX3_chooseStands_8 rfl (lv_at hl 2 rfl) ?_
      refine lv_iconst (v := 3) hx hcd dX3_chooseStands_9 (by decide) ?_
      refine lv_icmp_lt (tgt := 15) hx hcd dX3_chooseStands_10 (by decide) (fun c2 => ?_) (fun c2 => ?_)
      · have ho := gif_p ho c2
        refine lv_iconst (v := 0) hx hcd dX3_chooseStands_15 (by decide) ?_
        refine lv_istore_n (lv' := [(3, .int 0), (0, .ref (ad 7)), (1, .ref (ad b)), (2, .int x2)]) hx hcd dX3_chooseStands_16 rfl hl (by decide) rfl (fun ls hl => ?_)
        exact l_X3_chooseStands l d D y ad hb sz hC hr hlk hsz hrec _ ho _ _ _ hW (lv_sub hl [1, 2, 3, 0] rfl)
      · have ho := gif_n ho c2
        refine lv_iconst (v := 1) hx hcd dX3_chooseStands_13 (by decide) ?_
        obtain rfl := Option.some.inj ho
        exact g_zret (r := 1) hC hr hlk hsz hW (by decide) dX3_chooseStands_14
noncomputable def X3_chooseStays_k0 (rc : gS → Nat → Int32 → Int32 → Option (Int32 × gS)) (σ : gS) (b : Nat) (x2 : Int32) (x4 : Int32) : Option ((Int32 × Int32 × gS) ⊕ (Int32 × gS)) :=
  if (σ 14 6) ≤ x4 then (some (.inr (0, σ))) else (gd (ib x4 20) <| gd (ib x2 3) <| lt_ (g_up σ 9 x2.toNatClampNeg (σ (14 + 4) x4.toNatClampNeg)) fun σ18 => (rc σ18 b (x2 + (1 : Int32)) (x4 + (1 : Int32))).bind fun q20 => if q20.1 = 0 then (some (.inl (x2, (x4 + 1), q20.2))) else (some (.inr (1, q20.2))))
noncomputable def X3_chooseStays_s (rc : gS → Nat → Int32 → Int32 → Option (Int32 × gS)) (b : Nat) (a : Int32 × Int32 × gS) : Option ((Int32 × Int32 × gS) ⊕ (Int32 × gS)) :=
  X3_chooseStays_k0 rc a.2.2 b a.1 a.2.1
noncomputable def X3_chooseStays_e (rc : gS → Nat → Int32 → Int32 → Option (Int32 × gS)) (σ : gS) (b : Nat) (x2 : Int32) (x3 : Int32) : Option (Int32 × gS) :=
  if (σ 7 4) ≤ x2 then ((X3_canBeMoved σ).bind fun q3 => if q3.1 = 0 then (some (0, q3.2)) else ((X3_chooseStands 4 q3.2 b 0).bind fun q6 => if q6.1 = 0 then (some (0, q6.2)) else (some (1, q6.2)))) else (if x2 < 3 then (gr (X3_chooseStays_s rc b) (x2, x3, σ)) else ((X3_canBeMoved σ).bind fun q10 => if q10.1 = 0 then (some (0, q10.2)) else ((X3_chooseStands 4 q10.2 b 0).bind fun q13 => if q13.1 = 0 then (some (0, q13.2)) else (some (1, q13.2)))))
noncomputable def X3_chooseStays : Nat → gS → Nat → Int32 → Int32 → Option (Int32 × gS)
  | 0 => fun _ _ _ _ => none
  | d + 1 => X3_chooseStays_e (X3_chooseStays d)
set_option maxHeartbeats 4000000 in
set_option maxRecDepth 100000 in
theorem l_X3_chooseStays {p : Program} {e : Env} {s : State} {m : MethodId} {args : Array Value} {below : List Frame} {meth : Method} {c : Code} (l : Launch) (d : Nat) (D : va_G) (y : ClassId × ClassId × ClassId) (ad : Nat → Nat) {b : Nat} (hb : g_air b) (sz : Nat) (hC : g_C p s m args c cX3_chooseStays 5 RX3 D y) (hr : meth.sig.returnType = (some .boolean)) (hlk : meth.locks = false) (hsz : s.heap.size = sz) (hrec : ∀ (D : va_G) (y : ClassId × ClassId × ClassId) (ad : Nat → Nat) {b : Nat} (hb : g_air b) (x2 : Int32) (x3 : Int32) (σ : gS) (sz : Nat) {q : Int32 × gS}, X3_chooseStays d σ b x2 x3 = some q → Met l yX3_chooseStays (Cond.code yX3_chooseStays cX3_chooseStays 5 (some .boolean) :: gl) ({ frames := 7 + d, cells := 0, slots := 0, locals := 164 + 24 * d }) (g_Pc D y ad σ sz [.ref (ad 7), .ref (ad b), .int x2, .int x3]) (g_Qi D y ad q.2 sz q.1) 0 0 (g_A ad sz)) {r0 : Int32 × gS} : ∀ a : Int32 × Int32 × gS, gr (X3_chooseStays_s (X3_chooseStays d) b) a = some r0 → ∀ (H : Heap) (locs : List Loc) (ls : Array Slot), g_W (g_A ad sz) s.heap D y ad [] a.2.2 H locs → lv_has ls 5 [(0, .ref (ad 7)), (1, .ref (ad b)), (2, .int a.1), (4, .int a.2.1)] → W p l e ({ frames := 7 + (d + 1), cells := 0, slots := 0, locals := 164 + 24 * (d + 1) }) s m args below meth c H locs 0 0 (MQ below (g_Qi D y ad r0.2 sz r0.1) args s 0 0 (g_A ad sz)) (F0 m 38 ls []) := by
  have hx := hC.1
  have hcd := hC.2.1
  refine gr_all (fun a o ho hret hjmp => ?_)
  obtain ⟨x2, x4, σ⟩ := a
  intro H locs ls hW hl
  have ho : X3_chooseStays_k0 (X3_chooseStays d) σ b x2 x4 = some o := ho
  unfold X3_chooseStays_k0 at ho
  refine lv_iload hx hcd dX3_chooseStays_38 (lv_at hl 3 rfl) ?_
  refine lv_aload_n hx hcd dX3_chooseStays_40 rfl (lv_at hl 0 rfl) ?_
  refine g_getr hC hW (C := RX3) (T := TX3) (N := 5) (ci := 5) (k := 0) (index := 12) (i := 7) (r := 14) inGX3 rfl (by decide) fl_X3_12 (by decide) rfl rfl dX3_chooseStays_41 ?_
  refine g_geti hC hW (C := RX1) (T := TX1) (N := 7) (ci := 3) (k := 6) (index := 53) (i := 14) inGX1 rfl (by decide) fl_X3_53 (g_lt_cla (j := 0) g_cla14 (by decide)) (g_sh_cla g_cla14) rfl dX3_chooseStays_44 ?_
  refine lv_icmp_ge (tgt := 89) hx hcd dX3_chooseStays_47 (by decide) (fun c15 => ?_) (fun c15 => ?_)
  · have ho := gif_p ho c15
    refine lv_iconst (v := 0) hx hcd dX3_chooseStays_89 (by decide) ?_
    obtain rfl := hret _ (Option.some.inj ho).symm
    exact g_zret (r := 0) hC hr hlk hsz hW (by decide) dX3_chooseStays_90
  · have ho := gif_n ho c15
    refine lv_aload_n hx hcd dX3_chooseStays_50 rfl (lv_at hl 0 rfl) ?_
    refine g_getr hC hW (C := RX3) (T := TX3) (N := 5) (ci := 5) (k := 2) (index := 22) (i := 7) (r := 9) inGX3 rfl (by decide) fl_X3_22 (by decide) rfl rfl dX3_chooseStays_51 ?_
    refine lv_iload_n hx hcd dX3_chooseStays_54 rfl (lv_at hl 2 rfl) ?_
    refine lv_aload_n hx hcd dX3_chooseStays_55 rfl (lv_at hl 0 rfl) ?_
    refine g_getr hC hW (C := RX3) (T := TX3) (N := 5) (ci := 5) (k := 0) (index := 12) (i := 7) (r := 14) inGX3 rfl (by decide) fl_X3_12 (by decide) rfl rfl dX3_chooseStays_56 ?_
    refine g_getr hC hW (C := RX1) (T := TX1) (N := 7) (ci := 3) (k := 3) (index := 56) (i := 14) (r := (14 + 4)) inGX1 rfl (by decide) fl_X3_56 (g_lt_cla (j := 0) g_cla14 (by decide)) (g_sh_cla g_cla14) rfl dX3_chooseStays_59 ?_
    refine lv_iload hx hcd dX3_chooseStays_62 (lv_at hl 3 rfl) ?_
    obtain ⟨i16, ho⟩ := gd_some ho
    refine g_iald hC hW (i := (14 + 4)) (g_lt_cla (j := 4) g_cla14 (by decide)) (g_sc4 g_cla14) i16 dX3_chooseStays_64 ?_
    obtain ⟨i17, ho⟩ := gd_some ho
    obtain ⟨σ18, eσ18, ho⟩ := lt_ex ho
    refine g_iast hC hW (i := 9) (by decide) rfl i17 dX3_chooseStays_65 (fun H locs hW => ?_)
    rw [← eσ18] at hW
    refine lv_aload_n hx hcd dX3_chooseStays_66 rfl (lv_at hl 0 rfl) ?_
    refine lv_aload_n hx hcd dX3_chooseStays_67 rfl (lv_at hl 1 rfl) ?_
    refine lv_iload_n hx hcd dX3_chooseStays_68 rfl (lv_at hl 2 rfl) ?_
    refine lv_iconst (v := 1) hx hcd dX3_chooseStays_69 (by decide) ?_
    refine lv_iadd hx hcd dX3_chooseStays_70 ?_
    refine lv_iload hx hcd dX3_chooseStays_71 (lv_at hl 3 rfl) ?_
    refine lv_iconst (v := 1) hx hcd dX3_chooseStays_73 (by decide) ?_
    refine lv_iadd hx hcd dX3_chooseStays_74 ?_
    obtain ⟨q20, h19, ho⟩ := gb_some ho
    refine g_calli hW (g_runS (As := [.ref (ad 7), .ref (ad b), .int (x2 + (1 : Int32)), .int (x4 + (1 : Int32))]) (rest := []) hC hW (hrec D y ad hb (x2 + (1 : Int32)) (x4 + (1 : Int32)) _ _ h19) ok_X3_42 ⟨rfl, rfl, by show 7 + d + 1 ≤ 7 + (d + 1); omega, by show 8 + (5 + 11) + (164 + 24 * d) ≤ 164 + 24 * (d + 1); omega⟩ rfl hl.1 rfl (Nat.le_of_ble_eq_true rfl) dX3_chooseStays_75 ⟨Nat.zero_le _, Nat.zero_le _⟩) (fun H locs hW => ?_)
    refine lv_if_eq (tgt := 83) hx hcd dX3_chooseStays_78 (by decide) (fun c21 => ?_) (fun c21 => ?_)
    · have ho := gif_p ho c21
      refine lv_iinc (v := x4 + 1) (lv' := [(4, .int (x4 + 1)), (0, .ref (ad 7)), (1, .ref (ad b)), (2, .int x2)]) hx hcd dX3_chooseStays_83 hl (k := 3) rfl rfl (by decide) rfl (fun ls hl => ?_)
      refine lv_goto (tgt := 38) hx hcd dX3_chooseStays_86 (by decide) ?_
      exact hjmp _ (Option.some.inj ho).symm _ _ _ hW (lv_sub hl [1, 2, 3, 0] rfl)
    · have ho := gif_n ho c21
      refine lv_iconst (v := 1) hx hcd dX3_chooseStays_81 (by decide) ?_
      obtain rfl := hret _ (Option.some.inj ho).symm
      exact g_zret (r := 1) hC hr hlk hsz hW (by decide) dX3_chooseStays_82
set_option maxHeartbeats 4000000 in
set_option maxRecDepth 100000 in
theorem c_X3_chooseStays (l : Launch) : ∀ (d : Nat) (D : va_G) (y : ClassId × ClassId × ClassId) (ad : Nat → Nat) {b : Nat} (hb : g_air b) (x2 : Int32) (x3 : Int32) (σ : gS) (sz : Nat) {q : Int32 × gS}, X3_chooseStays d σ b x2 x3 = some q → Met l yX3_chooseStays (Cond.code yX3_chooseStays cX3_chooseStays 5 (some .boolean) :: gl) ({ frames := 7 + d, cells := 0, slots := 0, locals := 164 + 24 * d }) (g_Pc D y ad σ sz [.ref (ad 7), .ref (ad b), .int x2, .int x3]) (g_Qi D y ad q.2 sz q.1) 0 0 (g_A ad sz) := by
  intro d
  induction d with
  | zero =>
    intro D y ad b hb x2 x3 σ sz q h
    cases h
  | succ d hrec =>
    intro D y ad b hb x2 x3 σ sz q h
    have ho : X3_chooseStays_e (X3_chooseStays d) σ b x2 x3 = some q := h
    unfold X3_chooseStays_e at ho
    refine g_start (by decide) (Nat.le_of_ble_eq_true rfl) (fun p e s m below meth c ls hC hr hlk hsz hW hl => ?_)
    have hx := hC.1
    have hcd := hC.2.1
    have hl : lv_has ls 5 [(0, .ref (ad 7)), (1, .ref (ad b)), (2, .int x2), (3, .int x3)] := hl
    refine lv_iload_n hx hcd dX3_chooseStays_0 rfl (lv_at hl 2 rfl) ?_
    refine lv_aload_n hx hcd dX3_chooseStays_1 rfl (lv_at hl 0 rfl) ?_
    refine g_geti hC hW (C := RX3) (T := TX3) (N := 5) (ci := 5) (k := 4) (index := 28) (i := 7) inGX3 rfl (by decide) fl_X3_28 (by decide) rfl rfl dX3_chooseStays_2 ?_
    refine lv_icmp_ge (tgt := 13) hx hcd dX3_chooseStays_5 (by decide) (fun c1 => ?_) (fun c1 => ?_)
    · have ho := gif_p ho c1
      refine lv_aload_n hx hcd dX3_chooseStays_13 rfl (lv_at hl 0 rfl) ?_
      obtain ⟨q3, h2, ho⟩ := gb_some ho
      refine g_calli hW (g_runV (As := []) (rest := []) (i := 7) hC hW (c_X3_canBeMoved l D y ad _ _ h2) ok_X3_46 ⟨rfl, rfl, by show 1 + 1 ≤ 7 + (d + 1); omega, by show 8 + (3 + 11) + (24) ≤ 164 + 24 * (d + 1); omega⟩ (by decide) rfl rfl rfl rfl hl.1 rfl (Nat.le_of_ble_eq_true rfl) dX3_chooseStays_14 ⟨Nat.zero_le _, Nat.zero_le _⟩) (fun H locs hW => ?_)
      refine lv_if_eq (tgt := 33) hx hcd dX3_chooseStays_17 (by decide) (fun c4 => ?_) (fun c4 => ?_)
      · have ho := gif_p ho c4
        refine lv_iconst (v := 0) hx hcd dX3_chooseStays_33 (by decide) ?_
        obtain rfl := Option.some.inj ho
        exact g_zret (r := 0) hC hr hlk hsz hW (by decide) dX3_chooseStays_34
      · have ho := gif_n ho c4
        refine lv_aload_n hx hcd dX3_chooseStays_20 rfl (lv_at hl 0 rfl) ?_
        refine lv_aload_n hx hcd dX3_chooseStays_21 rfl (lv_at hl 1 rfl) ?_
        refine lv_iconst (v := 0) hx hcd dX3_chooseStays_22 (by decide) ?_
        obtain ⟨q6, h5, ho⟩ := gb_some ho
        refine g_calli hW (g_runS (As := [.ref (ad 7), .ref (ad b), .int 0]) (rest := []) hC hW (c_X3_chooseStands l 4 D y ad hb 0 _ _ h5) ok_X3_49 ⟨rfl, rfl, by show 2 + 4 + 1 ≤ 7 + (d + 1); omega, by show 8 + (4 + 11) + (49 + 23 * 4) ≤ 164 + 24 * (d + 1); omega⟩ rfl hl.1 rfl (Nat.le_of_ble_eq_true rfl) dX3_chooseStays_23 ⟨Nat.zero_le _, Nat.zero_le _⟩) (fun H locs hW => ?_)
        refine lv_if_eq (tgt := 33) hx hcd dX3_chooseStays_26 (by decide) (fun c7 => ?_) (fun c7 => ?_)
        · have ho := gif_p ho c7
          refine lv_iconst (v := 0) hx hcd dX3_chooseStays_33 (by decide) ?_
          obtain rfl := Option.some.inj ho
          exact g_zret (r := 0) hC hr hlk hsz hW (by decide) dX3_chooseStays_34
        · have ho := gif_n ho c7
          refine lv_iconst (v := 1) hx hcd dX3_chooseStays_29 (by decide) ?_
          refine lv_goto (tgt := 34) hx hcd dX3_chooseStays_30 (by decide) ?_
          obtain rfl := Option.some.inj ho
          exact g_zret (r := 1) hC hr hlk hsz hW (by decide) dX3_chooseStays_34
    · have ho := gif_n ho c1
      refine lv_iload_n hx hcd dX3_chooseStays_8 rfl (lv_at hl 2 rfl) ?_
      refine lv_iconst (v := 3) hx hcd dX3_chooseStays_9 (by decide) ?_
      refine lv_icmp_lt (tgt := 35) hx hcd dX3_chooseStays_10 (by decide) (fun c8 => ?_) (fun c8 => ?_)
      · have ho := gif_p ho c8
        refine lv_iload_n hx hcd dX3_chooseStays_35 rfl (lv_at hl 3 rfl) ?_
        refine lv_istore (lv' := [(4, .int x3), (0, .ref (ad 7)), (1, .ref (ad b)), (2, .int x2), (3, .int x3)]) hx hcd dX3_chooseStays_36 hl (by decide) rfl (fun ls hl => ?_)
        exact l_X3_chooseStays l d D y ad hb sz hC hr hlk hsz hrec _ ho _ _ _ hW (lv_sub hl [1, 2, 3, 0] rfl)
      · have ho := gif_n ho c8
        refine lv_aload_n hx hcd dX3_chooseStays_13 rfl (lv_at hl 0 rfl) ?_
        obtain ⟨q10, h9, ho⟩ := gb_some ho
        refine g_calli hW (g_runV (As := []) (rest := []) (i := 7) hC hW (c_X3_canBeMoved l D y ad _ _ h9) ok_X3_46 ⟨rfl, rfl, by show 1 + 1 ≤ 7 + (d + 1); omega, by show 8 + (3 + 11) + (24) ≤ 164 + 24 * (d + 1); omega⟩ (by decide) rfl rfl rfl rfl hl.1 rfl (Nat.le_of_ble_eq_true rfl) dX3_chooseStays_14 ⟨Nat.zero_le _, Nat.zero_le _⟩) (fun H locs hW => ?_)
        refine lv_if_eq (tgt := 33) hx hcd dX3_chooseStays_17 (by decide) (fun c11 => ?_) (fun c11 => ?_)
        · have ho := gif_p ho c11
          refine lv_iconst (v := 0) hx hcd dX3_chooseStays_33 (by decide) ?_
          obtain rfl := Option.some.inj ho
          exact g_zret (r := 0) hC hr hlk hsz hW (by decide) dX3_chooseStays_34
        · have ho := gif_n ho c11
          refine lv_aload_n hx hcd dX3_chooseStays_20 rfl (lv_at hl 0 rfl) ?_
          refine lv_aload_n hx hcd dX3_chooseStays_21 rfl (lv_at hl 1 rfl) ?_
          refine lv_iconst (v := 0) hx hcd dX3_chooseStays_22 (by decide) ?_
          obtain ⟨q13, h12, ho⟩ := gb_some ho
          refine g_calli hW (g_runS (As := [.ref (ad 7), .ref (ad b), .int 0]) (rest := []) hC hW (c_X3_chooseStands l 4 D y ad hb 0 _ _ h12) ok_X3_49 ⟨rfl, rfl, by show 2 + 4 + 1 ≤ 7 + (d + 1); omega, by show 8 + (4 + 11) + (49 + 23 * 4) ≤ 164 + 24 * (d + 1); omega⟩ rfl hl.1 rfl (Nat.le_of_ble_eq_true rfl) dX3_chooseStays_23 ⟨Nat.zero_le _, Nat.zero_le _⟩) (fun H locs hW => ?_)
          refine lv_if_eq (tgt := 33) hx hcd dX3_chooseStays_26 (by decide) (fun c14 => ?_) (fun c14 => ?_)
          · have ho := gif_p ho c14
            refine lv_iconst (v := 0) hx hcd dX3_chooseStays_33 (by decide) ?_
            obtain rfl := Option.some.inj ho
            exact g_zret (r := 0) hC hr hlk hsz hW (by decide) dX3_chooseStays_34
          · have ho := gif_n ho c14
            refine lv_iconst (v := 1) hx hcd dX3_chooseStays_29 (by decide) ?_
            refine lv_goto (tgt := 34) hx hcd dX3_chooseStays_30 (by decide) ?_
            obtain rfl := Option.some.inj ho
            exact g_zret (r := 1) hC hr hlk hsz hW (by decide) dX3_chooseStays_34
noncomputable def X3_find_k0 (σ : gS) (b : Nat) (x2 : Int32) : Option ((Int32 × gS) ⊕ (Int32 × gS)) :=
  if 3 < x2 then (some (.inr (0, σ))) else (lt_ (g_up σ 7 4 x2) fun σ8 => (X3_chooseStays 4 σ8 b 0 0).bind fun q10 => if q10.1 = 0 then (some (.inl ((x2 + 1), q10.2))) else (some (.inr (1, q10.2))))
noncomputable def X3_find_s (b : Nat) (a : Int32 × gS) : Option ((Int32 × gS) ⊕ (Int32 × gS)) :=
  X3_find_k0 a.2 b a.1
noncomputable def X3_find (σ : gS) (b : Nat) : Option (Int32 × gS) :=
  lt_ (g_up σ 7 4 0) fun σ1 => (X0_isSound σ1 b).bind fun r3 => if r3 = 0 then ((X1_lookAt σ1 14 b).bind fun σ6 => gr (X3_find_s b) (1, σ6)) else (some (1, σ1))
set_option maxHeartbeats 4000000 in
set_option maxRecDepth 100000 in
theorem l_X3_find {p : Program} {e : Env} {s : State} {m : MethodId} {args : Array Value} {below : List Frame} {meth : Method} {c : Code} (l : Launch) (D : va_G) (y : ClassId × ClassId × ClassId) (ad : Nat → Nat) {b : Nat} (hb : g_air b) (sz : Nat) (hC : g_C p s m args c cX3_find 3 RX3 D y) (hr : meth.sig.returnType = (some .boolean)) (hlk : meth.locks = false) (hsz : s.heap.size = sz) {r0 : Int32 × gS} : ∀ a : Int32 × gS, gr (X3_find_s b) a = some r0 → ∀ (H : Heap) (locs : List Loc) (ls : Array Slot), g_W (g_A ad sz) s.heap D y ad [] a.2 H locs → lv_has ls 3 [(0, .ref (ad 7)), (1, .ref (ad b)), (2, .int a.1)] → W p l e ({ frames := 12, cells := 0, slots := 0, locals := 284 }) s m args below meth c H locs 0 0 (MQ below (g_Qi D y ad r0.2 sz r0.1) args s 0 0 (g_A ad sz)) (F0 m 24 ls []) := by
  have hx := hC.1
  have hcd := hC.2.1
  refine gr_all (fun a o ho hret hjmp => ?_)
  obtain ⟨x2, σ⟩ := a
  intro H locs ls hW hl
  have ho : X3_find_k0 σ b x2 = some o := ho
  unfold X3_find_k0 at ho
  refine lv_iload_n hx hcd dX3_find_24 rfl (lv_at hl 2 rfl) ?_
  refine lv_iconst (v := 3) hx hcd dX3_find_25 (by decide) ?_
  refine lv_icmp_gt (tgt := 52) hx hcd dX3_find_26 (by decide) (fun c7 => ?_) (fun c7 => ?_)
  · have ho := gif_p ho c7
    refine lv_iconst (v := 0) hx hcd dX3_find_52 (by decide) ?_
    obtain rfl := hret _ (Option.some.inj ho).symm
    exact g_zret (r := 0) hC hr hlk hsz hW (by decide) dX3_find_53
  · have ho := gif_n ho c7
    refine lv_aload_n hx hcd dX3_find_29 rfl (lv_at hl 0 rfl) ?_
    refine lv_iload_n hx hcd dX3_find_30 rfl (lv_at hl 2 rfl) ?_
    obtain ⟨σ8, eσ8, ho⟩ := lt_ex ho
    refine g_puti hC hW (C := RX3) (T := TX3) (N := 5) (ci := 5) (k := 4) (index := 28) (i := 7) inGX3 tyX3 tyX3_ok nmX3 rfl (by decide) fl_X3_28 rfl (by decide) rfl rfl rfl rfl dX3_find_31 (fun H locs hW => ?_)
    rw [← eσ8] at hW
    refine lv_aload_n hx hcd dX3_find_34 rfl (lv_at hl 0 rfl) ?_
    refine lv_aload_n hx hcd dX3_find_35 rfl (lv_at hl 1 rfl) ?_
    refine lv_iconst (v := 0) hx hcd dX3_find_36 (by decide) ?_
    refine lv_iconst (v := 0) hx hcd dX3_find_37 (by decide) ?_
    obtain ⟨q10, h9, ho⟩ := gb_some ho
    refine g_calli hW (g_runS (As := [.ref (ad 7), .ref (ad b), .int 0, .int 0]) (rest := []) hC hW (c_X3_chooseStays l 4 D y ad hb 0 0 _ _ h9) ok_X3_42 ⟨rfl, rfl, Nat.le_of_ble_eq_true rfl, Nat.le_of_ble_eq_true rfl⟩ rfl hl.1 rfl (Nat.le_of_ble_eq_true rfl) dX3_find_38 ⟨Nat.zero_le _, Nat.zero_le _⟩) (fun H locs hW => ?_)
    refine lv_if_eq (tgt := 46) hx hcd dX3_find_41 (by decide) (fun c11 => ?_) (fun c11 => ?_)
    · have ho := gif_p ho c11
      refine lv_iinc (v := x2 + 1) (lv' := [(2, .int (x2 + 1)), (0, .ref (ad 7)), (1, .ref (ad b))]) hx hcd dX3_find_46 hl (k := 2) rfl rfl (by decide) rfl (fun ls hl => ?_)
      refine lv_goto (tgt := 24) hx hcd dX3_find_49 (by decide) ?_
      exact hjmp _ (Option.some.inj ho).symm _ _ _ hW (lv_sub hl [1, 2, 0] rfl)
    · have ho := gif_n ho c11
      refine lv_iconst (v := 1) hx hcd dX3_find_44 (by decide) ?_
      obtain rfl := hret _ (Option.some.inj ho).symm
      exact g_zret (r := 1) hC hr hlk hsz hW (by decide) dX3_find_45
set_option maxHeartbeats 4000000 in
set_option maxRecDepth 100000 in
theorem c_X3_find (l : Launch) (D : va_G) (y : ClassId × ClassId × ClassId) (ad : Nat → Nat) {b : Nat} (hb : g_air b) (σ : gS) (sz : Nat) {q : Int32 × gS} (h : X3_find σ b = some q) : Met l yX3_find (Cond.code yX3_find cX3_find 3 (some .boolean) :: gl) ({ frames := 12, cells := 0, slots := 0, locals := 284 }) (g_Pc D y ad σ sz [.ref (ad 7), .ref (ad b)]) (g_Qi D y ad q.2 sz q.1) 0 0 (g_A ad sz) := by
  have ho := h
  unfold X3_find at ho
  refine g_start (by decide) (Nat.le_of_ble_eq_true rfl) (fun p e s m below meth c ls hC hr hlk hsz hW hl => ?_)
  have hx := hC.1
  have hcd := hC.2.1
  have hl : lv_has ls 3 [(0, .ref (ad 7)), (1, .ref (ad b))] := hl
  refine lv_aload_n hx hcd dX3_find_0 rfl (lv_at hl 0 rfl) ?_
  refine lv_iconst (v := 0) hx hcd dX3_find_1 (by decide) ?_
  obtain ⟨σ1, eσ1, ho⟩ := lt_ex ho
  refine g_puti hC hW (C := RX3) (T := TX3) (N := 5) (ci := 5) (k := 4) (index := 28) (i := 7) inGX3 tyX3 tyX3_ok nmX3 rfl (by decide) fl_X3_28 rfl (by decide) rfl rfl rfl rfl dX3_find_2 (fun H locs hW => ?_)
  rw [← eσ1] at hW
  refine lv_aload_n hx hcd dX3_find_5 rfl (lv_at hl 1 rfl) ?_
  obtain ⟨r3, h2, ho⟩ := gb_some ho
  refine g_calli hW (g_runV (As := []) (rest := []) (i := b) hC hW (c_X0_isSound l D y ad hb _ _ h2) ok_X3_32 ⟨rfl, rfl, Nat.le_of_ble_eq_true rfl, Nat.le_of_ble_eq_true rfl⟩ (g_lt_air hb) (g_sh_air hb) rfl rfl rfl hl.1 rfl (Nat.le_of_ble_eq_true rfl) dX3_find_6 ⟨Nat.zero_le _, Nat.zero_le _⟩) (fun H locs hW => ?_)
  refine lv_if_eq (tgt := 14) hx hcd dX3_find_9 (by decide) (fun c4 => ?_) (fun c4 => ?_)
  · have ho := gif_p ho c4
    refine lv_aload_n hx hcd dX3_find_14 rfl (lv_at hl 0 rfl) ?_
    refine g_getr hC hW (C := RX3) (T := TX3) (N := 5) (ci := 5) (k := 0) (index := 12) (i := 7) (r := 14) inGX3 rfl (by decide) fl_X3_12 (by decide) rfl rfl dX3_find_15 ?_
    refine lv_aload_n hx hcd dX3_find_18 rfl (lv_at hl 1 rfl) ?_
    obtain ⟨σ6, h5, ho⟩ := gb_some ho
    refine g_callv hW (g_runV (As := [.ref (ad b)]) (rest := []) (i := 14) hC hW (c_X1_lookAt l D y ad g_cla14 hb _ _ h5) ok_X3_38 ⟨rfl, rfl, Nat.le_of_ble_eq_true rfl, Nat.le_of_ble_eq_true rfl⟩ (g_lt_cla (j := 0) g_cla14 (by decide)) (g_sh_cla g_cla14) rfl rfl rfl hl.1 rfl (Nat.le_of_ble_eq_true rfl) dX3_find_19 ⟨Nat.zero_le _, Nat.zero_le _⟩) (fun H locs hW => ?_)
    refine lv_iconst (v := 1) hx hcd dX3_find_22 (by decide) ?_
    refine lv_istore_n (lv' := [(2, .int 1), (0, .ref (ad 7)), (1, .ref (ad b))]) hx hcd dX3_find_23 rfl hl (by decide) rfl (fun ls hl => ?_)
    exact l_X3_find l D y ad hb sz hC hr hlk hsz _ ho _ _ _ hW (lv_sub hl [1, 2, 0] rfl)
  · have ho := gif_n ho c4
    refine lv_iconst (v := 1) hx hcd dX3_find_12 (by decide) ?_
    obtain rfl := Option.some.inj ho
    exact g_zret (r := 1) hC hr hlk hsz hW (by decide) dX3_find_13
noncomputable def X4_forgetAll (σ : gS) : Option (gS) :=
  lt_ (g_up σ 2 2 0) fun σ1 => some σ1
set_option maxHeartbeats 4000000 in
set_option maxRecDepth 100000 in
theorem c_X4_forgetAll (l : Launch) (D : va_G) (y : ClassId × ClassId × ClassId) (ad : Nat → Nat) (σ : gS) (sz : Nat) {q : gS} (h : X4_forgetAll σ = some q) : Met l yX4_forgetAll (Cond.code yX4_forgetAll cX4_forgetAll 1 none :: gl) ({ frames := 0, cells := 0, slots := 0, locals := 0 }) (g_Pc D y ad σ sz [.ref (ad 2)]) (g_Qv D y ad q sz) 0 0 (g_A ad sz) := by
  have ho := h
  unfold X4_forgetAll at ho
  refine g_start (by decide) (Nat.le_of_ble_eq_true rfl) (fun p e s m below meth c ls hC hr hlk hsz hW hl => ?_)
  have hx := hC.1
  have hcd := hC.2.1
  have hl : lv_has ls 1 [(0, .ref (ad 2))] := hl
  refine lv_aload_n hx hcd dX4_forgetAll_0 rfl (lv_at hl 0 rfl) ?_
  refine lv_iconst (v := 0) hx hcd dX4_forgetAll_1 (by decide) ?_
  obtain ⟨σ1, eσ1, ho⟩ := lt_ex ho
  refine g_puti hC hW (C := RX4) (T := TX4) (N := 3) (ci := 6) (k := 2) (index := 18) (i := 2) inGX4 tyX4 tyX4_ok nmX4 rfl (by decide) fl_X4_18 rfl (by decide) rfl rfl rfl rfl dX4_forgetAll_2 (fun H locs hW => ?_)
  rw [← eσ1] at hW
  obtain rfl := Option.some.inj ho
  exact g_vret hC hr hlk hsz hW dX4_forgetAll_5
noncomputable def X4_remember (σ : gS) (b : Nat) : Option (gS) :=
  gd (ib (((σ 2 1) + (σ 2 2)) - ((σ 2 1) + (σ 2 2)) / (6 : Int32) * (6 : Int32)) 6) <| (X0_copyFrom σ (60 + 12 * (((σ 2 1) + (σ 2 2)) - ((σ 2 1) + (σ 2 2)) / (6 : Int32) * (6 : Int32)).toNatClampNeg) b).bind fun σ3 => if 6 ≤ (σ3 2 2) then (lt_ (g_up σ3 2 1 (((σ3 2 1) + (1 : Int32)) - ((σ3 2 1) + (1 : Int32)) / (6 : Int32) * (6 : Int32))) fun σ5 => some σ5) else (lt_ (g_up σ3 2 2 ((σ3 2 2) + (1 : Int32))) fun σ6 => some σ6)
set_option maxHeartbeats 4000000 in
set_option maxRecDepth 100000 in
theorem c_X4_remember (l : Launch) (D : va_G) (y : ClassId × ClassId × ClassId) (ad : Nat → Nat) {b : Nat} (hb : g_air b) (σ : gS) (sz : Nat) {q : gS} (h : X4_remember σ b = some q) : Met l yX4_remember (Cond.code yX4_remember cX4_remember 2 none :: gl) ({ frames := 2, cells := 0, slots := 0, locals := 61 }) (g_Pc D y ad σ sz [.ref (ad 2), .ref (ad b)]) (g_Qv D y ad q sz) 0 0 (g_A ad sz) := by
  have ho := h
  unfold X4_remember at ho
  refine g_start (by decide) (Nat.le_of_ble_eq_true rfl) (fun p e s m below meth c ls hC hr hlk hsz hW hl => ?_)
  have hx := hC.1
  have hcd := hC.2.1
  have hl : lv_has ls 2 [(0, .ref (ad 2)), (1, .ref (ad b))] := hl
  refine lv_aload_n hx hcd dX4_remember_0 rfl (lv_at hl 0 rfl) ?_
  refine g_getr hC hW (C := RX4) (T := TX4) (N := 3) (ci := 6) (k := 0) (index := 11) (i := 2) (r := 3) inGX4 rfl (by decide) fl_X4_11 (by decide) rfl rfl dX4_remember_1 ?_
  refine lv_aload_n hx hcd dX4_remember_4 rfl (lv_at hl 0 rfl) ?_
  refine g_geti hC hW (C := RX4) (T := TX4) (N := 3) (ci := 6) (k := 1) (index := 22) (i := 2) inGX4 rfl (by decide) fl_X4_22 (by decide) rfl rfl dX4_remember_5 ?_
  refine lv_aload_n hx hcd dX4_remember_8 rfl (lv_at hl 0 rfl) ?_
  refine g_geti hC hW (C := RX4) (T := TX4) (N := 3) (ci := 6) (k := 2) (index := 18) (i := 2) inGX4 rfl (by decide) fl_X4_18 (by decide) rfl rfl dX4_remember_9 ?_
  refine lv_iadd hx hcd dX4_remember_12 ?_
  refine lv_bipush (v := 6) hx hcd dX4_remember_13 (by decide) ?_
  refine lv_irem hx hcd dX4_remember_15 (by decide) ?_
  obtain ⟨i1, ho⟩ := gd_some ho
  refine g_aald hC hW (i := 3) (by decide) rfl i1 dX4_remember_16 ?_
  refine lv_aload_n hx hcd dX4_remember_17 rfl (lv_at hl 1 rfl) ?_
  obtain ⟨σ3, h2, ho⟩ := gb_some ho
  refine g_callv hW (g_runV (As := [.ref (ad b)]) (rest := []) (i := (60 + 12 * (((σ 2 1) + (σ 2 2)) - ((σ 2 1) + (σ 2 2)) / (6 : Int32) * (6 : Int32)).toNatClampNeg)) hC hW (c_X0_copyFrom l D y ad (g_air_ring i1) hb _ _ h2) ok_X4_25 ⟨rfl, rfl, Nat.le_of_ble_eq_true rfl, Nat.le_of_ble_eq_true rfl⟩ (g_lt_air (g_air_ring i1)) (g_sh_air (g_air_ring i1)) rfl rfl rfl hl.1 rfl (Nat.le_of_ble_eq_true rfl) dX4_remember_18 ⟨Nat.zero_le _, Nat.zero_le _⟩) (fun H locs hW => ?_)
  refine lv_aload_n hx hcd dX4_remember_21 rfl (lv_at hl 0 rfl) ?_
  refine g_geti hC hW (C := RX4) (T := TX4) (N := 3) (ci := 6) (k := 2) (index := 18) (i := 2) inGX4 rfl (by decide) fl_X4_18 (by decide) rfl rfl dX4_remember_22 ?_
  refine lv_bipush (v := 6) hx hcd dX4_remember_25 (by decide) ?_
  refine lv_icmp_ge (tgt := 43) hx hcd dX4_remember_27 (by decide) (fun c4 => ?_) (fun c4 => ?_)
  · have ho := gif_p ho c4
    refine lv_aload_n hx hcd dX4_remember_43 rfl (lv_at hl 0 rfl) ?_
    refine lv_aload_n hx hcd dX4_remember_44 rfl (lv_at hl 0 rfl) ?_
    refine g_geti hC hW (C := RX4) (T := TX4) (N := 3) (ci := 6) (k := 1) (index := 22) (i := 2) inGX4 rfl (by decide) fl_X4_22 (by decide) rfl rfl dX4_remember_45 ?_
    refine lv_iconst (v := 1) hx hcd dX4_remember_48 (by decide) ?_
    refine lv_iadd hx hcd dX4_remember_49 ?_
    refine lv_bipush (v := 6) hx hcd dX4_remember_50 (by decide) ?_
    refine lv_irem hx hcd dX4_remember_52 (by decide) ?_
    obtain ⟨σ5, eσ5, ho⟩ := lt_ex ho
    refine g_puti hC hW (C := RX4) (T := TX4) (N := 3) (ci := 6) (k := 1) (index := 22) (i := 2) inGX4 tyX4 tyX4_ok nmX4 rfl (by decide) fl_X4_22 rfl (by decide) rfl rfl rfl rfl dX4_remember_53 (fun H locs hW => ?_)
    rw [← eσ5] at hW
    obtain rfl := Option.some.inj ho
    exact g_vret hC hr hlk hsz hW dX4_remember_56
  · have ho := gif_n ho c4
    refine lv_aload_n hx hcd dX4_remember_30 rfl (lv_at hl 0 rfl) ?_
    refine lv_dup hx hcd dX4_remember_31 rfl ?_
    refine g_geti hC hW (C := RX4) (T := TX4) (N := 3) (ci := 6) (k := 2) (index := 18) (i := 2) inGX4 rfl (by decide) fl_X4_18 (by decide) rfl rfl dX4_remember_32 ?_
    refine lv_iconst (v := 1) hx hcd dX4_remember_35 (by decide) ?_
    refine lv_iadd hx hcd dX4_remember_36 ?_
    obtain ⟨σ6, eσ6, ho⟩ := lt_ex ho
    refine g_puti hC hW (C := RX4) (T := TX4) (N := 3) (ci := 6) (k := 2) (index := 18) (i := 2) inGX4 tyX4 tyX4_ok nmX4 rfl (by decide) fl_X4_18 rfl (by decide) rfl rfl rfl rfl dX4_remember_37 (fun H locs hW => ?_)
    rw [← eσ6] at hW
    refine lv_goto (tgt := 56) hx hcd dX4_remember_40 (by decide) ?_
    obtain rfl := Option.some.inj ho
    exact g_vret hC hr hlk hsz hW dX4_remember_56
noncomputable def X4_takeBack (σ : gS) (b : Nat) : Option (gS) :=
  if (σ 2 2) ≤ 0 then (some σ) else (lt_ (g_up σ 2 2 ((σ 2 2) - (1 : Int32))) fun σ2 => gd (ib (((σ2 2 1) + (σ2 2 2)) - ((σ2 2 1) + (σ2 2 2)) / (6 : Int32) * (6 : Int32)) 6) <| (X0_copyFrom σ2 b (60 + 12 * (((σ2 2 1) + (σ2 2 2)) - ((σ2 2 1) + (σ2 2 2)) / (6 : Int32) * (6 : Int32)).toNatClampNeg)).bind fun σ5 => some σ5)
set_option maxHeartbeats 4000000 in
set_option maxRecDepth 100000 in
theorem c_X4_takeBack (l : Launch) (D : va_G) (y : ClassId × ClassId × ClassId) (ad : Nat → Nat) {b : Nat} (hb : g_air b) (σ : gS) (sz : Nat) {q : gS} (h : X4_takeBack σ b = some q) : Met l yX4_takeBack (Cond.code yX4_takeBack cX4_takeBack 2 none :: gl) ({ frames := 2, cells := 0, slots := 0, locals := 61 }) (g_Pc D y ad σ sz [.ref (ad 2), .ref (ad b)]) (g_Qv D y ad q sz) 0 0 (g_A ad sz) := by
  have ho := h
  unfold X4_takeBack at ho
  refine g_start (by decide) (Nat.le_of_ble_eq_true rfl) (fun p e s m below meth c ls hC hr hlk hsz hW hl => ?_)
  have hx := hC.1
  have hcd := hC.2.1
  have hl : lv_has ls 2 [(0, .ref (ad 2)), (1, .ref (ad b))] := hl
  refine lv_aload_n hx hcd dX4_takeBack_0 rfl (lv_at hl 0 rfl) ?_
  refine g_geti hC hW (C := RX4) (T := TX4) (N := 3) (ci := 6) (k := 2) (index := 18) (i := 2) inGX4 rfl (by decide) fl_X4_18 (by decide) rfl rfl dX4_takeBack_1 ?_
  refine lv_if_le (tgt := 38) hx hcd dX4_takeBack_4 (by decide) (fun c1 => ?_) (fun c1 => ?_)
  · have ho := gif_p ho c1
    obtain rfl := Option.some.inj ho
    exact g_vret hC hr hlk hsz hW dX4_takeBack_38
  · have ho := gif_n ho c1
    refine lv_aload_n hx hcd dX4_takeBack_7 rfl (lv_at hl 0 rfl) ?_
    refine lv_dup hx hcd dX4_takeBack_8 rfl ?_
    refine g_geti hC hW (C := RX4) (T := TX4) (N := 3) (ci := 6) (k := 2) (index := 18) (i := 2) inGX4 rfl (by decide) fl_X4_18 (by decide) rfl rfl dX4_takeBack_9 ?_
    refine lv_iconst (v := 1) hx hcd dX4_takeBack_12 (by decide) ?_
    refine lv_isub hx hcd dX4_takeBack_13 ?_
    obtain ⟨σ2, eσ2, ho⟩ := lt_ex ho
    refine g_puti hC hW (C := RX4) (T := TX4) (N := 3) (ci := 6) (k := 2) (index := 18) (i := 2) inGX4 tyX4 tyX4_ok nmX4 rfl (by decide) fl_X4_18 rfl (by decide) rfl rfl rfl rfl dX4_takeBack_14 (fun H locs hW => ?_)
    rw [← eσ2] at hW
    refine lv_aload_n hx hcd dX4_takeBack_17 rfl (lv_at hl 1 rfl) ?_
    refine lv_aload_n hx hcd dX4_takeBack_18 rfl (lv_at hl 0 rfl) ?_
    refine g_getr hC hW (C := RX4) (T := TX4) (N := 3) (ci := 6) (k := 0) (index := 11) (i := 2) (r := 3) inGX4 rfl (by decide) fl_X4_11 (by decide) rfl rfl dX4_takeBack_19 ?_
    refine lv_aload_n hx hcd dX4_takeBack_22 rfl (lv_at hl 0 rfl) ?_
    refine g_geti hC hW (C := RX4) (T := TX4) (N := 3) (ci := 6) (k := 1) (index := 22) (i := 2) inGX4 rfl (by decide) fl_X4_22 (by decide) rfl rfl dX4_takeBack_23 ?_
    refine lv_aload_n hx hcd dX4_takeBack_26 rfl (lv_at hl 0 rfl) ?_
    refine g_geti hC hW (C := RX4) (T := TX4) (N := 3) (ci := 6) (k := 2) (index := 18) (i := 2) inGX4 rfl (by decide) fl_X4_18 (by decide) rfl rfl dX4_takeBack_27 ?_
    refine lv_iadd hx hcd dX4_takeBack_30 ?_
    refine lv_bipush (v := 6) hx hcd dX4_takeBack_31 (by decide) ?_
    refine lv_irem hx hcd dX4_takeBack_33 (by decide) ?_
    obtain ⟨i3, ho⟩ := gd_some ho
    refine g_aald hC hW (i := 3) (by decide) rfl i3 dX4_takeBack_34 ?_
    obtain ⟨σ5, h4, ho⟩ := gb_some ho
    refine g_callv hW (g_runV (As := [.ref (ad (60 + 12 * (((σ2 2 1) + (σ2 2 2)) - ((σ2 2 1) + (σ2 2 2)) / (6 : Int32) * (6 : Int32)).toNatClampNeg))]) (rest := []) (i := b) hC hW (c_X0_copyFrom l D y ad hb (g_air_ring i3) _ _ h4) ok_X4_25 ⟨rfl, rfl, Nat.le_of_ble_eq_true rfl, Nat.le_of_ble_eq_true rfl⟩ (g_lt_air hb) (g_sh_air hb) rfl rfl rfl hl.1 rfl (Nat.le_of_ble_eq_true rfl) dX4_takeBack_35 ⟨Nat.zero_le _, Nat.zero_le _⟩) (fun H locs hW => ?_)
    obtain rfl := Option.some.inj ho
    exact g_vret hC hr hlk hsz hW dX4_takeBack_38
