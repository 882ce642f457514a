noncomputable def X0_costOfStay (σ : gS) (b : Nat) (x1 : Int32) : Option (Int32) :=
  gd (ib x1 20) <| if 0 ≤ (σ (b + 11) x1.toNatClampNeg) then (gd (ib (σ (b + 11) x1.toNatClampNeg) 8) <| (X0_rateOf σ (σ (b + 1) (σ (b + 11) x1.toNatClampNeg).toNatClampNeg)).bind fun r5 => gd (ib (x1 >>> ((1 : Int32) &&& 31)) 10) <| some (r5 * (σ (b + 7) (x1 >>> ((1 : Int32) &&& 31)).toNatClampNeg))) else (gd (ib (x1 >>> ((1 : Int32) &&& 31)) 10) <| some ((20 : Int32) * (σ (b + 7) (x1 >>> ((1 : Int32) &&& 31)).toNatClampNeg)))
set_option maxHeartbeats 4000000 in
set_option maxRecDepth 100000 in
theorem c_X0_costOfStay (l : Launch) (D : va_G) (y : ClassId × ClassId × ClassId) (ad : Nat → Nat) {b : Nat} (hb : g_air b) (x1 : Int32) (σ : gS) (sz : Nat) {q : Int32} (h : X0_costOfStay σ b x1 = some q) : Met l yX0_costOfStay (Cond.code yX0_costOfStay cX0_costOfStay 4 (some .int) :: gl) ({ frames := 1, cells := 0, slots := 0, locals := 20 }) (g_Pc D y ad σ sz [.ref (ad b), .int x1]) (g_Qi D y ad σ sz q) 0 0 (g_A ad sz) := by
  have ho := h
  unfold X0_costOfStay at ho
  refine g_start (by decide) (Nat.le_of_ble_eq_true rfl) (fun p e s m below meth c ls hC hr hlk hsz hW hl => ?_)
  have hx := hC.1
  have hcd := hC.2.1
  have hl : lv_has ls 4 [(0, .ref (ad b)), (1, .int x1)] := hl
  refine lv_aload_n hx hcd dX0_costOfStay_0 rfl (lv_at hl 0 rfl) ?_
  refine g_getr hC hW (C := RX0) (T := TX0) (N := 16) (ci := 2) (k := 15) (index := 46) (i := b) (r := (b + 11)) inGX0 rfl (by decide) fl_X0_46 (g_lt_air hb) (g_sh_air hb) rfl dX0_costOfStay_1 ?_
  refine lv_iload_n hx hcd dX0_costOfStay_4 rfl (lv_at hl 1 rfl) ?_
  obtain ⟨i1, ho⟩ := gd_some ho
  refine g_iald hC hW (i := (b + 11)) (g_lt_arr (j := 11) hb (by decide)) (g_sa11 hb) i1 dX0_costOfStay_5 ?_
  refine lv_istore_n (lv' := [(2, .int (σ (b + 11) x1.toNatClampNeg)), (0, .ref (ad b)), (1, .int x1)]) hx hcd dX0_costOfStay_6 rfl hl (by decide) rfl (fun ls hl => ?_)
  refine lv_iload_n hx hcd dX0_costOfStay_7 rfl (lv_at hl 0 rfl) ?_
  refine lv_if_ge (tgt := 16) hx hcd dX0_costOfStay_8 (by decide) (fun c2 => ?_) (fun c2 => ?_)
  · have ho := gif_p ho c2
    refine lv_aload_n hx hcd dX0_costOfStay_16 rfl (lv_at hl 1 rfl) ?_
    refine g_getr hC hW (C := RX0) (T := TX0) (N := 16) (ci := 2) (k := 5) (index := 15) (i := b) (r := (b + 1)) inGX0 rfl (by decide) fl_X0_15 (g_lt_air hb) (g_sh_air hb) rfl dX0_costOfStay_17 ?_
    refine lv_iload_n hx hcd dX0_costOfStay_20 rfl (lv_at hl 0 rfl) ?_
    obtain ⟨i3, ho⟩ := gd_some ho
    refine g_iald hC hW (i := (b + 1)) (g_lt_arr (j := 1) hb (by decide)) (g_sa1 hb) i3 dX0_costOfStay_21 ?_
    obtain ⟨r5, h4, ho⟩ := gb_some ho
    refine g_calli hW (g_runS (As := [.int (σ (b + 1) (σ (b + 11) x1.toNatClampNeg).toNatClampNeg)]) (rest := []) hC hW (c_X0_rateOf l D y ad (σ (b + 1) (σ (b + 11) x1.toNatClampNeg).toNatClampNeg) _ _ h4) ok_X0_138 ⟨rfl, rfl, Nat.le_of_ble_eq_true rfl, Nat.le_of_ble_eq_true rfl⟩ rfl hl.1 rfl (Nat.le_of_ble_eq_true rfl) dX0_costOfStay_22 ⟨Nat.zero_le _, Nat.zero_le _⟩) (fun H locs hW => ?_)
    refine lv_istore_n (lv' := [(3, .int r5), (2, .int (σ (b + 11) x1.toNatClampNeg)), (0, .ref (ad b)), (1, .int x1)]) hx hcd dX0_costOfStay_25 rfl hl (by decide) rfl (fun ls hl => ?_)
    refine lv_iload_n hx hcd dX0_costOfStay_26 rfl (lv_at hl 0 rfl) ?_
    refine lv_aload_n hx hcd dX0_costOfStay_27 rfl (lv_at hl 2 rfl) ?_
    refine g_getr hC hW (C := RX0) (T := TX0) (N := 16) (ci := 2) (k := 11) (index := 34) (i := b) (r := (b + 7)) inGX0 rfl (by decide) fl_X0_34 (g_lt_air hb) (g_sh_air hb) rfl dX0_costOfStay_28 ?_
    refine lv_iload_n hx hcd dX0_costOfStay_31 rfl (lv_at hl 3 rfl) ?_
    refine lv_iconst (v := 1) hx hcd dX0_costOfStay_32 (by decide) ?_
    refine lv_ishr hx hcd dX0_costOfStay_33 ?_
    obtain ⟨i6, ho⟩ := gd_some ho
    refine g_iald hC hW (i := (b + 7)) (g_lt_arr (j := 7) hb (by decide)) (g_sa7 hb) i6 dX0_costOfStay_34 ?_
    refine lv_imul hx hcd dX0_costOfStay_35 ?_
    obtain rfl := Option.some.inj ho
    exact g_iret hC hr hlk hsz hW dX0_costOfStay_36
  · have ho := gif_n ho c2
    refine lv_bipush (v := 20) hx hcd dX0_costOfStay_11 (by decide) ?_
    refine lv_goto (tgt := 25) hx hcd dX0_costOfStay_13 (by decide) ?_
    refine lv_istore_n (lv' := [(3, .int 20), (2, .int (σ (b + 11) x1.toNatClampNeg)), (0, .ref (ad b)), (1, .int x1)]) hx hcd dX0_costOfStay_25 rfl hl (by decide) rfl (fun ls hl => ?_)
    refine lv_iload_n hx hcd dX0_costOfStay_26 rfl (lv_at hl 0 rfl) ?_
    refine lv_aload_n hx hcd dX0_costOfStay_27 rfl (lv_at hl 2 rfl) ?_
    refine g_getr hC hW (C := RX0) (T := TX0) (N := 16) (ci := 2) (k := 11) (index := 34) (i := b) (r := (b + 7)) inGX0 rfl (by decide) fl_X0_34 (g_lt_air hb) (g_sh_air hb) rfl dX0_costOfStay_28 ?_
    refine lv_iload_n hx hcd dX0_costOfStay_31 rfl (lv_at hl 3 rfl) ?_
    refine lv_iconst (v := 1) hx hcd dX0_costOfStay_32 (by decide) ?_
    refine lv_ishr hx hcd dX0_costOfStay_33 ?_
    obtain ⟨i7, ho⟩ := gd_some ho
    refine g_iald hC hW (i := (b + 7)) (g_lt_arr (j := 7) hb (by decide)) (g_sa7 hb) i7 dX0_costOfStay_34 ?_
    refine lv_imul hx hcd dX0_costOfStay_35 ?_
    obtain rfl := Option.some.inj ho
    exact g_iret hC hr hlk hsz hW dX0_costOfStay_36
noncomputable def X0_costOfTurn (σ : gS) (b : Nat) (x1 : Int32) : Option (Int32) :=
  (X0_costOfStay σ b ((2 : Int32) * x1)).bind fun r2 => (X0_hasTow σ b x1).bind fun r4 => if r4 = 0 then (some r2) else ((X0_costOfStay σ b (((2 : Int32) * x1) + (1 : Int32))).bind fun r7 => some ((r2 + (10 : Int32)) + r7))
set_option maxHeartbeats 4000000 in
set_option maxRecDepth 100000 in
theorem c_X0_costOfTurn (l : Launch) (D : va_G) (y : ClassId × ClassId × ClassId) (ad : Nat → Nat) {b : Nat} (hb : g_air b) (x1 : Int32) (σ : gS) (sz : Nat) {q : Int32} (h : X0_costOfTurn σ b x1 = some q) : Met l yX0_costOfTurn (Cond.code yX0_costOfTurn cX0_costOfTurn 3 (some .int) :: gl) ({ frames := 2, cells := 0, slots := 0, locals := 43 }) (g_Pc D y ad σ sz [.ref (ad b), .int x1]) (g_Qi D y ad σ sz q) 0 0 (g_A ad sz) := by
  have ho := h
  unfold X0_costOfTurn at ho
  refine g_start (by decide) (Nat.le_of_ble_eq_true rfl) (fun p e s m below meth c ls hC hr hlk hsz hW hl => ?_)
  have hx := hC.1
  have hcd := hC.2.1
  have hl : lv_has ls 3 [(0, .ref (ad b)), (1, .int x1)] := hl
  refine lv_aload_n hx hcd dX0_costOfTurn_0 rfl (lv_at hl 0 rfl) ?_
  refine lv_iconst (v := 2) hx hcd dX0_costOfTurn_1 (by decide) ?_
  refine lv_iload_n hx hcd dX0_costOfTurn_2 rfl (lv_at hl 1 rfl) ?_
  refine lv_imul hx hcd dX0_costOfTurn_3 ?_
  obtain ⟨r2, h1, ho⟩ := gb_some ho
  refine g_calli hW (g_runV (As := [.int ((2 : Int32) * x1)]) (rest := []) (i := b) hC hW (c_X0_costOfStay l D y ad hb ((2 : Int32) * x1) _ _ h1) ok_X0_141 ⟨rfl, rfl, Nat.le_of_ble_eq_true rfl, Nat.le_of_ble_eq_true rfl⟩ (g_lt_air hb) (g_sh_air hb) rfl rfl rfl hl.1 rfl (Nat.le_of_ble_eq_true rfl) dX0_costOfTurn_4 ⟨Nat.zero_le _, Nat.zero_le _⟩) (fun H locs hW => ?_)
  refine lv_istore_n (lv' := [(2, .int r2), (0, .ref (ad b)), (1, .int x1)]) hx hcd dX0_costOfTurn_7 rfl hl (by decide) rfl (fun ls hl => ?_)
  refine lv_aload_n hx hcd dX0_costOfTurn_8 rfl (lv_at hl 1 rfl) ?_
  refine lv_iload_n hx hcd dX0_costOfTurn_9 rfl (lv_at hl 2 rfl) ?_
  obtain ⟨r4, h3, ho⟩ := gb_some ho
  refine g_calli hW (g_runV (As := [.int x1]) (rest := []) (i := b) hC hW (c_X0_hasTow l D y ad hb x1 _ _ h3) ok_X0_77 ⟨rfl, rfl, Nat.le_of_ble_eq_true rfl, Nat.le_of_ble_eq_true rfl⟩ (g_lt_air hb) (g_sh_air hb) rfl rfl rfl hl.1 rfl (Nat.le_of_ble_eq_true rfl) dX0_costOfTurn_10 ⟨Nat.zero_le _, Nat.zero_le _⟩) (fun H locs hW => ?_)
  refine lv_if_eq (tgt := 33) hx hcd dX0_costOfTurn_13 (by decide) (fun c5 => ?_) (fun c5 => ?_)
  · have ho := gif_p ho c5
    refine lv_iload_n hx hcd dX0_costOfTurn_33 rfl (lv_at hl 0 rfl) ?_
    obtain rfl := Option.some.inj ho
    exact g_iret hC hr hlk hsz hW dX0_costOfTurn_34
  · have ho := gif_n ho c5
    refine lv_iload_n hx hcd dX0_costOfTurn_16 rfl (lv_at hl 0 rfl) ?_
    refine lv_bipush (v := 10) hx hcd dX0_costOfTurn_17 (by decide) ?_
    refine lv_iadd hx hcd dX0_costOfTurn_19 ?_
    refine lv_aload_n hx hcd dX0_costOfTurn_20 rfl (lv_at hl 1 rfl) ?_
    refine lv_iconst (v := 2) hx hcd dX0_costOfTurn_21 (by decide) ?_
    refine lv_iload_n hx hcd dX0_costOfTurn_22 rfl (lv_at hl 2 rfl) ?_
    refine lv_imul hx hcd dX0_costOfTurn_23 ?_
    refine lv_iconst (v := 1) hx hcd dX0_costOfTurn_24 (by decide) ?_
    refine lv_iadd hx hcd dX0_costOfTurn_25 ?_
    obtain ⟨r7, h6, ho⟩ := gb_some ho
    refine g_calli hW (g_runV (As := [.int (((2 : Int32) * x1) + (1 : Int32))]) (rest := [.int (r2 + (10 : Int32))]) (i := b) hC hW (c_X0_costOfStay l D y ad hb (((2 : Int32) * x1) + (1 : Int32)) _ _ h6) ok_X0_141 ⟨rfl, rfl, Nat.le_of_ble_eq_true rfl, Nat.le_of_ble_eq_true rfl⟩ (g_lt_air hb) (g_sh_air hb) rfl rfl rfl hl.1 rfl (Nat.le_of_ble_eq_true rfl) dX0_costOfTurn_26 ⟨Nat.zero_le _, Nat.zero_le _⟩) (fun H locs hW => ?_)
    refine lv_iadd hx hcd dX0_costOfTurn_29 ?_
    refine lv_goto (tgt := 34) hx hcd dX0_costOfTurn_30 (by decide) ?_
    obtain rfl := Option.some.inj ho
    exact g_iret hC hr hlk hsz hW dX0_costOfTurn_34
noncomputable def X0_costOfAll_k0 (σ : gS) (b : Nat) (x1 : Int32) (x2 : Int32) : Option ((Int32 × Int32) ⊕ (Int32)) :=
  if (σ b 1) ≤ x2 then (some (.inr x1)) else ((X0_costOfTurn σ b x2).bind fun r3 => some (.inl ((x1 + r3), (x2 + 1))))
noncomputable def X0_costOfAll_s (σ : gS) (b : Nat) (a : Int32 × Int32) : Option ((Int32 × Int32) ⊕ (Int32)) :=
  X0_costOfAll_k0 σ b a.1 a.2
noncomputable def X0_costOfAll (σ : gS) (b : Nat) : Option (Int32) :=
  gr (X0_costOfAll_s σ b) (0, 0)
set_option maxHeartbeats 4000000 in
set_option maxRecDepth 100000 in
theorem l_X0_costOfAll {p : Program} {e : Env} {s : State} {m : MethodId} {args : Array Value} {below : List Frame} {meth : Method} {c : Code} (l : Launch) (D : va_G) (y : ClassId × ClassId × ClassId) (ad : Nat → Nat) {b : Nat} (hb : g_air b) (σ : gS) (sz : Nat) (hC : g_C p s m args c cX0_costOfAll 3 RX0 D y) (hr : meth.sig.returnType = (some .int)) (hlk : meth.locks = false) (hsz : s.heap.size = sz) {r0 : Int32} : ∀ a : Int32 × Int32, gr (X0_costOfAll_s σ b) a = some r0 → ∀ (H : Heap) (locs : List Loc) (ls : Array Slot), g_W (g_A ad sz) s.heap D y ad [] σ H locs → lv_has ls 3 [(0, .ref (ad b)), (1, .int a.1), (2, .int a.2)] → W p l e ({ frames := 3, cells := 0, slots := 0, locals := 65 }) s m args below meth c H locs 0 0 (MQ below (g_Qi D y ad σ sz r0) args s 0 0 (g_A ad sz)) (F0 m 4 ls []) := by
  have hx := hC.1
  have hcd := hC.2.1
  refine gr_all (fun a o ho hret hjmp => ?_)
  obtain ⟨x1, x2⟩ := a
  intro H locs ls hW hl
  have ho : X0_costOfAll_k0 σ b x1 x2 = some o := ho
  unfold X0_costOfAll_k0 at ho
  refine lv_iload_n hx hcd dX0_costOfAll_4 rfl (lv_at hl 2 rfl) ?_
  refine lv_aload_n hx hcd dX0_costOfAll_5 rfl (lv_at hl 0 rfl) ?_
  refine g_geti hC hW (C := RX0) (T := TX0) (N := 16) (ci := 2) (k := 1) (index := 58) (i := b) inGX0 rfl (by decide) fl_X0_58 (g_lt_air hb) (g_sh_air hb) rfl dX0_costOfAll_6 ?_
  refine lv_icmp_ge (tgt := 26) hx hcd dX0_costOfAll_9 (by decide) (fun c1 => ?_) (fun c1 => ?_)
  · have ho := gif_p ho c1
    refine lv_iload_n hx hcd dX0_costOfAll_26 rfl (lv_at hl 1 rfl) ?_
    obtain rfl := hret _ (Option.some.inj ho).symm
    exact g_iret hC hr hlk hsz hW dX0_costOfAll_27
  · have ho := gif_n ho c1
    refine lv_iload_n hx hcd dX0_costOfAll_12 rfl (lv_at hl 1 rfl) ?_
    refine lv_aload_n hx hcd dX0_costOfAll_13 rfl (lv_at hl 0 rfl) ?_
    refine lv_iload_n hx hcd dX0_costOfAll_14 rfl (lv_at hl 2 rfl) ?_
    obtain ⟨r3, h2, ho⟩ := gb_some ho
    refine g_calli hW (g_runV (As := [.int x2]) (rest := [.int x1]) (i := b) hC hW (c_X0_costOfTurn l D y ad hb x2 _ _ h2) ok_X0_144 ⟨rfl, rfl, Nat.le_of_ble_eq_true rfl, Nat.le_of_ble_eq_true rfl⟩ (g_lt_air hb) (g_sh_air hb) rfl rfl rfl hl.1 rfl (Nat.le_of_ble_eq_true rfl) dX0_costOfAll_15 ⟨Nat.zero_le _, Nat.zero_le _⟩) (fun H locs hW => ?_)
    refine lv_iadd hx hcd dX0_costOfAll_18 ?_
    refine lv_istore_n (lv' := [(1, .int (x1 + r3)), (0, .ref (ad b)), (2, .int x2)]) hx hcd dX0_costOfAll_19 rfl hl (by decide) rfl (fun ls hl => ?_)
    refine lv_iinc (v := x2 + 1) (lv' := [(2, .int (x2 + 1)), (1, .int (x1 + r3)), (0, .ref (ad b))]) hx hcd dX0_costOfAll_20 hl (k := 2) rfl rfl (by decide) rfl (fun ls hl => ?_)
    refine lv_goto (tgt := 4) hx hcd dX0_costOfAll_23 (by decide) ?_
    exact hjmp _ (Option.some.inj ho).symm _ _ _ hW (lv_sub hl [2, 1, 0] rfl)
set_option maxHeartbeats 4000000 in
set_option maxRecDepth 100000 in
theorem c_X0_costOfAll (l : Launch) (D : va_G) (y : ClassId × ClassId × ClassId) (ad : Nat → Nat) {b : Nat} (hb : g_air b) (σ : gS) (sz : Nat) {q : Int32} (h : X0_costOfAll σ b = some q) : Met l yX0_costOfAll (Cond.code yX0_costOfAll cX0_costOfAll 3 (some .int) :: gl) ({ frames := 3, cells := 0, slots := 0, locals := 65 }) (g_Pc D y ad σ sz [.ref (ad b)]) (g_Qi D y ad σ sz q) 0 0 (g_A ad sz) := by
  have ho := h
  unfold X0_costOfAll at ho
  refine g_start (by decide) (Nat.le_of_ble_eq_true rfl) (fun p e s m below meth c ls hC hr hlk hsz hW hl => ?_)
  have hx := hC.1
  have hcd := hC.2.1
  have hl : lv_has ls 3 [(0, .ref (ad b))] := hl
  refine lv_iconst (v := 0) hx hcd dX0_costOfAll_0 (by decide) ?_
  refine lv_istore_n (lv' := [(1, .int 0), (0, .ref (ad b))]) hx hcd dX0_costOfAll_1 rfl hl (by decide) rfl (fun ls hl => ?_)
  refine lv_iconst (v := 0) hx hcd dX0_costOfAll_2 (by decide) ?_
  refine lv_istore_n (lv' := [(2, .int 0), (1, .int 0), (0, .ref (ad b))]) hx hcd dX0_costOfAll_3 rfl hl (by decide) rfl (fun ls hl => ?_)
  exact l_X0_costOfAll l D y ad hb σ sz hC hr hlk hsz _ ho _ _ _ hW (lv_sub hl [2, 1, 0] rfl)
noncomputable def X0_isOnRemote (σ : gS) (b : Nat) (x1 : Int32) : Option (Int32) :=
  (X0_isOnStand σ b x1).bind fun r2 => if r2 = 0 then (some 0) else (gd (ib x1 20) <| gd (ib (σ (b + 11) x1.toNatClampNeg) 8) <| if (σ (b + 1) (σ (b + 11) x1.toNatClampNeg).toNatClampNeg) = 2 then (some 1) else (some 0))
set_option maxHeartbeats 4000000 in
set_option maxRecDepth 100000 in
theorem c_X0_isOnRemote (l : Launch) (D : va_G) (y : ClassId × ClassId × ClassId) (ad : Nat → Nat) {b : Nat} (hb : g_air b) (x1 : Int32) (σ : gS) (sz : Nat) {q : Int32} (h : X0_isOnRemote σ b x1 = some q) : Met l yX0_isOnRemote (Cond.code yX0_isOnRemote cX0_isOnRemote 2 (some .boolean) :: gl) ({ frames := 1, cells := 0, slots := 0, locals := 21 }) (g_Pc D y ad σ sz [.ref (ad b), .int x1]) (g_Qi D y ad σ sz q) 0 0 (g_A ad sz) := by
  have ho := h
  unfold X0_isOnRemote at ho
  refine g_start (by decide) (Nat.le_of_ble_eq_true rfl) (fun p e s m below meth c ls hC hr hlk hsz hW hl => ?_)
  have hx := hC.1
  have hcd := hC.2.1
  have hl : lv_has ls 2 [(0, .ref (ad b)), (1, .int x1)] := hl
  refine lv_aload_n hx hcd dX0_isOnRemote_0 rfl (lv_at hl 0 rfl) ?_
  refine lv_iload_n hx hcd dX0_isOnRemote_1 rfl (lv_at hl 1 rfl) ?_
  obtain ⟨r2, h1, ho⟩ := gb_some ho
  refine g_calli hW (g_runV (As := [.int x1]) (rest := []) (i := b) hC hW (c_X0_isOnStand l D y ad hb x1 _ _ h1) ok_X0_99 ⟨rfl, rfl, Nat.le_of_ble_eq_true rfl, Nat.le_of_ble_eq_true rfl⟩ (g_lt_air hb) (g_sh_air hb) rfl rfl rfl hl.1 rfl (Nat.le_of_ble_eq_true rfl) dX0_isOnRemote_2 ⟨Nat.zero_le _, Nat.zero_le _⟩) (fun H locs hW => ?_)
  refine lv_if_eq (tgt := 27) hx hcd dX0_isOnRemote_5 (by decide) (fun c3 => ?_) (fun c3 => ?_)
  · have ho := gif_p ho c3
    refine lv_iconst (v := 0) hx hcd dX0_isOnRemote_27 (by decide) ?_
    obtain rfl := Option.some.inj ho
    exact g_zret (r := 0) hC hr hlk hsz hW (by decide) dX0_isOnRemote_28
  · have ho := gif_n ho c3
    refine lv_aload_n hx hcd dX0_isOnRemote_8 rfl (lv_at hl 0 rfl) ?_
    refine g_getr hC hW (C := RX0) (T := TX0) (N := 16) (ci := 2) (k := 5) (index := 15) (i := b) (r := (b + 1)) inGX0 rfl (by decide) fl_X0_15 (g_lt_air hb) (g_sh_air hb) rfl dX0_isOnRemote_9 ?_
    refine lv_aload_n hx hcd dX0_isOnRemote_12 rfl (lv_at hl 0 rfl) ?_
    refine g_getr hC hW (C := RX0) (T := TX0) (N := 16) (ci := 2) (k := 15) (index := 46) (i := b) (r := (b + 11)) inGX0 rfl (by decide) fl_X0_46 (g_lt_air hb) (g_sh_air hb) rfl dX0_isOnRemote_13 ?_
    refine lv_iload_n hx hcd dX0_isOnRemote_16 rfl (lv_at hl 1 rfl) ?_
    obtain ⟨i4, ho⟩ := gd_some ho
    refine g_iald hC hW (i := (b + 11)) (g_lt_arr (j := 11) hb (by decide)) (g_sa11 hb) i4 dX0_isOnRemote_17 ?_
    obtain ⟨i5, ho⟩ := gd_some ho
    refine g_iald hC hW (i := (b + 1)) (g_lt_arr (j := 1) hb (by decide)) (g_sa1 hb) i5 dX0_isOnRemote_18 ?_
    refine lv_iconst (v := 2) hx hcd dX0_isOnRemote_19 (by decide) ?_
    refine lv_icmp_ne (tgt := 27) hx hcd dX0_isOnRemote_20 (by decide) (fun c6 => ?_) (fun c6 => ?_)
    · have ho := gif_n ho c6
      refine lv_iconst (v := 0) hx hcd dX0_isOnRemote_27 (by decide) ?_
      obtain rfl := Option.some.inj ho
      exact g_zret (r := 0) hC hr hlk hsz hW (by decide) dX0_isOnRemote_28
    · have ho := gif_p ho c6
      refine lv_iconst (v := 1) hx hcd dX0_isOnRemote_23 (by decide) ?_
      refine lv_goto (tgt := 28) hx hcd dX0_isOnRemote_24 (by decide) ?_
      obtain rfl := Option.some.inj ho
      exact g_zret (r := 1) hC hr hlk hsz hW (by decide) dX0_isOnRemote_28
noncomputable def X0_weightsOnRemote_k0 (σ : gS) (b : Nat) (x1 : Int32) (x2 : Int32) : Option ((Int32 × Int32) ⊕ (Int32)) :=
  if (σ b 1) ≤ x2 then (some (.inr x1)) else ((X0_isOnRemote σ b ((2 : Int32) * x2)).bind fun r3 => if r3 = 0 then ((X0_isOnRemote σ b (((2 : Int32) * x2) + (1 : Int32))).bind fun r7 => if r7 = 0 then (some (.inl (x1, (x2 + 1)))) else (gd (ib x2 10) <| some (.inl ((x1 + (σ (b + 7) x2.toNatClampNeg)), (x2 + 1))))) else (gd (ib x2 10) <| some (.inl ((x1 + (σ (b + 7) x2.toNatClampNeg)), (x2 + 1)))))
noncomputable def X0_weightsOnRemote_s (σ : gS) (b : Nat) (a : Int32 × Int32) : Option ((Int32 × Int32) ⊕ (Int32)) :=
  X0_weightsOnRemote_k0 σ b a.1 a.2
noncomputable def X0_weightsOnRemote (σ : gS) (b : Nat) : Option (Int32) :=
  gr (X0_weightsOnRemote_s σ b) (0, 0)
set_option maxHeartbeats 4000000 in
set_option maxRecDepth 100000 in
theorem l_X0_weightsOnRemote {p : Program} {e : Env} {s : State} {m : MethodId} {args : Array Value} {below : List Frame} {meth : Method} {c : Code} (l : Launch) (D : va_G) (y : ClassId × ClassId × ClassId) (ad : Nat → Nat) {b : Nat} (hb : g_air b) (σ : gS) (sz : Nat) (hC : g_C p s m args c cX0_weightsOnRemote 3 RX0 D y) (hr : meth.sig.returnType = (some .int)) (hlk : meth.locks = false) (hsz : s.heap.size = sz) {r0 : Int32} : ∀ a : Int32 × Int32, gr (X0_weightsOnRemote_s σ b) a = some r0 → ∀ (H : Heap) (locs : List Loc) (ls : Array Slot), g_W (g_A ad sz) s.heap D y ad [] σ H locs → lv_has ls 3 [(0, .ref (ad b)), (1, .int a.1), (2, .int a.2)] → W p l e ({ frames := 2, cells := 0, slots := 0, locals := 42 }) s m args below meth c H locs 0 0 (MQ below (g_Qi D y ad σ sz r0) args s 0 0 (g_A ad sz)) (F0 m 4 ls []) := by
  have hx := hC.1
  have hcd := hC.2.1
  refine gr_all (fun a o ho hret hjmp => ?_)
  obtain ⟨x1, x2⟩ := a
  intro H locs ls hW hl
  have ho : X0_weightsOnRemote_k0 σ b x1 x2 = some o := ho
  unfold X0_weightsOnRemote_k0 at ho
  refine lv_iload_n hx hcd dX0_weightsOnRemote_4 rfl (lv_at hl 2 rfl) ?_
  refine lv_aload_n hx hcd dX0_weightsOnRemote_5 rfl (lv_at hl 0 rfl) ?_
  refine g_geti hC hW (C := RX0) (T := TX0) (N := 16) (ci := 2) (k := 1) (index := 58) (i := b) inGX0 rfl (by decide) fl_X0_58 (g_lt_air hb) (g_sh_air hb) rfl dX0_weightsOnRemote_6 ?_
  refine lv_icmp_ge (tgt := 49) hx hcd dX0_weightsOnRemote_9 (by decide) (fun c1 => ?_) (fun c1 => ?_)
  · have ho := gif_p ho c1
    refine lv_iload_n hx hcd dX0_weightsOnRemote_49 rfl (lv_at hl 1 rfl) ?_
    obtain rfl := hret _ (Option.some.inj ho).symm
    exact g_iret hC hr hlk hsz hW dX0_weightsOnRemote_50
  · have ho := gif_n ho c1
    refine lv_aload_n hx hcd dX0_weightsOnRemote_12 rfl (lv_at hl 0 rfl) ?_
    refine lv_iconst (v := 2) hx hcd dX0_weightsOnRemote_13 (by decide) ?_
    refine lv_iload_n hx hcd dX0_weightsOnRemote_14 rfl (lv_at hl 2 rfl) ?_
    refine lv_imul hx hcd dX0_weightsOnRemote_15 ?_
    obtain ⟨r3, h2, ho⟩ := gb_some ho
    refine g_calli hW (g_runV (As := [.int ((2 : Int32) * x2)]) (rest := []) (i := b) hC hW (c_X0_isOnRemote l D y ad hb ((2 : Int32) * x2) _ _ h2) ok_X0_147 ⟨rfl, rfl, Nat.le_of_ble_eq_true rfl, Nat.le_of_ble_eq_true rfl⟩ (g_lt_air hb) (g_sh_air hb) rfl rfl rfl hl.1 rfl (Nat.le_of_ble_eq_true rfl) dX0_weightsOnRemote_16 ⟨Nat.zero_le _, Nat.zero_le _⟩) (fun H locs hW => ?_)
    refine lv_if_ne (tgt := 34) hx hcd dX0_weightsOnRemote_19 (by decide) (fun c4 => ?_) (fun c4 => ?_)
    · have ho := gif_n ho c4
      refine lv_iload_n hx hcd dX0_weightsOnRemote_34 rfl (lv_at hl 1 rfl) ?_
      refine lv_aload_n hx hcd dX0_weightsOnRemote_35 rfl (lv_at hl 0 rfl) ?_
      refine g_getr hC hW (C := RX0) (T := TX0) (N := 16) (ci := 2) (k := 11) (index := 34) (i := b) (r := (b + 7)) inGX0 rfl (by decide) fl_X0_34 (g_lt_air hb) (g_sh_air hb) rfl dX0_weightsOnRemote_36 ?_
      refine lv_iload_n hx hcd dX0_weightsOnRemote_39 rfl (lv_at hl 2 rfl) ?_
      obtain ⟨i5, ho⟩ := gd_some ho
      refine g_iald hC hW (i := (b + 7)) (g_lt_arr (j := 7) hb (by decide)) (g_sa7 hb) i5 dX0_weightsOnRemote_40 ?_
      refine lv_iadd hx hcd dX0_weightsOnRemote_41 ?_
      refine lv_istore_n (lv' := [(1, .int (x1 + (σ (b + 7) x2.toNatClampNeg))), (0, .ref (ad b)), (2, .int x2)]) hx hcd dX0_weightsOnRemote_42 rfl hl (by decide) rfl (fun ls hl => ?_)
      refine lv_iinc (v := x2 + 1) (lv' := [(2, .int (x2 + 1)), (1, .int (x1 + (σ (b + 7) x2.toNatClampNeg))), (0, .ref (ad b))]) hx hcd dX0_weightsOnRemote_43 hl (k := 2) rfl rfl (by decide) rfl (fun ls hl => ?_)
      refine lv_goto (tgt := 4) hx hcd dX0_weightsOnRemote_46 (by decide) ?_
      exact hjmp _ (Option.some.inj ho).symm _ _ _ hW (lv_sub hl [2, 1, 0] rfl)
    · have ho := gif_p ho c4
      refine lv_aload_n hx hcd dX0_weightsOnRemote_22 rfl (lv_at hl 0 rfl) ?_
      refine lv_iconst (v := 2) hx hcd dX0_weightsOnRemote_23 (by decide) ?_
      refine lv_iload_n hx hcd dX0_weightsOnRemote_24 rfl (lv_at hl 2 rfl) ?_
      refine lv_imul hx hcd dX0_weightsOnRemote_25 ?_
      refine lv_iconst (v := 1) hx hcd dX0_weightsOnRemote_26 (by decide) ?_
      refine lv_iadd hx hcd dX0_weightsOnRemote_27 ?_
      obtain ⟨r7, h6, ho⟩ := gb_some ho
      refine g_calli hW (g_runV (As := [.int (((2 : Int32) * x2) + (1 : Int32))]) (rest := []) (i := b) hC hW (c_X0_isOnRemote l D y ad hb (((2 : Int32) * x2) + (1 : Int32)) _ _ h6) ok_X0_147 ⟨rfl, rfl, Nat.le_of_ble_eq_true rfl, Nat.le_of_ble_eq_true rfl⟩ (g_lt_air hb) (g_sh_air hb) rfl rfl rfl hl.1 rfl (Nat.le_of_ble_eq_true rfl) dX0_weightsOnRemote_28 ⟨Nat.zero_le _, Nat.zero_le _⟩) (fun H locs hW => ?_)
      refine lv_if_eq (tgt := 43) hx hcd dX0_weightsOnRemote_31 (by decide) (fun c8 => ?_) (fun c8 => ?_)
      · have ho := gif_p ho c8
        refine lv_iinc (v := x2 + 1) (lv' := [(2, .int (x2 + 1)), (0, .ref (ad b)), (1, .int x1)]) hx hcd dX0_weightsOnRemote_43 hl (k := 2) rfl rfl (by decide) rfl (fun ls hl => ?_)
        refine lv_goto (tgt := 4) hx hcd dX0_weightsOnRemote_46 (by decide) ?_
        exact hjmp _ (Option.some.inj ho).symm _ _ _ hW (lv_sub hl [1, 2, 0] rfl)
      · have ho := gif_n ho c8
        refine lv_iload_n hx hcd dX0_weightsOnRemote_34 rfl (lv_at hl 1 rfl) ?_
        refine lv_aload_n hx hcd dX0_weightsOnRemote_35 rfl (lv_at hl 0 rfl) ?_
        refine g_getr hC hW (C := RX0) (T := TX0) (N := 16) (ci := 2) (k := 11) (index := 34) (i := b) (r := (b + 7)) inGX0 rfl (by decide) fl_X0_34 (g_lt_air hb) (g_sh_air hb) rfl dX0_weightsOnRemote_36 ?_
        refine lv_iload_n hx hcd dX0_weightsOnRemote_39 rfl (lv_at hl 2 rfl) ?_
        obtain ⟨i9, ho⟩ := gd_some ho
        refine g_iald hC hW (i := (b + 7)) (g_lt_arr (j := 7) hb (by decide)) (g_sa7 hb) i9 dX0_weightsOnRemote_40 ?_
        refine lv_iadd hx hcd dX0_weightsOnRemote_41 ?_
        refine lv_istore_n (lv' := [(1, .int (x1 + (σ (b + 7) x2.toNatClampNeg))), (0, .ref (ad b)), (2, .int x2)]) hx hcd dX0_weightsOnRemote_42 rfl hl (by decide) rfl (fun ls hl => ?_)
        refine lv_iinc (v := x2 + 1) (lv' := [(2, .int (x2 + 1)), (1, .int (x1 + (σ (b + 7) x2.toNatClampNeg))), (0, .ref (ad b))]) hx hcd dX0_weightsOnRemote_43 hl (k := 2) rfl rfl (by decide) rfl (fun ls hl => ?_)
        refine lv_goto (tgt := 4) hx hcd dX0_weightsOnRemote_46 (by decide) ?_
        exact hjmp _ (Option.some.inj ho).symm _ _ _ hW (lv_sub hl [2, 1, 0] rfl)
set_option maxHeartbeats 4000000 in
set_option maxRecDepth 100000 in
theorem c_X0_weightsOnRemote (l : Launch) (D : va_G) (y : ClassId × ClassId × ClassId) (ad : Nat → Nat) {b : Nat} (hb : g_air b) (σ : gS) (sz : Nat) {q : Int32} (h : X0_weightsOnRemote σ b = some q) : Met l yX0_weightsOnRemote (Cond.code yX0_weightsOnRemote cX0_weightsOnRemote 3 (some .int) :: gl) ({ frames := 2, cells := 0, slots := 0, locals := 42 }) (g_Pc D y ad σ sz [.ref (ad b)]) (g_Qi D y ad σ sz q) 0 0 (g_A ad sz) := by
  have ho := h
  unfold X0_weightsOnRemote at ho
  refine g_start (by decide) (Nat.le_of_ble_eq_true rfl) (fun p e s m below meth c ls hC hr hlk hsz hW hl => ?_)
  have hx := hC.1
  have hcd := hC.2.1
  have hl : lv_has ls 3 [(0, .ref (ad b))] := hl
  refine lv_iconst (v := 0) hx hcd dX0_weightsOnRemote_0 (by decide) ?_
  refine lv_istore_n (lv' := [(1, .int 0), (0, .ref (ad b))]) hx hcd dX0_weightsOnRemote_1 rfl hl (by decide) rfl (fun ls hl => ?_)
  refine lv_iconst (v := 0) hx hcd dX0_weightsOnRemote_2 (by decide) ?_
  refine lv_istore_n (lv' := [(2, .int 0), (1, .int 0), (0, .ref (ad b))]) hx hcd dX0_weightsOnRemote_3 rfl hl (by decide) rfl (fun ls hl => ?_)
  exact l_X0_weightsOnRemote l D y ad hb σ sz hC hr hlk hsz _ ho _ _ _ hW (lv_sub hl [2, 1, 0] rfl)
noncomputable def X0_comesBefore (σ : gS) (b : Nat) (x1 : Int32) (x2 : Int32) : Option (Int32) :=
  gd (ib x1 20) <| gd (ib x2 20) <| if (σ (b + 9) x1.toNatClampNeg) = (σ (b + 9) x2.toNatClampNeg) then (gd (ib (x1 >>> ((1 : Int32) &&& 31)) 10) <| gd (ib (x2 >>> ((1 : Int32) &&& 31)) 10) <| if (σ (b + 7) (x1 >>> ((1 : Int32) &&& 31)).toNatClampNeg) = (σ (b + 7) (x2 >>> ((1 : Int32) &&& 31)).toNatClampNeg) then (if x2 ≤ x1 then (some 0) else (some 1)) else (if (σ (b + 7) (x1 >>> ((1 : Int32) &&& 31)).toNatClampNeg) ≤ (σ (b + 7) (x2 >>> ((1 : Int32) &&& 31)).toNatClampNeg) then (some 0) else (some 1))) else (if (σ (b + 9) x2.toNatClampNeg) ≤ (σ (b + 9) x1.toNatClampNeg) then (some 0) else (some 1))
set_option maxHeartbeats 4000000 in
set_option maxRecDepth 100000 in
theorem c_X0_comesBefore (l : Launch) (D : va_G) (y : ClassId × ClassId × ClassId) (ad : Nat → Nat) {b : Nat} (hb : g_air b) (x1 : Int32) (x2 : Int32) (σ : gS) (sz : Nat) {q : Int32} (h : X0_comesBefore σ b x1 x2 = some q) : Met l yX0_comesBefore (Cond.code yX0_comesBefore cX0_comesBefore 3 (some .boolean) :: gl) ({ frames := 0, cells := 0, slots := 0, locals := 0 }) (g_Pc D y ad σ sz [.ref (ad b), .int x1, .int x2]) (g_Qi D y ad σ sz q) 0 0 (g_A ad sz) := by
  have ho := h
  unfold X0_comesBefore at ho
  refine g_start (by decide) (Nat.le_of_ble_eq_true rfl) (fun p e s m below meth c ls hC hr hlk hsz hW hl => ?_)
  have hx := hC.1
  have hcd := hC.2.1
  have hl : lv_has ls 3 [(0, .ref (ad b)), (1, .int x1), (2, .int x2)] := hl
  refine lv_aload_n hx hcd dX0_comesBefore_0 rfl (lv_at hl 0 rfl) ?_
  refine g_getr hC hW (C := RX0) (T := TX0) (N := 16) (ci := 2) (k := 13) (index := 40) (i := b) (r := (b + 9)) inGX0 rfl (by decide) fl_X0_40 (g_lt_air hb) (g_sh_air hb) rfl dX0_comesBefore_1 ?_
  refine lv_iload_n hx hcd dX0_comesBefore_4 rfl (lv_at hl 1 rfl) ?_
  obtain ⟨i1, ho⟩ := gd_some ho
  refine g_iald hC hW (i := (b + 9)) (g_lt_arr (j := 9) hb (by decide)) (g_sa9 hb) i1 dX0_comesBefore_5 ?_
  refine lv_aload_n hx hcd dX0_comesBefore_6 rfl (lv_at hl 0 rfl) ?_
  refine g_getr hC hW (C := RX0) (T := TX0) (N := 16) (ci := 2) (k := 13) (index := 40) (i := b) (r := (b + 9)) inGX0 rfl (by decide) fl_X0_40 (g_lt_air hb) (g_sh_air hb) rfl dX0_comesBefore_7 ?_
  refine lv_iload_n hx hcd dX0_comesBefore_10 rfl (lv_at hl 2 rfl) ?_
  obtain ⟨i2, ho⟩ := gd_some ho
  refine g_iald hC hW (i := (b + 9)) (g_lt_arr (j := 9) hb (by decide)) (g_sa9 hb) i2 dX0_comesBefore_11 ?_
  refine lv_icmp_eq (tgt := 36) hx hcd dX0_comesBefore_12 (by decide) (fun c3 => ?_) (fun c3 => ?_)
  · have ho := gif_p ho c3
    refine lv_aload_n hx hcd dX0_comesBefore_36 rfl (lv_at hl 0 rfl) ?_
    refine g_getr hC hW (C := RX0) (T := TX0) (N := 16) (ci := 2) (k := 11) (index := 34) (i := b) (r := (b + 7)) inGX0 rfl (by decide) fl_X0_34 (g_lt_air hb) (g_sh_air hb) rfl dX0_comesBefore_37 ?_
    refine lv_iload_n hx hcd dX0_comesBefore_40 rfl (lv_at hl 1 rfl) ?_
    refine lv_iconst (v := 1) hx hcd dX0_comesBefore_41 (by decide) ?_
    refine lv_ishr hx hcd dX0_comesBefore_42 ?_
    obtain ⟨i4, ho⟩ := gd_some ho
    refine g_iald hC hW (i := (b + 7)) (g_lt_arr (j := 7) hb (by decide)) (g_sa7 hb) i4 dX0_comesBefore_43 ?_
    refine lv_aload_n hx hcd dX0_comesBefore_44 rfl (lv_at hl 0 rfl) ?_
    refine g_getr hC hW (C := RX0) (T := TX0) (N := 16) (ci := 2) (k := 11) (index := 34) (i := b) (r := (b + 7)) inGX0 rfl (by decide) fl_X0_34 (g_lt_air hb) (g_sh_air hb) rfl dX0_comesBefore_45 ?_
    refine lv_iload_n hx hcd dX0_comesBefore_48 rfl (lv_at hl 2 rfl) ?_
    refine lv_iconst (v := 1) hx hcd dX0_comesBefore_49 (by decide) ?_
    refine lv_ishr hx hcd dX0_comesBefore_50 ?_
    obtain ⟨i5, ho⟩ := gd_some ho
    refine g_iald hC hW (i := (b + 7)) (g_lt_arr (j := 7) hb (by decide)) (g_sa7 hb) i5 dX0_comesBefore_51 ?_
    refine lv_icmp_eq (tgt := 80) hx hcd dX0_comesBefore_52 (by decide) (fun c6 => ?_) (fun c6 => ?_)
    · have ho := gif_p ho c6
      refine lv_iload_n hx hcd dX0_comesBefore_80 rfl (lv_at hl 1 rfl) ?_
      refine lv_iload_n hx hcd dX0_comesBefore_81 rfl (lv_at hl 2 rfl) ?_
      refine lv_icmp_ge (tgt := 89) hx hcd dX0_comesBefore_82 (by decide) (fun c7 => ?_) (fun c7 => ?_)
      · have ho := gif_p ho c7
        refine lv_iconst (v := 0) hx hcd dX0_comesBefore_89 (by decide) ?_
        obtain rfl := Option.some.inj ho
        exact g_zret (r := 0) hC hr hlk hsz hW (by decide) dX0_comesBefore_90
      · have ho := gif_n ho c7
        refine lv_iconst (v := 1) hx hcd dX0_comesBefore_85 (by decide) ?_
        refine lv_goto (tgt := 90) hx hcd dX0_comesBefore_86 (by decide) ?_
        obtain rfl := Option.some.inj ho
        exact g_zret (r := 1) hC hr hlk hsz hW (by decide) dX0_comesBefore_90
    · have ho := gif_n ho c6
      refine lv_aload_n hx hcd dX0_comesBefore_55 rfl (lv_at hl 0 rfl) ?_
      refine g_getr hC hW (C := RX0) (T := TX0) (N := 16) (ci := 2) (k := 11) (index := 34) (i := b) (r := (b + 7)) inGX0 rfl (by decide) fl_X0_34 (g_lt_air hb) (g_sh_air hb) rfl dX0_comesBefore_56 ?_
      refine lv_iload_n hx hcd dX0_comesBefore_59 rfl (lv_at hl 1 rfl) ?_
      refine lv_iconst (v := 1) hx hcd dX0_comesBefore_60 (by decide) ?_
      refine lv_ishr hx hcd dX0_comesBefore_61 ?_
      refine g_iald hC hW (i := (b + 7)) (g_lt_arr (j := 7) hb (by decide)) (g_sa7 hb) i4 dX0_comesBefore_62 ?_
      refine lv_aload_n hx hcd dX0_comesBefore_63 rfl (lv_at hl 0 rfl) ?_
      refine g_getr hC hW (C := RX0) (T := TX0) (N := 16) (ci := 2) (k := 11) (index := 34) (i := b) (r := (b + 7)) inGX0 rfl (by decide) fl_X0_34 (g_lt_air hb) (g_sh_air hb) rfl dX0_comesBefore_64 ?_
      refine lv_iload_n hx hcd dX0_comesBefore_67 rfl (lv_at hl 2 rfl) ?_
      refine lv_iconst (v := 1) hx hcd dX0_comesBefore_68 (by decide) ?_
      refine lv_ishr hx hcd dX0_comesBefore_69 ?_
      refine g_iald hC hW (i := (b + 7)) (g_lt_arr (j := 7) hb (by decide)) (g_sa7 hb) i5 dX0_comesBefore_70 ?_
      refine lv_icmp_le (tgt := 78) hx hcd dX0_comesBefore_71 (by decide) (fun c8 => ?_) (fun c8 => ?_)
      · have ho := gif_p ho c8
        refine lv_iconst (v := 0) hx hcd dX0_comesBefore_78 (by decide) ?_
        obtain rfl := Option.some.inj ho
        exact g_zret (r := 0) hC hr hlk hsz hW (by decide) dX0_comesBefore_79
      · have ho := gif_n ho c8
        refine lv_iconst (v := 1) hx hcd dX0_comesBefore_74 (by decide) ?_
        refine lv_goto (tgt := 79) hx hcd dX0_comesBefore_75 (by decide) ?_
        obtain rfl := Option.some.inj ho
        exact g_zret (r := 1) hC hr hlk hsz hW (by decide) dX0_comesBefore_79
  · have ho := gif_n ho c3
    refine lv_aload_n hx hcd dX0_comesBefore_15 rfl (lv_at hl 0 rfl) ?_
    refine g_getr hC hW (C := RX0) (T := TX0) (N := 16) (ci := 2) (k := 13) (index := 40) (i := b) (r := (b + 9)) inGX0 rfl (by decide) fl_X0_40 (g_lt_air hb) (g_sh_air hb) rfl dX0_comesBefore_16 ?_
    refine lv_iload_n hx hcd dX0_comesBefore_19 rfl (lv_at hl 1 rfl) ?_
    refine g_iald hC hW (i := (b + 9)) (g_lt_arr (j := 9) hb (by decide)) (g_sa9 hb) i1 dX0_comesBefore_20 ?_
    refine lv_aload_n hx hcd dX0_comesBefore_21 rfl (lv_at hl 0 rfl) ?_
    refine g_getr hC hW (C := RX0) (T := TX0) (N := 16) (ci := 2) (k := 13) (index := 40) (i := b) (r := (b + 9)) inGX0 rfl (by decide) fl_X0_40 (g_lt_air hb) (g_sh_air hb) rfl dX0_comesBefore_22 ?_
    refine lv_iload_n hx hcd dX0_comesBefore_25 rfl (lv_at hl 2 rfl) ?_
    refine g_iald hC hW (i := (b + 9)) (g_lt_arr (j := 9) hb (by decide)) (g_sa9 hb) i2 dX0_comesBefore_26 ?_
    refine lv_icmp_ge (tgt := 34) hx hcd dX0_comesBefore_27 (by decide) (fun c9 => ?_) (fun c9 => ?_)
    · have ho := gif_p ho c9
      refine lv_iconst (v := 0) hx hcd dX0_comesBefore_34 (by decide) ?_
      obtain rfl := Option.some.inj ho
      exact g_zret (r := 0) hC hr hlk hsz hW (by decide) dX0_comesBefore_35
    · have ho := gif_n ho c9
      refine lv_iconst (v := 1) hx hcd dX0_comesBefore_30 (by decide) ?_
      refine lv_goto (tgt := 35) hx hcd dX0_comesBefore_31 (by decide) ?_
      obtain rfl := Option.some.inj ho
      exact g_zret (r := 1) hC hr hlk hsz hW (by decide) dX0_comesBefore_35
noncomputable def X0_firstOf_k0 (σ : gS) (b : Nat) (x1 : Int32) (x2 : Int32) (x3 : Int32) : Option ((Int32 × Int32 × Int32) ⊕ (Int32)) :=
  if 20 ≤ x3 then (some (.inr x2)) else (if ((x1 >>> (x3 &&& 31)) &&& (1 : Int32)) = 0 then (some (.inl (x1, x2, (x3 + 1)))) else (if x2 < 0 then (some (.inl (x1, x3, (x3 + 1)))) else ((X0_comesBefore σ b x3 x2).bind fun r5 => if r5 = 0 then (some (.inl (x1, x2, (x3 + 1)))) else (some (.inl (x1, x3, (x3 + 1)))))))
noncomputable def X0_firstOf_s (σ : gS) (b : Nat) (a : Int32 × Int32 × Int32) : Option ((Int32 × Int32 × Int32) ⊕ (Int32)) :=
  X0_firstOf_k0 σ b a.1 a.2.1 a.2.2
noncomputable def X0_firstOf (σ : gS) (b : Nat) (x1 : Int32) : Option (Int32) :=
  gr (X0_firstOf_s σ b) (x1, (-1), 0)
set_option maxHeartbeats 4000000 in
set_option maxRecDepth 100000 in
theorem l_X0_firstOf {p : Program} {e : Env} {s : State} {m : MethodId} {args : Array Value} {below : List Frame} {meth : Method} {c : Code} (l : Launch) (D : va_G) (y : ClassId × ClassId × ClassId) (ad : Nat → Nat) {b : Nat} (hb : g_air b) (σ : gS) (sz : Nat) (hC : g_C p s m args c cX0_firstOf 4 RX0 D y) (hr : meth.sig.returnType = (some .int)) (hlk : meth.locks = false) (hsz : s.heap.size = sz) {r0 : Int32} : ∀ a : Int32 × Int32 × Int32, gr (X0_firstOf_s σ b) a = some r0 → ∀ (H : Heap) (locs : List Loc) (ls : Array Slot), g_W (g_A ad sz) s.heap D y ad [] σ H locs → lv_has ls 4 [(0, .ref (ad b)), (1, .int a.1), (2, .int a.2.1), (3, .int a.2.2)] → W p l e ({ frames := 1, cells := 0, slots := 0, locals := 22 }) s m args below meth c H locs 0 0 (MQ below (g_Qi D y ad σ sz r0) args s 0 0 (g_A ad sz)) (F0 m 4 ls []) := by
  have hx := hC.1
  have hcd := hC.2.1
  refine gr_all (fun a o ho hret hjmp => ?_)
  obtain ⟨x1, x2, x3⟩ := a
  intro H locs ls hW hl
  have ho : X0_firstOf_k0 σ b x1 x2 x3 = some o := ho
  unfold X0_firstOf_k0 at ho
  refine lv_iload_n hx hcd dX0_firstOf_4 rfl (lv_at hl 3 rfl) ?_
  refine lv_bipush (v := 20) hx hcd dX0_firstOf_5 (by decide) ?_
  refine lv_icmp_ge (tgt := 39) hx hcd dX0_firstOf_7 (by decide) (fun c1 => ?_) (fun c1 => ?_)
  · have ho := gif_p ho c1
    refine lv_iload_n hx hcd dX0_firstOf_39 rfl (lv_at hl 2 rfl) ?_
    obtain rfl := hret _ (Option.some.inj ho).symm
    exact g_iret hC hr hlk hsz hW dX0_firstOf_40
  · have ho := gif_n ho c1
    refine lv_iload_n hx hcd dX0_firstOf_10 rfl (lv_at hl 1 rfl) ?_
    refine lv_iload_n hx hcd dX0_firstOf_11 rfl (lv_at hl 3 rfl) ?_
    refine lv_ishr hx hcd dX0_firstOf_12 ?_
    refine lv_iconst (v := 1) hx hcd dX0_firstOf_13 (by decide) ?_
    refine lv_iand hx hcd dX0_firstOf_14 ?_
    refine lv_if_eq (tgt := 33) hx hcd dX0_firstOf_15 (by decide) (fun c2 => ?_) (fun c2 => ?_)
    · have ho := gif_p ho c2
      refine lv_iinc (v := x3 + 1) (lv' := [(3, .int (x3 + 1)), (0, .ref (ad b)), (1, .int x1), (2, .int x2)]) hx hcd dX0_firstOf_33 hl (k := 3) rfl rfl (by decide) rfl (fun ls hl => ?_)
      refine lv_goto (tgt := 4) hx hcd dX0_firstOf_36 (by decide) ?_
      exact hjmp _ (Option.some.inj ho).symm _ _ _ hW (lv_sub hl [1, 2, 3, 0] rfl)
    · have ho := gif_n ho c2
      refine lv_iload_n hx hcd dX0_firstOf_18 rfl (lv_at hl 2 rfl) ?_
      refine lv_if_lt (tgt := 31) hx hcd dX0_firstOf_19 (by decide) (fun c3 => ?_) (fun c3 => ?_)
      · have ho := gif_p ho c3
        refine lv_iload_n hx hcd dX0_firstOf_31 rfl (lv_at hl 3 rfl) ?_
        refine lv_istore_n (lv' := [(2, .int x3), (0, .ref (ad b)), (1, .int x1), (3, .int x3)]) hx hcd dX0_firstOf_32 rfl hl (by decide) rfl (fun ls hl => ?_)
        refine lv_iinc (v := x3 + 1) (lv' := [(3, .int (x3 + 1)), (2, .int x3), (0, .ref (ad b)), (1, .int x1)]) hx hcd dX0_firstOf_33 hl (k := 3) rfl rfl (by decide) rfl (fun ls hl => ?_)
        refine lv_goto (tgt := 4) hx hcd dX0_firstOf_36 (by decide) ?_
        exact hjmp _ (Option.some.inj ho).symm _ _ _ hW (lv_sub hl [2, 3, 1, 0] rfl)
      · have ho := gif_n ho c3
        refine lv_aload_n hx hcd dX0_firstOf_22 rfl (lv_at hl 0 rfl) ?_
        refine lv_iload_n hx hcd dX0_firstOf_23 rfl (lv_at hl 3 rfl) ?_
        refine lv_iload_n hx hcd dX0_firstOf_24 rfl (lv_at hl 2 rfl) ?_
        obtain ⟨r5, h4, ho⟩ := gb_some ho
        refine g_calli hW (g_runV (As := [.int x3, .int x2]) (rest := []) (i := b) hC hW (c_X0_comesBefore l D y ad hb x3 x2 _ _ h4) ok_X0_150 ⟨rfl, rfl, Nat.le_of_ble_eq_true rfl, Nat.le_of_ble_eq_true rfl⟩ (g_lt_air hb) (g_sh_air hb) rfl rfl rfl hl.1 rfl (Nat.le_of_ble_eq_true rfl) dX0_firstOf_25 ⟨Nat.zero_le _, Nat.zero_le _⟩) (fun H locs hW => ?_)
        refine lv_if_eq (tgt := 33) hx hcd dX0_firstOf_28 (by decide) (fun c6 => ?_) (fun c6 => ?_)
        · have ho := gif_p ho c6
          refine lv_iinc (v := x3 + 1) (lv' := [(3, .int (x3 + 1)), (0, .ref (ad b)), (1, .int x1), (2, .int x2)]) hx hcd dX0_firstOf_33 hl (k := 3) rfl rfl (by decide) rfl (fun ls hl => ?_)
          refine lv_goto (tgt := 4) hx hcd dX0_firstOf_36 (by decide) ?_
          exact hjmp _ (Option.some.inj ho).symm _ _ _ hW (lv_sub hl [1, 2, 3, 0] rfl)
        · have ho := gif_n ho c6
          refine lv_iload_n hx hcd dX0_firstOf_31 rfl (lv_at hl 3 rfl) ?_
          refine lv_istore_n (lv' := [(2, .int x3), (0, .ref (ad b)), (1, .int x1), (3, .int x3)]) hx hcd dX0_firstOf_32 rfl hl (by decide) rfl (fun ls hl => ?_)
          refine lv_iinc (v := x3 + 1) (lv' := [(3, .int (x3 + 1)), (2, .int x3), (0, .ref (ad b)), (1, .int x1)]) hx hcd dX0_firstOf_33 hl (k := 3) rfl rfl (by decide) rfl (fun ls hl => ?_)
          refine lv_goto (tgt := 4) hx hcd dX0_firstOf_36 (by decide) ?_
          exact hjmp _ (Option.some.inj ho).symm _ _ _ hW (lv_sub hl [2, 3, 1, 0] rfl)
set_option maxHeartbeats 4000000 in
set_option maxRecDepth 100000 in
theorem c_X0_firstOf (l : Launch) (D : va_G) (y : ClassId × ClassId × ClassId) (ad : Nat → Nat) {b : Nat} (hb : g_air b) (x1 : Int32) (σ : gS) (sz : Nat) {q : Int32} (h : X0_firstOf σ b x1 = some q) : Met l yX0_firstOf (Cond.code yX0_firstOf cX0_firstOf 4 (some .int) :: gl) ({ frames := 1, cells := 0, slots := 0, locals := 22 }) (g_Pc D y ad σ sz [.ref (ad b), .int x1]) (g_Qi D y ad σ sz q) 0 0 (g_A ad sz) := by
  have ho := h
  unfold X0_firstOf at ho
  refine g_start (by decide) (Nat.le_of_ble_eq_true rfl) (fun p e s m below meth c ls hC hr hlk hsz hW hl => ?_)
  have hx := hC.1
  have hcd := hC.2.1
  have hl : lv_has ls 4 [(0, .ref (ad b)), (1, .int x1)] := hl
  refine lv_iconst (v := (-1)) hx hcd dX0_firstOf_0 (by decide) ?_
  refine lv_istore_n (lv' := [(2, .int (-1)), (0, .ref (ad b)), (1, .int x1)]) hx hcd dX0_firstOf_1 rfl hl (by decide) rfl (fun ls hl => ?_)
  refine lv_iconst (v := 0) hx hcd dX0_firstOf_2 (by decide) ?_
  refine lv_istore_n (lv' := [(3, .int 0), (2, .int (-1)), (0, .ref (ad b)), (1, .int x1)]) hx hcd dX0_firstOf_3 rfl hl (by decide) rfl (fun ls hl => ?_)
  exact l_X0_firstOf l D y ad hb σ sz hC hr hlk hsz _ ho _ _ _ hW (lv_sub hl [2, 3, 1, 0] rfl)
noncomputable def X0_placeEverything_k0 (σ : gS) (b : Nat) (x1 : Int32) (x2 : Int32) (x3 : Int32) : Option ((Int32 × Int32 × Int32 × gS) ⊕ (Int32 × gS)) :=
  if 20 ≤ x3 then (some (.inr (x2, σ))) else ((X0_firstOf σ b x1).bind fun r7 => if 0 ≤ r7 then ((X0_cheapestFor σ b r7).bind fun r10 => if r10 < 0 then (some (.inl ((x1 &&& (((1 : Int32) <<< (r7 &&& 31)) ^^^ (-1 : Int32))), x2, (x3 + 1), σ))) else (gd (ib r7 20) <| lt_ (g_up σ (b + 11) r7.toNatClampNeg r10) fun σ13 => some (.inl ((x1 &&& (((1 : Int32) <<< (r7 &&& 31)) ^^^ (-1 : Int32))), (x2 + 1), (x3 + 1), σ13)))) else (some (.inr (x2, σ))))
noncomputable def X0_placeEverything_s (b : Nat) (a : Int32 × Int32 × Int32 × gS) : Option ((Int32 × Int32 × Int32 × gS) ⊕ (Int32 × gS)) :=
  X0_placeEverything_k0 a.2.2.2 b a.1 a.2.1 a.2.2.1
noncomputable def X0_placeEverything (σ : gS) (b : Nat) : Option (Int32 × gS) :=
  (X0_allStays σ b).bind fun r2 => (X0_staysOnStands σ b).bind fun r4 => gr (X0_placeEverything_s b) ((r2 &&& (r4 ^^^ (-1 : Int32))), 0, 0, σ)
set_option maxHeartbeats 4000000 in
set_option maxRecDepth 100000 in
theorem l_X0_placeEverything {p : Program} {e : Env} {s : State} {m : MethodId} {args : Array Value} {below : List Frame} {meth : Method} {c : Code} (l : Launch) (D : va_G) (y : ClassId × ClassId × ClassId) (ad : Nat → Nat) {b : Nat} (hb : g_air b) (sz : Nat) (hC : g_C p s m args c cX0_placeEverything 6 RX0 D y) (hr : meth.sig.returnType = (some .int)) (hlk : meth.locks = false) (hsz : s.heap.size = sz) {r0 : Int32 × gS} : ∀ a : Int32 × Int32 × Int32 × gS, gr (X0_placeEverything_s b) a = some r0 → ∀ (H : Heap) (locs : List Loc) (ls : Array Slot), g_W (g_A ad sz) s.heap D y ad [] a.2.2.2 H locs → lv_has ls 6 [(0, .ref (ad b)), (1, .int a.1), (2, .int a.2.1), (3, .int a.2.2.1)] → W p l e ({ frames := 4, cells := 0, slots := 0, locals := 96 }) s m args below meth c H locs 0 0 (MQ below (g_Qi D y ad r0.2 sz r0.1) args s 0 0 (g_A ad sz)) (F0 m 16 ls []) := by
  have hx := hC.1
  have hcd := hC.2.1
  refine gr_all (fun a o ho hret hjmp => ?_)
  obtain ⟨x1, x2, x3, σ⟩ := a
  intro H locs ls hW hl
  have ho : X0_placeEverything_k0 σ b x1 x2 x3 = some o := ho
  unfold X0_placeEverything_k0 at ho
  refine lv_iload_n hx hcd dX0_placeEverything_16 rfl (lv_at hl 3 rfl) ?_
  refine lv_bipush (v := 20) hx hcd dX0_placeEverything_17 (by decide) ?_
  refine lv_icmp_ge (tgt := 76) hx hcd dX0_placeEverything_19 (by decide) (fun c5 => ?_) (fun c5 => ?_)
  · have ho := gif_p ho c5
    refine lv_iload_n hx hcd dX0_placeEverything_76 rfl (lv_at hl 2 rfl) ?_
    obtain rfl := hret _ (Option.some.inj ho).symm
    exact g_iret hC hr hlk hsz hW dX0_placeEverything_77
  · have ho := gif_n ho c5
    refine lv_aload_n hx hcd dX0_placeEverything_22 rfl (lv_at hl 0 rfl) ?_
    refine lv_iload_n hx hcd dX0_placeEverything_23 rfl (lv_at hl 1 rfl) ?_
    obtain ⟨r7, h6, ho⟩ := gb_some ho
    refine g_calli hW (g_runV (As := [.int x1]) (rest := []) (i := b) hC hW (c_X0_firstOf l D y ad hb x1 _ _ h6) ok_X0_160 ⟨rfl, rfl, Nat.le_of_ble_eq_true rfl, Nat.le_of_ble_eq_true rfl⟩ (g_lt_air hb) (g_sh_air hb) rfl rfl rfl hl.1 rfl (Nat.le_of_ble_eq_true rfl) dX0_placeEverything_24 ⟨Nat.zero_le _, Nat.zero_le _⟩) (fun H locs hW => ?_)
    refine lv_istore (lv' := [(4, .int r7), (0, .ref (ad b)), (1, .int x1), (2, .int x2), (3, .int x3)]) hx hcd dX0_placeEverything_27 hl (by decide) rfl (fun ls hl => ?_)
    refine lv_iload hx hcd dX0_placeEverything_29 (lv_at hl 0 rfl) ?_
    refine lv_if_ge (tgt := 36) hx hcd dX0_placeEverything_31 (by decide) (fun c8 => ?_) (fun c8 => ?_)
    · have ho := gif_p ho c8
      refine lv_iload_n hx hcd dX0_placeEverything_36 rfl (lv_at hl 2 rfl) ?_
      refine lv_iconst (v := 1) hx hcd dX0_placeEverything_37 (by decide) ?_
      refine lv_iload hx hcd dX0_placeEverything_38 (lv_at hl 0 rfl) ?_
      refine lv_ishl hx hcd dX0_placeEverything_40 ?_
      refine lv_iconst (v := (-1)) hx hcd dX0_placeEverything_41 (by decide) ?_
      refine lv_ixor hx hcd dX0_placeEverything_42 ?_
      refine lv_iand hx hcd dX0_placeEverything_43 ?_
      refine lv_istore_n (lv' := [(1, .int (x1 &&& (((1 : Int32) <<< (r7 &&& 31)) ^^^ (-1 : Int32)))), (4, .int r7), (0, .ref (ad b)), (2, .int x2), (3, .int x3)]) hx hcd dX0_placeEverything_44 rfl hl (by decide) rfl (fun ls hl => ?_)
      refine lv_aload_n hx hcd dX0_placeEverything_45 rfl (lv_at hl 2 rfl) ?_
      refine lv_iload hx hcd dX0_placeEverything_46 (lv_at hl 1 rfl) ?_
      obtain ⟨r10, h9, ho⟩ := gb_some ho
      refine g_calli hW (g_runV (As := [.int r7]) (rest := []) (i := b) hC hW (c_X0_cheapestFor l D y ad hb r7 _ _ h9) ok_X0_163 ⟨rfl, rfl, Nat.le_of_ble_eq_true rfl, Nat.le_of_ble_eq_true rfl⟩ (g_lt_air hb) (g_sh_air hb) rfl rfl rfl hl.1 rfl (Nat.le_of_ble_eq_true rfl) dX0_placeEverything_48 ⟨Nat.zero_le _, Nat.zero_le _⟩) (fun H locs hW => ?_)
      refine lv_istore (lv' := [(5, .int r10), (1, .int (x1 &&& (((1 : Int32) <<< (r7 &&& 31)) ^^^ (-1 : Int32)))), (4, .int r7), (0, .ref (ad b)), (2, .int x2), (3, .int x3)]) hx hcd dX0_placeEverything_51 hl (by decide) rfl (fun ls hl => ?_)
      refine lv_iload hx hcd dX0_placeEverything_53 (lv_at hl 0 rfl) ?_
      refine lv_if_lt (tgt := 70) hx hcd dX0_placeEverything_55 (by decide) (fun c11 => ?_) (fun c11 => ?_)
      · have ho := gif_p ho c11
        refine lv_iinc (v := x3 + 1) (lv' := [(3, .int (x3 + 1)), (5, .int r10), (1, .int (x1 &&& (((1 : Int32) <<< (r7 &&& 31)) ^^^ (-1 : Int32)))), (4, .int r7), (0, .ref (ad b)), (2, .int x2)]) hx hcd dX0_placeEverything_70 hl (k := 5) rfl rfl (by decide) rfl (fun ls hl => ?_)
        refine lv_goto (tgt := 16) hx hcd dX0_placeEverything_73 (by decide) ?_
        exact hjmp _ (Option.some.inj ho).symm _ _ _ hW (lv_sub hl [4, 2, 5, 0] rfl)
      · have ho := gif_n ho c11
        refine lv_aload_n hx hcd dX0_placeEverything_58 rfl (lv_at hl 3 rfl) ?_
        refine g_getr hC hW (C := RX0) (T := TX0) (N := 16) (ci := 2) (k := 15) (index := 46) (i := b) (r := (b + 11)) inGX0 rfl (by decide) fl_X0_46 (g_lt_air hb) (g_sh_air hb) rfl dX0_placeEverything_59 ?_
        refine lv_iload hx hcd dX0_placeEverything_62 (lv_at hl 2 rfl) ?_
        refine lv_iload hx hcd dX0_placeEverything_64 (lv_at hl 0 rfl) ?_
        obtain ⟨i12, ho⟩ := gd_some ho
        obtain ⟨σ13, eσ13, ho⟩ := lt_ex ho
        refine g_iast hC hW (i := (b + 11)) (g_lt_arr (j := 11) hb (by decide)) (g_sa11 hb) i12 dX0_placeEverything_66 (fun H locs hW => ?_)
        rw [← eσ13] at hW
        refine lv_iinc (v := x2 + 1) (lv' := [(2, .int (x2 + 1)), (5, .int r10), (1, .int (x1 &&& (((1 : Int32) <<< (r7 &&& 31)) ^^^ (-1 : Int32)))), (4, .int r7), (0, .ref (ad b)), (3, .int x3)]) hx hcd dX0_placeEverything_67 hl (k := 4) rfl rfl (by decide) rfl (fun ls hl => ?_)
        refine lv_iinc (v := x3 + 1) (lv' := [(3, .int (x3 + 1)), (2, .int (x2 + 1)), (5, .int r10), (1, .int (x1 &&& (((1 : Int32) <<< (r7 &&& 31)) ^^^ (-1 : Int32)))), (4, .int r7), (0, .ref (ad b))]) hx hcd dX0_placeEverything_70 hl (k := 5) rfl rfl (by decide) rfl (fun ls hl => ?_)
        refine lv_goto (tgt := 16) hx hcd dX0_placeEverything_73 (by decide) ?_
        exact hjmp _ (Option.some.inj ho).symm _ _ _ hW (lv_sub hl [5, 3, 1, 0] rfl)
    · have ho := gif_n ho c8
      refine lv_iload_n hx hcd dX0_placeEverything_34 rfl (lv_at hl 3 rfl) ?_
      obtain rfl := hret _ (Option.some.inj ho).symm
      exact g_iret hC hr hlk hsz hW dX0_placeEverything_35
set_option maxHeartbeats 4000000 in
set_option maxRecDepth 100000 in
theorem c_X0_placeEverything (l : Launch) (D : va_G) (y : ClassId × ClassId × ClassId) (ad : Nat → Nat) {b : Nat} (hb : g_air b) (σ : gS) (sz : Nat) {q : Int32 × gS} (h : X0_placeEverything σ b = some q) : Met l yX0_placeEverything (Cond.code yX0_placeEverything cX0_placeEverything 6 (some .int) :: gl) ({ frames := 4, cells := 0, slots := 0, locals := 96 }) (g_Pc D y ad σ sz [.ref (ad b)]) (g_Qi D y ad q.2 sz q.1) 0 0 (g_A ad sz) := by
  have ho := h
  unfold X0_placeEverything at ho
  refine g_start (by decide) (Nat.le_of_ble_eq_true rfl) (fun p e s m below meth c ls hC hr hlk hsz hW hl => ?_)
  have hx := hC.1
  have hcd := hC.2.1
  have hl : lv_has ls 6 [(0, .ref (ad b))] := hl
  refine lv_aload_n hx hcd dX0_placeEverything_0 rfl (lv_at hl 0 rfl) ?_
  obtain ⟨r2, h1, ho⟩ := gb_some ho
  refine g_calli hW (g_runV (As := []) (rest := []) (i := b) hC hW (c_X0_allStays l D y ad hb _ _ h1) ok_X0_153 ⟨rfl, rfl, Nat.le_of_ble_eq_true rfl, Nat.le_of_ble_eq_true rfl⟩ (g_lt_air hb) (g_sh_air hb) rfl rfl rfl hl.1 rfl (Nat.le_of_ble_eq_true rfl) dX0_placeEverything_1 ⟨Nat.zero_le _, Nat.zero_le _⟩) (fun H locs hW => ?_)
  refine lv_aload_n hx hcd dX0_placeEverything_4 rfl (lv_at hl 0 rfl) ?_
  obtain ⟨r4, h3, ho⟩ := gb_some ho
  refine g_calli hW (g_runV (As := []) (rest := [.int r2]) (i := b) hC hW (c_X0_staysOnStands l D y ad hb _ _ h3) ok_X0_157 ⟨rfl, rfl, Nat.le_of_ble_eq_true rfl, Nat.le_of_ble_eq_true rfl⟩ (g_lt_air hb) (g_sh_air hb) rfl rfl rfl hl.1 rfl (Nat.le_of_ble_eq_true rfl) dX0_placeEverything_5 ⟨Nat.zero_le _, Nat.zero_le _⟩) (fun H locs hW => ?_)
  refine lv_iconst (v := (-1)) hx hcd dX0_placeEverything_8 (by decide) ?_
  refine lv_ixor hx hcd dX0_placeEverything_9 ?_
  refine lv_iand hx hcd dX0_placeEverything_10 ?_
  refine lv_istore_n (lv' := [(1, .int (r2 &&& (r4 ^^^ (-1 : Int32)))), (0, .ref (ad b))]) hx hcd dX0_placeEverything_11 rfl hl (by decide) rfl (fun ls hl => ?_)
  refine lv_iconst (v := 0) hx hcd dX0_placeEverything_12 (by decide) ?_
  refine lv_istore_n (lv' := [(2, .int 0), (1, .int (r2 &&& (r4 ^^^ (-1 : Int32)))), (0, .ref (ad b))]) hx hcd dX0_placeEverything_13 rfl hl (by decide) rfl (fun ls hl => ?_)
  refine lv_iconst (v := 0) hx hcd dX0_placeEverything_14 (by decide) ?_
  refine lv_istore_n (lv' := [(3, .int 0), (2, .int 0), (1, .int (r2 &&& (r4 ^^^ (-1 : Int32)))), (0, .ref (ad b))]) hx hcd dX0_placeEverything_15 rfl hl (by decide) rfl (fun ls hl => ?_)
  exact l_X0_placeEverything l D y ad hb sz hC hr hlk hsz _ ho _ _ _ hW (lv_sub hl [3, 2, 1, 0] rfl)
