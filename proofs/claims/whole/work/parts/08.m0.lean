noncomputable def X0_hasStand (σ : gS) (b : Nat) (x1 : Int32) : Option (Int32) :=
  if x1 < 0 then (some 0) else (if (σ b 0) ≤ x1 then (some 0) else (if 8 ≤ x1 then (some 0) else (some 1)))
set_option maxHeartbeats 4000000 in
set_option maxRecDepth 100000 in
theorem c_X0_hasStand (l : Launch) (D : va_G) (y : ClassId × ClassId × ClassId) (ad : Nat → Nat) {b : Nat} (hb : g_air b) (x1 : Int32) (σ : gS) (sz : Nat) {q : Int32} (h : X0_hasStand σ b x1 = some q) : Met l yX0_hasStand (Cond.code yX0_hasStand cX0_hasStand 2 (some .boolean) :: gl) ({ frames := 0, cells := 0, slots := 0, locals := 0 }) (g_Pc D y ad σ sz [.ref (ad b), .int x1]) (g_Qi D y ad σ sz q) 0 0 (g_A ad sz) := by
  have ho := h
  unfold X0_hasStand at ho
  refine g_start (by decide) (Nat.le_of_ble_eq_true rfl) (fun p e s m below meth c ls hC hr hlk hsz hW hl => ?_)
  have hx := hC.1
  have hcd := hC.2.1
  have hl : lv_has ls 2 [(0, .ref (ad b)), (1, .int x1)] := hl
  refine lv_iload_n hx hcd dX0_hasStand_0 rfl (lv_at hl 1 rfl) ?_
  refine lv_if_lt (tgt := 22) hx hcd dX0_hasStand_1 (by decide) (fun c1 => ?_) (fun c1 => ?_)
  · have ho := gif_p ho c1
    refine lv_iconst (v := 0) hx hcd dX0_hasStand_22 (by decide) ?_
    obtain rfl := Option.some.inj ho
    exact g_zret hC hr hlk hsz hW (by decide) dX0_hasStand_23
  · have ho := gif_n ho c1
    refine lv_iload_n hx hcd dX0_hasStand_4 rfl (lv_at hl 1 rfl) ?_
    refine lv_aload_n hx hcd dX0_hasStand_5 rfl (lv_at hl 0 rfl) ?_
    refine g_geti hC hW (C := RX0) (T := TX0) (N := 16) (ci := 2) (k := 0) (index := 55) (i := b) inGX0 rfl (by decide) fl_X0_55 (g_lt_air hb) (g_sh_air hb) rfl dX0_hasStand_6 ?_
    refine lv_icmp_ge (tgt := 22) hx hcd dX0_hasStand_9 (by decide) (fun c2 => ?_) (fun c2 => ?_)
    · have ho := gif_p ho c2
      refine lv_iconst (v := 0) hx hcd dX0_hasStand_22 (by decide) ?_
      obtain rfl := Option.some.inj ho
      exact g_zret hC hr hlk hsz hW (by decide) dX0_hasStand_23
    · have ho := gif_n ho c2
      refine lv_iload_n hx hcd dX0_hasStand_12 rfl (lv_at hl 1 rfl) ?_
      refine lv_bipush (v := 8) hx hcd dX0_hasStand_13 (by decide) ?_
      refine lv_icmp_ge (tgt := 22) hx hcd dX0_hasStand_15 (by decide) (fun c3 => ?_) (fun c3 => ?_)
      · have ho := gif_p ho c3
        refine lv_iconst (v := 0) hx hcd dX0_hasStand_22 (by decide) ?_
        obtain rfl := Option.some.inj ho
        exact g_zret hC hr hlk hsz hW (by decide) dX0_hasStand_23
      · have ho := gif_n ho c3
        refine lv_iconst (v := 1) hx hcd dX0_hasStand_18 (by decide) ?_
        refine lv_goto (tgt := 23) hx hcd dX0_hasStand_19 (by decide) ?_
        obtain rfl := Option.some.inj ho
        exact g_zret hC hr hlk hsz hW (by decide) dX0_hasStand_23
noncomputable def X0_hasTurn (σ : gS) (b : Nat) (x1 : Int32) : Option (Int32) :=
  if x1 < 0 then (some 0) else (if (σ b 1) ≤ x1 then (some 0) else (if 10 ≤ x1 then (some 0) else (some 1)))
set_option maxHeartbeats 4000000 in
set_option maxRecDepth 100000 in
theorem c_X0_hasTurn (l : Launch) (D : va_G) (y : ClassId × ClassId × ClassId) (ad : Nat → Nat) {b : Nat} (hb : g_air b) (x1 : Int32) (σ : gS) (sz : Nat) {q : Int32} (h : X0_hasTurn σ b x1 = some q) : Met l yX0_hasTurn (Cond.code yX0_hasTurn cX0_hasTurn 2 (some .boolean) :: gl) ({ frames := 0, cells := 0, slots := 0, locals := 0 }) (g_Pc D y ad σ sz [.ref (ad b), .int x1]) (g_Qi D y ad σ sz q) 0 0 (g_A ad sz) := by
  have ho := h
  unfold X0_hasTurn at ho
  refine g_start (by decide) (Nat.le_of_ble_eq_true rfl) (fun p e s m below meth c ls hC hr hlk hsz hW hl => ?_)
  have hx := hC.1
  have hcd := hC.2.1
  have hl : lv_has ls 2 [(0, .ref (ad b)), (1, .int x1)] := hl
  refine lv_iload_n hx hcd dX0_hasTurn_0 rfl (lv_at hl 1 rfl) ?_
  refine lv_if_lt (tgt := 22) hx hcd dX0_hasTurn_1 (by decide) (fun c1 => ?_) (fun c1 => ?_)
  · have ho := gif_p ho c1
    refine lv_iconst (v := 0) hx hcd dX0_hasTurn_22 (by decide) ?_
    obtain rfl := Option.some.inj ho
    exact g_zret hC hr hlk hsz hW (by decide) dX0_hasTurn_23
  · have ho := gif_n ho c1
    refine lv_iload_n hx hcd dX0_hasTurn_4 rfl (lv_at hl 1 rfl) ?_
    refine lv_aload_n hx hcd dX0_hasTurn_5 rfl (lv_at hl 0 rfl) ?_
    refine g_geti hC hW (C := RX0) (T := TX0) (N := 16) (ci := 2) (k := 1) (index := 58) (i := b) inGX0 rfl (by decide) fl_X0_58 (g_lt_air hb) (g_sh_air hb) rfl dX0_hasTurn_6 ?_
    refine lv_icmp_ge (tgt := 22) hx hcd dX0_hasTurn_9 (by decide) (fun c2 => ?_) (fun c2 => ?_)
    · have ho := gif_p ho c2
      refine lv_iconst (v := 0) hx hcd dX0_hasTurn_22 (by decide) ?_
      obtain rfl := Option.some.inj ho
      exact g_zret hC hr hlk hsz hW (by decide) dX0_hasTurn_23
    · have ho := gif_n ho c2
      refine lv_iload_n hx hcd dX0_hasTurn_12 rfl (lv_at hl 1 rfl) ?_
      refine lv_bipush (v := 10) hx hcd dX0_hasTurn_13 (by decide) ?_
      refine lv_icmp_ge (tgt := 22) hx hcd dX0_hasTurn_15 (by decide) (fun c3 => ?_) (fun c3 => ?_)
      · have ho := gif_p ho c3
        refine lv_iconst (v := 0) hx hcd dX0_hasTurn_22 (by decide) ?_
        obtain rfl := Option.some.inj ho
        exact g_zret hC hr hlk hsz hW (by decide) dX0_hasTurn_23
      · have ho := gif_n ho c3
        refine lv_iconst (v := 1) hx hcd dX0_hasTurn_18 (by decide) ?_
        refine lv_goto (tgt := 23) hx hcd dX0_hasTurn_19 (by decide) ?_
        obtain rfl := Option.some.inj ho
        exact g_zret hC hr hlk hsz hW (by decide) dX0_hasTurn_23
noncomputable def X0_hasTow (σ : gS) (b : Nat) (x1 : Int32) : Option (Int32) :=
  gd (ib x1 10) <| if (σ (b + 8) x1.toNatClampNeg) < 0 then (some 0) else (some 1)
set_option maxHeartbeats 4000000 in
set_option maxRecDepth 100000 in
theorem c_X0_hasTow (l : Launch) (D : va_G) (y : ClassId × ClassId × ClassId) (ad : Nat → Nat) {b : Nat} (hb : g_air b) (x1 : Int32) (σ : gS) (sz : Nat) {q : Int32} (h : X0_hasTow σ b x1 = some q) : Met l yX0_hasTow (Cond.code yX0_hasTow cX0_hasTow 2 (some .boolean) :: gl) ({ frames := 0, cells := 0, slots := 0, locals := 0 }) (g_Pc D y ad σ sz [.ref (ad b), .int x1]) (g_Qi D y ad σ sz q) 0 0 (g_A ad sz) := by
  have ho := h
  unfold X0_hasTow at ho
  refine g_start (by decide) (Nat.le_of_ble_eq_true rfl) (fun p e s m below meth c ls hC hr hlk hsz hW hl => ?_)
  have hx := hC.1
  have hcd := hC.2.1
  have hl : lv_has ls 2 [(0, .ref (ad b)), (1, .int x1)] := hl
  refine lv_aload_n hx hcd dX0_hasTow_0 rfl (lv_at hl 0 rfl) ?_
  refine g_getr hC hW (C := RX0) (T := TX0) (N := 16) (ci := 2) (k := 12) (index := 37) (i := b) (r := (b + 8)) inGX0 rfl (by decide) fl_X0_37 (g_lt_air hb) (g_sh_air hb) rfl dX0_hasTow_1 ?_
  refine lv_iload_n hx hcd dX0_hasTow_4 rfl (lv_at hl 1 rfl) ?_
  obtain ⟨i1, ho⟩ := gd_some ho
  refine g_iald hC hW (i := (b + 8)) (g_lt_arr (j := 8) hb (by decide)) (g_sa8 hb) i1 dX0_hasTow_5 ?_
  refine lv_if_lt (tgt := 13) hx hcd dX0_hasTow_6 (by decide) (fun c2 => ?_) (fun c2 => ?_)
  · have ho := gif_p ho c2
    refine lv_iconst (v := 0) hx hcd dX0_hasTow_13 (by decide) ?_
    obtain rfl := Option.some.inj ho
    exact g_zret hC hr hlk hsz hW (by decide) dX0_hasTow_14
  · have ho := gif_n ho c2
    refine lv_iconst (v := 1) hx hcd dX0_hasTow_9 (by decide) ?_
    refine lv_goto (tgt := 14) hx hcd dX0_hasTow_10 (by decide) ?_
    obtain rfl := Option.some.inj ho
    exact g_zret hC hr hlk hsz hW (by decide) dX0_hasTow_14
noncomputable def X0_hasStay (σ : gS) (b : Nat) (x1 : Int32) (x2 : Int32) : Option (Int32) :=
  (X0_hasTurn σ b x1).bind fun r2 => if r2 = 0 then (some 0) else (if x2 = 0 then (some 1) else (if x2 = 1 then ((X0_hasTow σ b x1).bind fun r7 => if r7 = 0 then (some 0) else (some 1)) else (some 0)))
set_option maxHeartbeats 4000000 in
set_option maxRecDepth 100000 in
theorem c_X0_hasStay (l : Launch) (D : va_G) (y : ClassId × ClassId × ClassId) (ad : Nat → Nat) {b : Nat} (hb : g_air b) (x1 : Int32) (x2 : Int32) (σ : gS) (sz : Nat) {q : Int32} (h : X0_hasStay σ b x1 x2 = some q) : Met l yX0_hasStay (Cond.code yX0_hasStay cX0_hasStay 3 (some .boolean) :: gl) ({ frames := 1, cells := 0, slots := 0, locals := 21 }) (g_Pc D y ad σ sz [.ref (ad b), .int x1, .int x2]) (g_Qi D y ad σ sz q) 0 0 (g_A ad sz) := by
  have ho := h
  unfold X0_hasStay at ho
  refine g_start (by decide) (Nat.le_of_ble_eq_true rfl) (fun p e s m below meth c ls hC hr hlk hsz hW hl => ?_)
  have hx := hC.1
  have hcd := hC.2.1
  have hl : lv_has ls 3 [(0, .ref (ad b)), (1, .int x1), (2, .int x2)] := hl
  refine lv_aload_n hx hcd dX0_hasStay_0 rfl (lv_at hl 0 rfl) ?_
  refine lv_iload_n hx hcd dX0_hasStay_1 rfl (lv_at hl 1 rfl) ?_
  obtain ⟨r2, h1, ho⟩ := gb_some ho
  refine g_calli hW (g_runV (As := [.int x1]) (rest := []) (i := b) hC hW (c_X0_hasTurn l D y ad hb x1 _ _ h1) ok_X0_73 ⟨rfl, rfl, Nat.le_of_ble_eq_true rfl, Nat.le_of_ble_eq_true rfl⟩ (g_lt_air hb) (g_sh_air hb) rfl rfl rfl hl.1 rfl (Nat.le_of_ble_eq_true rfl) dX0_hasStay_2 ⟨Nat.zero_le _, Nat.zero_le _⟩) (fun H locs hW => ?_)
  refine lv_if_eq (tgt := 29) hx hcd dX0_hasStay_5 (by decide) (fun c3 => ?_) (fun c3 => ?_)
  · have ho := gif_p ho c3
    refine lv_iconst (v := 0) hx hcd dX0_hasStay_29 (by decide) ?_
    obtain rfl := Option.some.inj ho
    exact g_zret hC hr hlk hsz hW (by decide) dX0_hasStay_30
  · have ho := gif_n ho c3
    refine lv_iload_n hx hcd dX0_hasStay_8 rfl (lv_at hl 2 rfl) ?_
    refine lv_if_eq (tgt := 25) hx hcd dX0_hasStay_9 (by decide) (fun c4 => ?_) (fun c4 => ?_)
    · have ho := gif_p ho c4
      refine lv_iconst (v := 1) hx hcd dX0_hasStay_25 (by decide) ?_
      refine lv_goto (tgt := 30) hx hcd dX0_hasStay_26 (by decide) ?_
      obtain rfl := Option.some.inj ho
      exact g_zret hC hr hlk hsz hW (by decide) dX0_hasStay_30
    · have ho := gif_n ho c4
      refine lv_iload_n hx hcd dX0_hasStay_12 rfl (lv_at hl 2 rfl) ?_
      refine lv_iconst (v := 1) hx hcd dX0_hasStay_13 (by decide) ?_
      refine lv_icmp_ne (tgt := 29) hx hcd dX0_hasStay_14 (by decide) (fun c5 => ?_) (fun c5 => ?_)
      · have ho := gif_n ho c5
        refine lv_iconst (v := 0) hx hcd dX0_hasStay_29 (by decide) ?_
        obtain rfl := Option.some.inj ho
        exact g_zret hC hr hlk hsz hW (by decide) dX0_hasStay_30
      · have ho := gif_p ho c5
        refine lv_aload_n hx hcd dX0_hasStay_17 rfl (lv_at hl 0 rfl) ?_
        refine lv_iload_n hx hcd dX0_hasStay_18 rfl (lv_at hl 1 rfl) ?_
        obtain ⟨r7, h6, ho⟩ := gb_some ho
        refine g_calli hW (g_runV (As := [.int x1]) (rest := []) (i := b) hC hW (c_X0_hasTow l D y ad hb x1 _ _ h6) ok_X0_77 ⟨rfl, rfl, Nat.le_of_ble_eq_true rfl, Nat.le_of_ble_eq_true rfl⟩ (g_lt_air hb) (g_sh_air hb) rfl rfl rfl hl.1 rfl (Nat.le_of_ble_eq_true rfl) dX0_hasStay_19 ⟨Nat.zero_le _, Nat.zero_le _⟩) (fun H locs hW => ?_)
        refine lv_if_eq (tgt := 29) hx hcd dX0_hasStay_22 (by decide) (fun c8 => ?_) (fun c8 => ?_)
        · have ho := gif_p ho c8
          refine lv_iconst (v := 0) hx hcd dX0_hasStay_29 (by decide) ?_
          obtain rfl := Option.some.inj ho
          exact g_zret hC hr hlk hsz hW (by decide) dX0_hasStay_30
        · have ho := gif_n ho c8
          refine lv_iconst (v := 1) hx hcd dX0_hasStay_25 (by decide) ?_
          refine lv_goto (tgt := 30) hx hcd dX0_hasStay_26 (by decide) ?_
          obtain rfl := Option.some.inj ho
          exact g_zret hC hr hlk hsz hW (by decide) dX0_hasStay_30
noncomputable def X0_isOnStand (σ : gS) (b : Nat) (x1 : Int32) : Option (Int32) :=
  gd (ib x1 20) <| if (σ (b + 11) x1.toNatClampNeg) < 0 then (some 0) else (some 1)
set_option maxHeartbeats 4000000 in
set_option maxRecDepth 100000 in
theorem c_X0_isOnStand (l : Launch) (D : va_G) (y : ClassId × ClassId × ClassId) (ad : Nat → Nat) {b : Nat} (hb : g_air b) (x1 : Int32) (σ : gS) (sz : Nat) {q : Int32} (h : X0_isOnStand σ b x1 = some q) : Met l yX0_isOnStand (Cond.code yX0_isOnStand cX0_isOnStand 2 (some .boolean) :: gl) ({ frames := 0, cells := 0, slots := 0, locals := 0 }) (g_Pc D y ad σ sz [.ref (ad b), .int x1]) (g_Qi D y ad σ sz q) 0 0 (g_A ad sz) := by
  have ho := h
  unfold X0_isOnStand at ho
  refine g_start (by decide) (Nat.le_of_ble_eq_true rfl) (fun p e s m below meth c ls hC hr hlk hsz hW hl => ?_)
  have hx := hC.1
  have hcd := hC.2.1
  have hl : lv_has ls 2 [(0, .ref (ad b)), (1, .int x1)] := hl
  refine lv_aload_n hx hcd dX0_isOnStand_0 rfl (lv_at hl 0 rfl) ?_
  refine g_getr hC hW (C := RX0) (T := TX0) (N := 16) (ci := 2) (k := 15) (index := 46) (i := b) (r := (b + 11)) inGX0 rfl (by decide) fl_X0_46 (g_lt_air hb) (g_sh_air hb) rfl dX0_isOnStand_1 ?_
  refine lv_iload_n hx hcd dX0_isOnStand_4 rfl (lv_at hl 1 rfl) ?_
  obtain ⟨i1, ho⟩ := gd_some ho
  refine g_iald hC hW (i := (b + 11)) (g_lt_arr (j := 11) hb (by decide)) (g_sa11 hb) i1 dX0_isOnStand_5 ?_
  refine lv_if_lt (tgt := 13) hx hcd dX0_isOnStand_6 (by decide) (fun c2 => ?_) (fun c2 => ?_)
  · have ho := gif_p ho c2
    refine lv_iconst (v := 0) hx hcd dX0_isOnStand_13 (by decide) ?_
    obtain rfl := Option.some.inj ho
    exact g_zret hC hr hlk hsz hW (by decide) dX0_isOnStand_14
  · have ho := gif_n ho c2
    refine lv_iconst (v := 1) hx hcd dX0_isOnStand_9 (by decide) ?_
    refine lv_goto (tgt := 14) hx hcd dX0_isOnStand_10 (by decide) ?_
    obtain rfl := Option.some.inj ho
    exact g_zret hC hr hlk hsz hW (by decide) dX0_isOnStand_14
noncomputable def X0_staysOn_k0 (σ : gS) (b : Nat) (x1 : Int32) (x2 : Int32) (x3 : Int32) : Option ((Int32 × Int32 × Int32) ⊕ (Int32)) :=
  if 20 ≤ x3 then (some (.inr x2)) else (gd (ib x3 20) <| if (σ (b + 11) x3.toNatClampNeg) = x1 then (some (.inl (x1, (x2 ||| (1 <<< (x3 &&& 31))), (x3 + 1)))) else (some (.inl (x1, x2, (x3 + 1)))))
noncomputable def X0_staysOn_s (σ : gS) (b : Nat) (a : Int32 × Int32 × Int32) : Option ((Int32 × Int32 × Int32) ⊕ (Int32)) :=
  X0_staysOn_k0 σ b a.1 a.2.1 a.2.2
noncomputable def X0_staysOn (σ : gS) (b : Nat) (x1 : Int32) : Option (Int32) :=
  gr (X0_staysOn_s σ b) (x1, 0, 0)
set_option maxHeartbeats 4000000 in
set_option maxRecDepth 100000 in
theorem l_X0_staysOn {p : Program} {e : Env} {s : State} {m : MethodId} {args : Array Value} {below : List Frame} {meth : Method} {c : Code} (l : Launch) (D : va_G) (y : ClassId × ClassId × ClassId) (ad : Nat → Nat) {b : Nat} (hb : g_air b) (σ : gS) (sz : Nat) (hC : g_C p s m args c cX0_staysOn 4 RX0 D y) (hr : meth.sig.returnType = (some .int)) (hlk : meth.locks = false) (hsz : s.heap.size = sz) {r0 : Int32} : ∀ a : Int32 × Int32 × Int32, gr (X0_staysOn_s σ b) a = some r0 → ∀ (H : Heap) (locs : List Loc) (ls : Array Slot), g_W (g_A ad sz) s.heap D y ad [] σ H locs → lv_has ls 4 [(0, .ref (ad b)), (1, .int a.1), (2, .int a.2.1), (3, .int a.2.2)] → W p l e ({ frames := 0, cells := 0, slots := 0, locals := 0 }) s m args below meth c H locs 0 0 (MQ below (g_Qi D y ad σ sz r0) args s 0 0 (g_A ad sz)) (F0 m 4 ls []) := by
  have hx := hC.1
  have hcd := hC.2.1
  refine gr_all (fun a o ho hret hjmp => ?_)
  obtain ⟨x1, x2, x3⟩ := a
  intro H locs ls hW hl
  have ho : X0_staysOn_k0 σ b x1 x2 x3 = some o := ho
  unfold X0_staysOn_k0 at ho
  refine lv_iload_n hx hcd dX0_staysOn_4 rfl (lv_at hl 3 rfl) ?_
  refine lv_bipush (v := 20) hx hcd dX0_staysOn_5 (by decide) ?_
  refine lv_icmp_ge (tgt := 32) hx hcd dX0_staysOn_7 (by decide) (fun c1 => ?_) (fun c1 => ?_)
  · have ho := gif_p ho c1
    refine lv_iload_n hx hcd dX0_staysOn_32 rfl (lv_at hl 2 rfl) ?_
    obtain rfl := hret _ (Option.some.inj ho).symm
    exact g_iret hC hr hlk hsz hW dX0_staysOn_33
  · have ho := gif_n ho c1
    refine lv_aload_n hx hcd dX0_staysOn_10 rfl (lv_at hl 0 rfl) ?_
    refine g_getr hC hW (C := RX0) (T := TX0) (N := 16) (ci := 2) (k := 15) (index := 46) (i := b) (r := (b + 11)) inGX0 rfl (by decide) fl_X0_46 (g_lt_air hb) (g_sh_air hb) rfl dX0_staysOn_11 ?_
    refine lv_iload_n hx hcd dX0_staysOn_14 rfl (lv_at hl 3 rfl) ?_
    obtain ⟨i2, ho⟩ := gd_some ho
    refine g_iald hC hW (i := (b + 11)) (g_lt_arr (j := 11) hb (by decide)) (g_sa11 hb) i2 dX0_staysOn_15 ?_
    refine lv_iload_n hx hcd dX0_staysOn_16 rfl (lv_at hl 1 rfl) ?_
    refine lv_icmp_ne (tgt := 26) hx hcd dX0_staysOn_17 (by decide) (fun c3 => ?_) (fun c3 => ?_)
    · have ho := gif_n ho c3
      refine lv_iinc (v := x3 + 1) (lv' := [(3, .int (x3 + 1)), (0, .ref (ad b)), (1, .int x1), (2, .int x2)]) hx hcd dX0_staysOn_26 hl (k := 3) rfl rfl (by decide) rfl (fun ls hl => ?_)
      refine lv_goto (tgt := 4) hx hcd dX0_staysOn_29 (by decide) ?_
      exact hjmp _ (Option.some.inj ho).symm _ _ _ hW (lv_sub hl [1, 2, 3, 0] rfl)
    · have ho := gif_p ho c3
      refine lv_iload_n hx hcd dX0_staysOn_20 rfl (lv_at hl 2 rfl) ?_
      refine lv_iconst (v := 1) hx hcd dX0_staysOn_21 (by decide) ?_
      refine lv_iload_n hx hcd dX0_staysOn_22 rfl (lv_at hl 3 rfl) ?_
      refine lv_ishl hx hcd dX0_staysOn_23 ?_
      refine lv_ior hx hcd dX0_staysOn_24 ?_
      refine lv_istore_n (lv' := [(2, .int (x2 ||| (1 <<< (x3 &&& 31)))), (0, .ref (ad b)), (1, .int x1), (3, .int x3)]) hx hcd dX0_staysOn_25 rfl hl (by decide) rfl (fun ls hl => ?_)
      refine lv_iinc (v := x3 + 1) (lv' := [(3, .int (x3 + 1)), (2, .int (x2 ||| (1 <<< (x3 &&& 31)))), (0, .ref (ad b)), (1, .int x1)]) hx hcd dX0_staysOn_26 hl (k := 3) rfl rfl (by decide) rfl (fun ls hl => ?_)
      refine lv_goto (tgt := 4) hx hcd dX0_staysOn_29 (by decide) ?_
      exact hjmp _ (Option.some.inj ho).symm _ _ _ hW (lv_sub hl [2, 3, 1, 0] rfl)
set_option maxHeartbeats 4000000 in
set_option maxRecDepth 100000 in
theorem c_X0_staysOn (l : Launch) (D : va_G) (y : ClassId × ClassId × ClassId) (ad : Nat → Nat) {b : Nat} (hb : g_air b) (x1 : Int32) (σ : gS) (sz : Nat) {q : Int32} (h : X0_staysOn σ b x1 = some q) : Met l yX0_staysOn (Cond.code yX0_staysOn cX0_staysOn 4 (some .int) :: gl) ({ frames := 0, cells := 0, slots := 0, locals := 0 }) (g_Pc D y ad σ sz [.ref (ad b), .int x1]) (g_Qi D y ad σ sz q) 0 0 (g_A ad sz) := by
  have ho := h
  unfold X0_staysOn at ho
  refine g_start (by decide) (Nat.le_of_ble_eq_true rfl) (fun p e s m below meth c ls hC hr hlk hsz hW hl => ?_)
  have hx := hC.1
  have hcd := hC.2.1
  have hl : lv_has ls 4 [(0, .ref (ad b)), (1, .int x1)] := hl
  refine lv_iconst (v := 0) hx hcd dX0_staysOn_0 (by decide) ?_
  refine lv_istore_n (lv' := [(2, .int 0), (0, .ref (ad b)), (1, .int x1)]) hx hcd dX0_staysOn_1 rfl hl (by decide) rfl (fun ls hl => ?_)
  refine lv_iconst (v := 0) hx hcd dX0_staysOn_2 (by decide) ?_
  refine lv_istore_n (lv' := [(3, .int 0), (2, .int 0), (0, .ref (ad b)), (1, .int x1)]) hx hcd dX0_staysOn_3 rfl hl (by decide) rfl (fun ls hl => ?_)
  exact l_X0_staysOn l D y ad hb σ sz hC hr hlk hsz _ ho _ _ _ hW (lv_sub hl [2, 3, 1, 0] rfl)
noncomputable def X0_newStand_k0 (σ : gS) (b : Nat) (x3 : Int32) (x4 : Int32) : Option ((Int32 × Int32 × gS) ⊕ (Int32 × gS)) :=
  if 8 ≤ x4 then (lt_ (g_up σ b 0 (x3 + 1)) fun σ6 => some (.inr (x3, σ6))) else (gd (ib ((x3 * 8) + x4) 64) <| lt_ (g_up σ (b + 3) ((x3 * 8) + x4).toNatClampNeg (-1)) fun σ8 => gd (ib ((x4 * 8) + x3) 64) <| lt_ (g_up σ8 (b + 3) ((x4 * 8) + x3).toNatClampNeg (-1)) fun σ10 => some (.inl (x3, (x4 + 1), σ10)))
noncomputable def X0_newStand_s (b : Nat) (a : Int32 × Int32 × gS) : Option ((Int32 × Int32 × gS) ⊕ (Int32 × gS)) :=
  X0_newStand_k0 a.2.2 b a.1 a.2.1
noncomputable def X0_newStand (σ : gS) (b : Nat) (x1 : Int32) (x2 : Int32) : Option (Int32 × gS) :=
  gd (ib (σ b 0) 8) <| lt_ (g_up σ (b + 1) (σ b 0).toNatClampNeg x1) fun σ2 => lt_ (g_up σ2 (b + 2) (σ b 0).toNatClampNeg x2) fun σ3 => lt_ (g_up σ3 b 4 ((σ3 b 4) ||| (1 <<< ((σ b 0) &&& 31)))) fun σ4 => gr (X0_newStand_s b) ((σ b 0), 0, σ4)
set_option maxHeartbeats 4000000 in
set_option maxRecDepth 100000 in
theorem l_X0_newStand {p : Program} {e : Env} {s : State} {m : MethodId} {args : Array Value} {below : List Frame} {meth : Method} {c : Code} (l : Launch) (D : va_G) (y : ClassId × ClassId × ClassId) (ad : Nat → Nat) {b : Nat} (hb : g_air b) (sz : Nat) (hC : g_C p s m args c cX0_newStand 5 RX0 D y) (hr : meth.sig.returnType = (some .int)) (hlk : meth.locks = false) (hsz : s.heap.size = sz) {r0 : Int32 × gS} : ∀ a : Int32 × Int32 × gS, gr (X0_newStand_s b) a = some r0 → ∀ (H : Heap) (locs : List Loc) (ls : Array Slot), g_W (g_A ad sz) s.heap D y ad [] a.2.2 H locs → lv_has ls 5 [(0, .ref (ad b)), (3, .int a.1), (4, .int a.2.1)] → W p l e ({ frames := 0, cells := 0, slots := 0, locals := 0 }) s m args below meth c H locs 0 0 (MQ below (g_Qi D y ad r0.2 sz r0.1) args s 0 0 (g_A ad sz)) (F0 m 34 ls []) := by
  have hx := hC.1
  have hcd := hC.2.1
  refine gr_all (fun a o ho hret hjmp => ?_)
  obtain ⟨x3, x4, σ⟩ := a
  intro H locs ls hW hl
  have ho : X0_newStand_k0 σ b x3 x4 = some o := ho
  unfold X0_newStand_k0 at ho
  refine lv_iload hx hcd dX0_newStand_34 (lv_at hl 2 rfl) ?_
  refine lv_bipush (v := 8) hx hcd dX0_newStand_36 (by decide) ?_
  refine lv_icmp_ge (tgt := 73) hx hcd dX0_newStand_38 (by decide) (fun c5 => ?_) (fun c5 => ?_)
  · have ho := gif_p ho c5
    refine lv_aload_n hx hcd dX0_newStand_73 rfl (lv_at hl 0 rfl) ?_
    refine lv_iload_n hx hcd dX0_newStand_74 rfl (lv_at hl 1 rfl) ?_
    refine lv_iconst (v := 1) hx hcd dX0_newStand_75 (by decide) ?_
    refine lv_iadd hx hcd dX0_newStand_76 ?_
    obtain ⟨σ6, eσ6, ho⟩ := lt_ex ho
    refine g_puti hC hW (C := RX0) (T := TX0) (N := 16) (ci := 2) (k := 0) (index := 55) (i := b) inGX0 tyX0 tyX0_ok nmX0 rfl (by decide) fl_X0_55 rfl (g_lt_air hb) (g_sh_air hb) rfl rfl rfl dX0_newStand_77 (fun H locs hW => ?_)
    rw [← eσ6] at hW
    refine lv_iload_n hx hcd dX0_newStand_80 rfl (lv_at hl 1 rfl) ?_
    obtain rfl := hret _ (Option.some.inj ho).symm
    exact g_iret hC hr hlk hsz hW dX0_newStand_81
  · have ho := gif_n ho c5
    refine lv_aload_n hx hcd dX0_newStand_41 rfl (lv_at hl 0 rfl) ?_
    refine g_getr hC hW (C := RX0) (T := TX0) (N := 16) (ci := 2) (k := 7) (index := 22) (i := b) (r := (b + 3)) inGX0 rfl (by decide) fl_X0_22 (g_lt_air hb) (g_sh_air hb) rfl dX0_newStand_42 ?_
    refine lv_iload_n hx hcd dX0_newStand_45 rfl (lv_at hl 1 rfl) ?_
    refine lv_bipush (v := 8) hx hcd dX0_newStand_46 (by decide) ?_
    refine lv_imul hx hcd dX0_newStand_48 ?_
    refine lv_iload hx hcd dX0_newStand_49 (lv_at hl 2 rfl) ?_
    refine lv_iadd hx hcd dX0_newStand_51 ?_
    refine lv_iconst (v := (-1)) hx hcd dX0_newStand_52 (by decide) ?_
    obtain ⟨i7, ho⟩ := gd_some ho
    obtain ⟨σ8, eσ8, ho⟩ := lt_ex ho
    refine g_iast hC hW (i := (b + 3)) (g_lt_arr (j := 3) hb (by decide)) (g_sa3 hb) i7 dX0_newStand_53 (fun H locs hW => ?_)
    rw [← eσ8] at hW
    refine lv_aload_n hx hcd dX0_newStand_54 rfl (lv_at hl 0 rfl) ?_
    refine g_getr hC hW (C := RX0) (T := TX0) (N := 16) (ci := 2) (k := 7) (index := 22) (i := b) (r := (b + 3)) inGX0 rfl (by decide) fl_X0_22 (g_lt_air hb) (g_sh_air hb) rfl dX0_newStand_55 ?_
    refine lv_iload hx hcd dX0_newStand_58 (lv_at hl 2 rfl) ?_
    refine lv_bipush (v := 8) hx hcd dX0_newStand_60 (by decide) ?_
    refine lv_imul hx hcd dX0_newStand_62 ?_
    refine lv_iload_n hx hcd dX0_newStand_63 rfl (lv_at hl 1 rfl) ?_
    refine lv_iadd hx hcd dX0_newStand_64 ?_
    refine lv_iconst (v := (-1)) hx hcd dX0_newStand_65 (by decide) ?_
    obtain ⟨i9, ho⟩ := gd_some ho
    obtain ⟨σ10, eσ10, ho⟩ := lt_ex ho
    refine g_iast hC hW (i := (b + 3)) (g_lt_arr (j := 3) hb (by decide)) (g_sa3 hb) i9 dX0_newStand_66 (fun H locs hW => ?_)
    rw [← eσ10] at hW
    refine lv_iinc (v := x4 + 1) (lv' := [(4, .int (x4 + 1)), (0, .ref (ad b)), (3, .int x3)]) hx hcd dX0_newStand_67 hl (k := 2) rfl rfl (by decide) rfl (fun ls hl => ?_)
    refine lv_goto (tgt := 34) hx hcd dX0_newStand_70 (by decide) ?_
    exact hjmp _ (Option.some.inj ho).symm _ _ _ hW (lv_sub hl [1, 2, 0] rfl)
set_option maxHeartbeats 4000000 in
set_option maxRecDepth 100000 in
theorem c_X0_newStand (l : Launch) (D : va_G) (y : ClassId × ClassId × ClassId) (ad : Nat → Nat) {b : Nat} (hb : g_air b) (x1 : Int32) (x2 : Int32) (σ : gS) (sz : Nat) {q : Int32 × gS} (h : X0_newStand σ b x1 x2 = some q) : Met l yX0_newStand (Cond.code yX0_newStand cX0_newStand 5 (some .int) :: gl) ({ frames := 0, cells := 0, slots := 0, locals := 0 }) (g_Pc D y ad σ sz [.ref (ad b), .int x1, .int x2]) (g_Qi D y ad q.2 sz q.1) 0 0 (g_A ad sz) := by
  have ho := h
  unfold X0_newStand at ho
  refine g_start (by decide) (Nat.le_of_ble_eq_true rfl) (fun p e s m below meth c ls hC hr hlk hsz hW hl => ?_)
  have hx := hC.1
  have hcd := hC.2.1
  have hl : lv_has ls 5 [(0, .ref (ad b)), (1, .int x1), (2, .int x2)] := hl
  refine lv_aload_n hx hcd dX0_newStand_0 rfl (lv_at hl 0 rfl) ?_
  refine g_geti hC hW (C := RX0) (T := TX0) (N := 16) (ci := 2) (k := 0) (index := 55) (i := b) inGX0 rfl (by decide) fl_X0_55 (g_lt_air hb) (g_sh_air hb) rfl dX0_newStand_1 ?_
  refine lv_istore_n (lv' := [(3, .int (σ b 0)), (0, .ref (ad b)), (1, .int x1), (2, .int x2)]) hx hcd dX0_newStand_4 rfl hl (by decide) rfl (fun ls hl => ?_)
  refine lv_aload_n hx hcd dX0_newStand_5 rfl (lv_at hl 1 rfl) ?_
  refine g_getr hC hW (C := RX0) (T := TX0) (N := 16) (ci := 2) (k := 5) (index := 15) (i := b) (r := (b + 1)) inGX0 rfl (by decide) fl_X0_15 (g_lt_air hb) (g_sh_air hb) rfl dX0_newStand_6 ?_
  refine lv_iload_n hx hcd dX0_newStand_9 rfl (lv_at hl 0 rfl) ?_
  refine lv_iload_n hx hcd dX0_newStand_10 rfl (lv_at hl 2 rfl) ?_
  obtain ⟨i1, ho⟩ := gd_some ho
  obtain ⟨σ2, eσ2, ho⟩ := lt_ex ho
  refine g_iast hC hW (i := (b + 1)) (g_lt_arr (j := 1) hb (by decide)) (g_sa1 hb) i1 dX0_newStand_11 (fun H locs hW => ?_)
  rw [← eσ2] at hW
  refine lv_aload_n hx hcd dX0_newStand_12 rfl (lv_at hl 1 rfl) ?_
  refine g_getr hC hW (C := RX0) (T := TX0) (N := 16) (ci := 2) (k := 6) (index := 19) (i := b) (r := (b + 2)) inGX0 rfl (by decide) fl_X0_19 (g_lt_air hb) (g_sh_air hb) rfl dX0_newStand_13 ?_
  refine lv_iload_n hx hcd dX0_newStand_16 rfl (lv_at hl 0 rfl) ?_
  refine lv_iload_n hx hcd dX0_newStand_17 rfl (lv_at hl 3 rfl) ?_
  obtain ⟨σ3, eσ3, ho⟩ := lt_ex ho
  refine g_iast hC hW (i := (b + 2)) (g_lt_arr (j := 2) hb (by decide)) (g_sa2 hb) i1 dX0_newStand_18 (fun H locs hW => ?_)
  rw [← eσ3] at hW
  refine lv_aload_n hx hcd dX0_newStand_19 rfl (lv_at hl 1 rfl) ?_
  refine lv_dup hx hcd dX0_newStand_20 rfl ?_
  refine g_geti hC hW (C := RX0) (T := TX0) (N := 16) (ci := 2) (k := 4) (index := 64) (i := b) inGX0 rfl (by decide) fl_X0_64 (g_lt_air hb) (g_sh_air hb) rfl dX0_newStand_21 ?_
  refine lv_iconst (v := 1) hx hcd dX0_newStand_24 (by decide) ?_
  refine lv_iload_n hx hcd dX0_newStand_25 rfl (lv_at hl 0 rfl) ?_
  refine lv_ishl hx hcd dX0_newStand_26 ?_
  refine lv_ior hx hcd dX0_newStand_27 ?_
  obtain ⟨σ4, eσ4, ho⟩ := lt_ex ho
  refine g_puti hC hW (C := RX0) (T := TX0) (N := 16) (ci := 2) (k := 4) (index := 64) (i := b) inGX0 tyX0 tyX0_ok nmX0 rfl (by decide) fl_X0_64 rfl (g_lt_air hb) (g_sh_air hb) rfl rfl rfl dX0_newStand_28 (fun H locs hW => ?_)
  rw [← eσ4] at hW
  refine lv_iconst (v := 0) hx hcd dX0_newStand_31 (by decide) ?_
  refine lv_istore (lv' := [(4, .int 0), (3, .int (σ b 0)), (0, .ref (ad b)), (1, .int x1), (2, .int x2)]) hx hcd dX0_newStand_32 hl (by decide) rfl (fun ls hl => ?_)
  exact l_X0_newStand l D y ad hb sz hC hr hlk hsz _ ho _ _ _ hW (lv_sub hl [2, 1, 0] rfl)
