noncomputable def X7_at_ (σ : gS) (x1 : Int32) (x2 : Int32) : Option (Int32 × gS) :=
  (X7_isStand σ x1).bind fun r2 => if r2 = 0 then (lt_ (g_up σ 132 8 1) fun σ22 => if (σ22 132 8) ≤ 0 then ((X7_stayAt σ22 x1 x2).bind fun r25 => some (r25, σ22)) else (some (0, σ22))) else ((X7_in σ x2 0 1440).bind fun r5 => if r5 = 0 then (lt_ (g_up σ 132 8 2) fun σ18 => if (σ18 132 8) ≤ 0 then ((X7_stayAt σ18 x1 x2).bind fun r21 => some (r21, σ18)) else (some (0, σ18))) else ((X7_stayAt σ x1 x2).bind fun r8 => if 0 ≤ r8 then (lt_ (g_up σ 132 8 0) fun σ10 => if (σ10 132 8) ≤ 0 then ((X7_stayAt σ10 x1 x2).bind fun r13 => some (r13, σ10)) else (some (0, σ10))) else (lt_ (g_up σ 132 8 3) fun σ14 => if (σ14 132 8) ≤ 0 then ((X7_stayAt σ14 x1 x2).bind fun r17 => some (r17, σ14)) else (some (0, σ14)))))
set_option maxHeartbeats 4000000 in
set_option maxRecDepth 100000 in
theorem c_X7_at_ (l : Launch) (D : va_G) (y : ClassId × ClassId × ClassId) (ad : Nat → Nat) (x1 : Int32) (x2 : Int32) (σ : gS) (sz : Nat) {q : Int32 × gS} (h : X7_at_ σ x1 x2 = some q) : Met l yX7_at_ (Cond.code yX7_at_ cX7_at_ 3 (some .int) :: gl) ({ frames := 5, cells := 0, slots := 0, locals := 108 }) (g_Pc D y ad σ sz [.ref (ad 132), .int x1, .int x2]) (g_Qi D y ad q.2 sz q.1) 0 0 (g_A ad sz) := by
  have ho := h
  unfold X7_at_ at ho
  refine g_start (by decide) (Nat.le_of_ble_eq_true rfl) (fun p e s m below meth c ls hC hr hlk hsz hW hl => ?_)
  have hx := hC.1
  have hcd := hC.2.1
  have hl : lv_has ls 3 [(0, .ref (ad 132)), (1, .int x1), (2, .int x2)] := hl
  refine lv_aload_n hx hcd dX7_at__0 rfl (lv_at hl 0 rfl) ?_
  refine lv_aload_n hx hcd dX7_at__1 rfl (lv_at hl 0 rfl) ?_
  refine lv_iload_n hx hcd dX7_at__2 rfl (lv_at hl 1 rfl) ?_
  obtain ⟨r2, h1, ho⟩ := gb_some ho
  refine g_calli hW (g_runV (As := [.int x1]) (rest := [.ref (ad 132)]) (i := 132) hC hW (c_X7_isStand l D y ad x1 _ _ h1) ok_X7_73 ⟨rfl, rfl, Nat.le_of_ble_eq_true rfl, Nat.le_of_ble_eq_true rfl⟩ (by decide) rfl rfl rfl rfl hl.1 rfl (Nat.le_of_ble_eq_true rfl) dX7_at__3 ⟨Nat.zero_le _, Nat.zero_le _⟩) (fun H locs hW => ?_)
  refine lv_if_ne (tgt := 13) hx hcd dX7_at__6 (by decide) (fun c3 => ?_) (fun c3 => ?_)
  · have ho := gif_n ho c3
    refine lv_iload_n hx hcd dX7_at__13 rfl (lv_at hl 2 rfl) ?_
    refine lv_iconst (v := 0) hx hcd dX7_at__14 (by decide) ?_
    refine lv_sipush (v := 1440) hx hcd dX7_at__15 (by decide) ?_
    obtain ⟨r5, h4, ho⟩ := gb_some ho
    refine g_calli hW (g_runS (As := [.int x2, .int 0, .int 1440]) (rest := [.ref (ad 132)]) hC hW (c_X7_in l D y ad x2 0 1440 _ _ h4) ok_X7_51 ⟨rfl, rfl, Nat.le_of_ble_eq_true rfl, Nat.le_of_ble_eq_true rfl⟩ rfl hl.1 rfl (Nat.le_of_ble_eq_true rfl) dX7_at__18 ⟨Nat.zero_le _, Nat.zero_le _⟩) (fun H locs hW => ?_)
    refine lv_if_ne (tgt := 28) hx hcd dX7_at__21 (by decide) (fun c6 => ?_) (fun c6 => ?_)
    · have ho := gif_n ho c6
      refine lv_aload_n hx hcd dX7_at__28 rfl (lv_at hl 0 rfl) ?_
      refine lv_iload_n hx hcd dX7_at__29 rfl (lv_at hl 1 rfl) ?_
      refine lv_iload_n hx hcd dX7_at__30 rfl (lv_at hl 2 rfl) ?_
      obtain ⟨r8, h7, ho⟩ := gb_some ho
      refine g_calli hW (g_runV (As := [.int x1, .int x2]) (rest := [.ref (ad 132)]) (i := 132) hC hW (c_X7_stayAt l D y ad x1 x2 _ _ h7) ok_X7_131 ⟨rfl, rfl, Nat.le_of_ble_eq_true rfl, Nat.le_of_ble_eq_true rfl⟩ (by decide) rfl rfl rfl rfl hl.1 rfl (Nat.le_of_ble_eq_true rfl) dX7_at__31 ⟨Nat.zero_le _, Nat.zero_le _⟩) (fun H locs hW => ?_)
      refine lv_if_ge (tgt := 41) hx hcd dX7_at__34 (by decide) (fun c9 => ?_) (fun c9 => ?_)
      · have ho := gif_p ho c9
        refine lv_iconst (v := 0) hx hcd dX7_at__41 (by decide) ?_
        obtain ⟨σ10, eσ10, ho⟩ := lt_ex ho
        refine g_puti hC hW (C := RX7) (T := TX7) (N := 19) (ci := 9) (k := 8) (index := 48) (i := 132) inGX7 tyX7 tyX7_ok nmX7 rfl (by decide) fl_X7_48 rfl (by decide) rfl rfl rfl rfl dX7_at__42 (fun H locs hW => ?_)
        rw [← eσ10] at hW
        refine lv_aload_n hx hcd dX7_at__45 rfl (lv_at hl 0 rfl) ?_
        refine g_geti hC hW (C := RX7) (T := TX7) (N := 19) (ci := 9) (k := 8) (index := 48) (i := 132) inGX7 rfl (by decide) fl_X7_48 (by decide) rfl rfl dX7_at__46 ?_
        refine lv_if_le (tgt := 56) hx hcd dX7_at__49 (by decide) (fun c11 => ?_) (fun c11 => ?_)
        · have ho := gif_p ho c11
          refine lv_aload_n hx hcd dX7_at__56 rfl (lv_at hl 0 rfl) ?_
          refine lv_iload_n hx hcd dX7_at__57 rfl (lv_at hl 1 rfl) ?_
          refine lv_iload_n hx hcd dX7_at__58 rfl (lv_at hl 2 rfl) ?_
          obtain ⟨r13, h12, ho⟩ := gb_some ho
          refine g_calli hW (g_runV (As := [.int x1, .int x2]) (rest := []) (i := 132) hC hW (c_X7_stayAt l D y ad x1 x2 _ _ h12) ok_X7_131 ⟨rfl, rfl, Nat.le_of_ble_eq_true rfl, Nat.le_of_ble_eq_true rfl⟩ (by decide) rfl rfl rfl rfl hl.1 rfl (Nat.le_of_ble_eq_true rfl) dX7_at__59 ⟨Nat.zero_le _, Nat.zero_le _⟩) (fun H locs hW => ?_)
          obtain rfl := Option.some.inj ho
          exact g_iret hC hr hlk hsz hW dX7_at__62
        · have ho := gif_n ho c11
          refine lv_iconst (v := 0) hx hcd dX7_at__52 (by decide) ?_
          refine lv_goto (tgt := 62) hx hcd dX7_at__53 (by decide) ?_
          obtain rfl := Option.some.inj ho
          exact g_iret hC hr hlk hsz hW dX7_at__62
      · have ho := gif_n ho c9
        refine lv_iconst (v := 3) hx hcd dX7_at__37 (by decide) ?_
        refine lv_goto (tgt := 42) hx hcd dX7_at__38 (by decide) ?_
        obtain ⟨σ14, eσ14, ho⟩ := lt_ex ho
        refine g_puti hC hW (C := RX7) (T := TX7) (N := 19) (ci := 9) (k := 8) (index := 48) (i := 132) inGX7 tyX7 tyX7_ok nmX7 rfl (by decide) fl_X7_48 rfl (by decide) rfl rfl rfl rfl dX7_at__42 (fun H locs hW => ?_)
        rw [← eσ14] at hW
        refine lv_aload_n hx hcd dX7_at__45 rfl (lv_at hl 0 rfl) ?_
        refine g_geti hC hW (C := RX7) (T := TX7) (N := 19) (ci := 9) (k := 8) (index := 48) (i := 132) inGX7 rfl (by decide) fl_X7_48 (by decide) rfl rfl dX7_at__46 ?_
        refine lv_if_le (tgt := 56) hx hcd dX7_at__49 (by decide) (fun c15 => ?_) (fun c15 => ?_)
        · have ho := gif_p ho c15
          refine lv_aload_n hx hcd dX7_at__56 rfl (lv_at hl 0 rfl) ?_
          refine lv_iload_n hx hcd dX7_at__57 rfl (lv_at hl 1 rfl) ?_
          refine lv_iload_n hx hcd dX7_at__58 rfl (lv_at hl 2 rfl) ?_
          obtain ⟨r17, h16, ho⟩ := gb_some ho
          refine g_calli hW (g_runV (As := [.int x1, .int x2]) (rest := []) (i := 132) hC hW (c_X7_stayAt l D y ad x1 x2 _ _ h16) ok_X7_131 ⟨rfl, rfl, Nat.le_of_ble_eq_true rfl, Nat.le_of_ble_eq_true rfl⟩ (by decide) rfl rfl rfl rfl hl.1 rfl (Nat.le_of_ble_eq_true rfl) dX7_at__59 ⟨Nat.zero_le _, Nat.zero_le _⟩) (fun H locs hW => ?_)
          obtain rfl := Option.some.inj ho
          exact g_iret hC hr hlk hsz hW dX7_at__62
        · have ho := gif_n ho c15
          refine lv_iconst (v := 0) hx hcd dX7_at__52 (by decide) ?_
          refine lv_goto (tgt := 62) hx hcd dX7_at__53 (by decide) ?_
          obtain rfl := Option.some.inj ho
          exact g_iret hC hr hlk hsz hW dX7_at__62
    · have ho := gif_p ho c6
      refine lv_iconst (v := 2) hx hcd dX7_at__24 (by decide) ?_
      refine lv_goto (tgt := 42) hx hcd dX7_at__25 (by decide) ?_
      obtain ⟨σ18, eσ18, ho⟩ := lt_ex ho
      refine g_puti hC hW (C := RX7) (T := TX7) (N := 19) (ci := 9) (k := 8) (index := 48) (i := 132) inGX7 tyX7 tyX7_ok nmX7 rfl (by decide) fl_X7_48 rfl (by decide) rfl rfl rfl rfl dX7_at__42 (fun H locs hW => ?_)
      rw [← eσ18] at hW
      refine lv_aload_n hx hcd dX7_at__45 rfl (lv_at hl 0 rfl) ?_
      refine g_geti hC hW (C := RX7) (T := TX7) (N := 19) (ci := 9) (k := 8) (index := 48) (i := 132) inGX7 rfl (by decide) fl_X7_48 (by decide) rfl rfl dX7_at__46 ?_
      refine lv_if_le (tgt := 56) hx hcd dX7_at__49 (by decide) (fun c19 => ?_) (fun c19 => ?_)
      · have ho := gif_p ho c19
        refine lv_aload_n hx hcd dX7_at__56 rfl (lv_at hl 0 rfl) ?_
        refine lv_iload_n hx hcd dX7_at__57 rfl (lv_at hl 1 rfl) ?_
        refine lv_iload_n hx hcd dX7_at__58 rfl (lv_at hl 2 rfl) ?_
        obtain ⟨r21, h20, ho⟩ := gb_some ho
        refine g_calli hW (g_runV (As := [.int x1, .int x2]) (rest := []) (i := 132) hC hW (c_X7_stayAt l D y ad x1 x2 _ _ h20) ok_X7_131 ⟨rfl, rfl, Nat.le_of_ble_eq_true rfl, Nat.le_of_ble_eq_true rfl⟩ (by decide) rfl rfl rfl rfl hl.1 rfl (Nat.le_of_ble_eq_true rfl) dX7_at__59 ⟨Nat.zero_le _, Nat.zero_le _⟩) (fun H locs hW => ?_)
        obtain rfl := Option.some.inj ho
        exact g_iret hC hr hlk hsz hW dX7_at__62
      · have ho := gif_n ho c19
        refine lv_iconst (v := 0) hx hcd dX7_at__52 (by decide) ?_
        refine lv_goto (tgt := 62) hx hcd dX7_at__53 (by decide) ?_
        obtain rfl := Option.some.inj ho
        exact g_iret hC hr hlk hsz hW dX7_at__62
  · have ho := gif_p ho c3
    refine lv_iconst (v := 1) hx hcd dX7_at__9 (by decide) ?_
    refine lv_goto (tgt := 42) hx hcd dX7_at__10 (by decide) ?_
    obtain ⟨σ22, eσ22, ho⟩ := lt_ex ho
    refine g_puti hC hW (C := RX7) (T := TX7) (N := 19) (ci := 9) (k := 8) (index := 48) (i := 132) inGX7 tyX7 tyX7_ok nmX7 rfl (by decide) fl_X7_48 rfl (by decide) rfl rfl rfl rfl dX7_at__42 (fun H locs hW => ?_)
    rw [← eσ22] at hW
    refine lv_aload_n hx hcd dX7_at__45 rfl (lv_at hl 0 rfl) ?_
    refine g_geti hC hW (C := RX7) (T := TX7) (N := 19) (ci := 9) (k := 8) (index := 48) (i := 132) inGX7 rfl (by decide) fl_X7_48 (by decide) rfl rfl dX7_at__46 ?_
    refine lv_if_le (tgt := 56) hx hcd dX7_at__49 (by decide) (fun c23 => ?_) (fun c23 => ?_)
    · have ho := gif_p ho c23
      refine lv_aload_n hx hcd dX7_at__56 rfl (lv_at hl 0 rfl) ?_
      refine lv_iload_n hx hcd dX7_at__57 rfl (lv_at hl 1 rfl) ?_
      refine lv_iload_n hx hcd dX7_at__58 rfl (lv_at hl 2 rfl) ?_
      obtain ⟨r25, h24, ho⟩ := gb_some ho
      refine g_calli hW (g_runV (As := [.int x1, .int x2]) (rest := []) (i := 132) hC hW (c_X7_stayAt l D y ad x1 x2 _ _ h24) ok_X7_131 ⟨rfl, rfl, Nat.le_of_ble_eq_true rfl, Nat.le_of_ble_eq_true rfl⟩ (by decide) rfl rfl rfl rfl hl.1 rfl (Nat.le_of_ble_eq_true rfl) dX7_at__59 ⟨Nat.zero_le _, Nat.zero_le _⟩) (fun H locs hW => ?_)
      obtain rfl := Option.some.inj ho
      exact g_iret hC hr hlk hsz hW dX7_at__62
    · have ho := gif_n ho c23
      refine lv_iconst (v := 0) hx hcd dX7_at__52 (by decide) ?_
      refine lv_goto (tgt := 62) hx hcd dX7_at__53 (by decide) ?_
      obtain rfl := Option.some.inj ho
      exact g_iret hC hr hlk hsz hW dX7_at__62
noncomputable def X7_gap_k0 (σ : gS) (x1 : Int32) (x2 : Int32) (x3 : Int32) (x4 : Int32) : Option ((Int32 × Int32 × Int32 × Int32 × gS) ⊕ (Int32 × gS)) :=
  if 20 ≤ x4 then (some (.inr ((x3 - x2), σ))) else ((X7_isOn σ x4).bind fun r24 => if r24 = 0 then (some (.inl (x1, x2, x3, (x4 + 1), σ))) else ((X7_on σ x4).bind fun r27 => if r27 = x1 then ((X7_from σ x4).bind fun r30 => if r30 ≤ x2 then (some (.inl (x1, x2, x3, (x4 + 1), σ))) else ((X7_from σ x4).bind fun r33 => some (.inl (x1, x2, (if r33 < x3 then r33 else x3), (x4 + 1), σ)))) else (some (.inl (x1, x2, x3, (x4 + 1), σ)))))
noncomputable def X7_gap_s (a : Int32 × Int32 × Int32 × Int32 × gS) : Option ((Int32 × Int32 × Int32 × Int32 × gS) ⊕ (Int32 × gS)) :=
  X7_gap_k0 a.2.2.2.2 a.1 a.2.1 a.2.2.1 a.2.2.2.1
noncomputable def X7_gap (σ : gS) (x1 : Int32) (x2 : Int32) : Option (Int32 × gS) :=
  (X7_isStand σ x1).bind fun r2 => if r2 = 0 then (lt_ (g_up σ 132 8 1) fun σ17 => if 0 < (σ17 132 8) then (some (0, σ17)) else ((X7_stayAt σ17 x1 x2).bind fun r20 => if r20 < 0 then (gr (X7_gap_s) (x1, x2, 1440, 0, σ17)) else (some (0, σ17)))) else ((X7_in σ x2 0 1440).bind fun r5 => if r5 = 0 then (lt_ (g_up σ 132 8 2) fun σ12 => if 0 < (σ12 132 8) then (some (0, σ12)) else ((X7_stayAt σ12 x1 x2).bind fun r15 => if r15 < 0 then (gr (X7_gap_s) (x1, x2, 1440, 0, σ12)) else (some (0, σ12)))) else (lt_ (g_up σ 132 8 0) fun σ7 => if 0 < (σ7 132 8) then (some (0, σ7)) else ((X7_stayAt σ7 x1 x2).bind fun r10 => if r10 < 0 then (gr (X7_gap_s) (x1, x2, 1440, 0, σ7)) else (some (0, σ7)))))
set_option maxHeartbeats 4000000 in
set_option maxRecDepth 100000 in
theorem l_X7_gap {p : Program} {e : Env} {s : State} {m : MethodId} {args : Array Value} {below : List Frame} {meth : Method} {c : Code} (l : Launch) (D : va_G) (y : ClassId × ClassId × ClassId) (ad : Nat → Nat) (sz : Nat) (hC : g_C p s m args c cX7_gap 5 RX7 D y) (hr : meth.sig.returnType = (some .int)) (hlk : meth.locks = false) (hsz : s.heap.size = sz) {r0 : Int32 × gS} : ∀ a : Int32 × Int32 × Int32 × Int32 × gS, gr (X7_gap_s) a = some r0 → ∀ (H : Heap) (locs : List Loc) (ls : Array Slot), g_W (g_A ad sz) s.heap D y ad [] a.2.2.2.2 H locs → lv_has ls 5 [(0, .ref (ad 132)), (1, .int a.1), (2, .int a.2.1), (3, .int a.2.2.1), (4, .int a.2.2.2.1)] → W p l e ({ frames := 5, cells := 0, slots := 0, locals := 108 }) s m args below meth c H locs 0 0 (MQ below (g_Qi D y ad r0.2 sz r0.1) args s 0 0 (g_A ad sz)) (F0 m 57 ls []) := by
  have hx := hC.1
  have hcd := hC.2.1
  refine gr_all (fun a o ho hret hjmp => ?_)
  obtain ⟨x1, x2, x3, x4, σ⟩ := a
  intro H locs ls hW hl
  have ho : X7_gap_k0 σ x1 x2 x3 x4 = some o := ho
  unfold X7_gap_k0 at ho
  refine lv_iload hx hcd dX7_gap_57 (lv_at hl 4 rfl) ?_
  refine lv_bipush (v := 20) hx hcd dX7_gap_59 (by decide) ?_
  refine lv_icmp_ge (tgt := 114) hx hcd dX7_gap_61 (by decide) (fun c22 => ?_) (fun c22 => ?_)
  · have ho := gif_p ho c22
    refine lv_iload_n hx hcd dX7_gap_114 rfl (lv_at hl 3 rfl) ?_
    refine lv_iload_n hx hcd dX7_gap_115 rfl (lv_at hl 2 rfl) ?_
    refine lv_isub hx hcd dX7_gap_116 ?_
    obtain rfl := hret _ (Option.some.inj ho).symm
    exact g_iret hC hr hlk hsz hW dX7_gap_117
  · have ho := gif_n ho c22
    refine lv_aload_n hx hcd dX7_gap_64 rfl (lv_at hl 0 rfl) ?_
    refine lv_iload hx hcd dX7_gap_65 (lv_at hl 4 rfl) ?_
    obtain ⟨r24, h23, ho⟩ := gb_some ho
    refine g_calli hW (g_runV (As := [.int x4]) (rest := []) (i := 132) hC hW (c_X7_isOn l D y ad x4 _ _ h23) ok_X7_97 ⟨rfl, rfl, Nat.le_of_ble_eq_true rfl, Nat.le_of_ble_eq_true rfl⟩ (by decide) rfl rfl rfl rfl hl.1 rfl (Nat.le_of_ble_eq_true rfl) dX7_gap_67 ⟨Nat.zero_le _, Nat.zero_le _⟩) (fun H locs hW => ?_)
    refine lv_if_eq (tgt := 106) hx hcd dX7_gap_70 (by decide) (fun c25 => ?_) (fun c25 => ?_)
    · have ho := gif_p ho c25
      refine lv_iload_n hx hcd dX7_gap_106 rfl (lv_at hl 3 rfl) ?_
      refine lv_istore_n (lv' := [(3, .int x3), (0, .ref (ad 132)), (1, .int x1), (2, .int x2), (4, .int x4)]) hx hcd dX7_gap_107 rfl hl (by decide) rfl (fun ls hl => ?_)
      refine lv_iinc (v := x4 + 1) (lv' := [(4, .int (x4 + 1)), (3, .int x3), (0, .ref (ad 132)), (1, .int x1), (2, .int x2)]) hx hcd dX7_gap_108 hl (k := 4) rfl rfl (by decide) rfl (fun ls hl => ?_)
      refine lv_goto (tgt := 57) hx hcd dX7_gap_111 (by decide) ?_
      exact hjmp _ (Option.some.inj ho).symm _ _ _ hW (lv_sub hl [2, 3, 4, 1, 0] rfl)
    · have ho := gif_n ho c25
      refine lv_aload_n hx hcd dX7_gap_73 rfl (lv_at hl 0 rfl) ?_
      refine lv_iload hx hcd dX7_gap_74 (lv_at hl 4 rfl) ?_
      obtain ⟨r27, h26, ho⟩ := gb_some ho
      refine g_calli hW (g_runV (As := [.int x4]) (rest := []) (i := 132) hC hW (c_X7_on l D y ad x4 _ _ h26) ok_X7_94 ⟨rfl, rfl, Nat.le_of_ble_eq_true rfl, Nat.le_of_ble_eq_true rfl⟩ (by decide) rfl rfl rfl rfl hl.1 rfl (Nat.le_of_ble_eq_true rfl) dX7_gap_76 ⟨Nat.zero_le _, Nat.zero_le _⟩) (fun H locs hW => ?_)
      refine lv_iload_n hx hcd dX7_gap_79 rfl (lv_at hl 1 rfl) ?_
      refine lv_icmp_ne (tgt := 106) hx hcd dX7_gap_80 (by decide) (fun c28 => ?_) (fun c28 => ?_)
      · have ho := gif_n ho c28
        refine lv_iload_n hx hcd dX7_gap_106 rfl (lv_at hl 3 rfl) ?_
        refine lv_istore_n (lv' := [(3, .int x3), (0, .ref (ad 132)), (1, .int x1), (2, .int x2), (4, .int x4)]) hx hcd dX7_gap_107 rfl hl (by decide) rfl (fun ls hl => ?_)
        refine lv_iinc (v := x4 + 1) (lv' := [(4, .int (x4 + 1)), (3, .int x3), (0, .ref (ad 132)), (1, .int x1), (2, .int x2)]) hx hcd dX7_gap_108 hl (k := 4) rfl rfl (by decide) rfl (fun ls hl => ?_)
        refine lv_goto (tgt := 57) hx hcd dX7_gap_111 (by decide) ?_
        exact hjmp _ (Option.some.inj ho).symm _ _ _ hW (lv_sub hl [2, 3, 4, 1, 0] rfl)
      · have ho := gif_p ho c28
        refine lv_aload_n hx hcd dX7_gap_83 rfl (lv_at hl 0 rfl) ?_
        refine lv_iload hx hcd dX7_gap_84 (lv_at hl 4 rfl) ?_
        obtain ⟨r30, h29, ho⟩ := gb_some ho
        refine g_calli hW (g_runV (As := [.int x4]) (rest := []) (i := 132) hC hW (c_X7_from l D y ad x4 _ _ h29) ok_X7_103 ⟨rfl, rfl, Nat.le_of_ble_eq_true rfl, Nat.le_of_ble_eq_true rfl⟩ (by decide) rfl rfl rfl rfl hl.1 rfl (Nat.le_of_ble_eq_true rfl) dX7_gap_86 ⟨Nat.zero_le _, Nat.zero_le _⟩) (fun H locs hW => ?_)
        refine lv_iload_n hx hcd dX7_gap_89 rfl (lv_at hl 2 rfl) ?_
        refine lv_icmp_le (tgt := 106) hx hcd dX7_gap_90 (by decide) (fun c31 => ?_) (fun c31 => ?_)
        · have ho := gif_p ho c31
          refine lv_iload_n hx hcd dX7_gap_106 rfl (lv_at hl 3 rfl) ?_
          refine lv_istore_n (lv' := [(3, .int x3), (0, .ref (ad 132)), (1, .int x1), (2, .int x2), (4, .int x4)]) hx hcd dX7_gap_107 rfl hl (by decide) rfl (fun ls hl => ?_)
          refine lv_iinc (v := x4 + 1) (lv' := [(4, .int (x4 + 1)), (3, .int x3), (0, .ref (ad 132)), (1, .int x1), (2, .int x2)]) hx hcd dX7_gap_108 hl (k := 4) rfl rfl (by decide) rfl (fun ls hl => ?_)
          refine lv_goto (tgt := 57) hx hcd dX7_gap_111 (by decide) ?_
          exact hjmp _ (Option.some.inj ho).symm _ _ _ hW (lv_sub hl [2, 3, 4, 1, 0] rfl)
        · have ho := gif_n ho c31
          refine lv_iload_n hx hcd dX7_gap_93 rfl (lv_at hl 3 rfl) ?_
          refine lv_aload_n hx hcd dX7_gap_94 rfl (lv_at hl 0 rfl) ?_
          refine lv_iload hx hcd dX7_gap_95 (lv_at hl 4 rfl) ?_
          obtain ⟨r33, h32, ho⟩ := gb_some ho
          refine g_calli hW (g_runV (As := [.int x4]) (rest := [.int x3]) (i := 132) hC hW (c_X7_from l D y ad x4 _ _ h32) ok_X7_103 ⟨rfl, rfl, Nat.le_of_ble_eq_true rfl, Nat.le_of_ble_eq_true rfl⟩ (by decide) rfl rfl rfl rfl hl.1 rfl (Nat.le_of_ble_eq_true rfl) dX7_gap_97 ⟨Nat.zero_le _, Nat.zero_le _⟩) (fun H locs hW => ?_)
          refine va_mmin hx hcd (hC.2.2.1.trans hl.1.symm) hC.2.2.2.1 (hC.2.2.2.2.1 _ ml_X7_134) (hC.2.2.2.2.1 _ mt_J9_min_7cf53) (hC.2.2.2.2.1 _ ii_J9) (hC.2.2.2.2.1 _ mc_J9_min_7cf53) (Nat.le_of_ble_eq_true rfl) (Nat.le_of_ble_eq_true rfl) (Nat.zero_le _) (Nat.zero_le _) dX7_gap_100 ?_
          refine lv_goto (tgt := 107) hx hcd dX7_gap_103 (by decide) ?_
          refine lv_istore_n (lv' := [(3, .int (if r33 < x3 then r33 else x3)), (0, .ref (ad 132)), (1, .int x1), (2, .int x2), (4, .int x4)]) hx hcd dX7_gap_107 rfl hl (by decide) rfl (fun ls hl => ?_)
          refine lv_iinc (v := x4 + 1) (lv' := [(4, .int (x4 + 1)), (3, .int (if r33 < x3 then r33 else x3)), (0, .ref (ad 132)), (1, .int x1), (2, .int x2)]) hx hcd dX7_gap_108 hl (k := 4) rfl rfl (by decide) rfl (fun ls hl => ?_)
          refine lv_goto (tgt := 57) hx hcd dX7_gap_111 (by decide) ?_
          exact hjmp _ (Option.some.inj ho).symm _ _ _ hW (lv_sub hl [2, 3, 4, 1, 0] rfl)
set_option maxHeartbeats 4000000 in
set_option maxRecDepth 100000 in
theorem c_X7_gap (l : Launch) (D : va_G) (y : ClassId × ClassId × ClassId) (ad : Nat → Nat) (x1 : Int32) (x2 : Int32) (σ : gS) (sz : Nat) {q : Int32 × gS} (h : X7_gap σ x1 x2 = some q) : Met l yX7_gap (Cond.code yX7_gap cX7_gap 5 (some .int) :: gl) ({ frames := 5, cells := 0, slots := 0, locals := 108 }) (g_Pc D y ad σ sz [.ref (ad 132), .int x1, .int x2]) (g_Qi D y ad q.2 sz q.1) 0 0 (g_A ad sz) := by
  have ho := h
  unfold X7_gap at ho
  refine g_start (by decide) (Nat.le_of_ble_eq_true rfl) (fun p e s m below meth c ls hC hr hlk hsz hW hl => ?_)
  have hx := hC.1
  have hcd := hC.2.1
  have hl : lv_has ls 5 [(0, .ref (ad 132)), (1, .int x1), (2, .int x2)] := hl
  refine lv_aload_n hx hcd dX7_gap_0 rfl (lv_at hl 0 rfl) ?_
  refine lv_aload_n hx hcd dX7_gap_1 rfl (lv_at hl 0 rfl) ?_
  refine lv_iload_n hx hcd dX7_gap_2 rfl (lv_at hl 1 rfl) ?_
  obtain ⟨r2, h1, ho⟩ := gb_some ho
  refine g_calli hW (g_runV (As := [.int x1]) (rest := [.ref (ad 132)]) (i := 132) hC hW (c_X7_isStand l D y ad x1 _ _ h1) ok_X7_73 ⟨rfl, rfl, Nat.le_of_ble_eq_true rfl, Nat.le_of_ble_eq_true rfl⟩ (by decide) rfl rfl rfl rfl hl.1 rfl (Nat.le_of_ble_eq_true rfl) dX7_gap_3 ⟨Nat.zero_le _, Nat.zero_le _⟩) (fun H locs hW => ?_)
  refine lv_if_ne (tgt := 13) hx hcd dX7_gap_6 (by decide) (fun c3 => ?_) (fun c3 => ?_)
  · have ho := gif_n ho c3
    refine lv_iload_n hx hcd dX7_gap_13 rfl (lv_at hl 2 rfl) ?_
    refine lv_iconst (v := 0) hx hcd dX7_gap_14 (by decide) ?_
    refine lv_sipush (v := 1440) hx hcd dX7_gap_15 (by decide) ?_
    obtain ⟨r5, h4, ho⟩ := gb_some ho
    refine g_calli hW (g_runS (As := [.int x2, .int 0, .int 1440]) (rest := [.ref (ad 132)]) hC hW (c_X7_in l D y ad x2 0 1440 _ _ h4) ok_X7_51 ⟨rfl, rfl, Nat.le_of_ble_eq_true rfl, Nat.le_of_ble_eq_true rfl⟩ rfl hl.1 rfl (Nat.le_of_ble_eq_true rfl) dX7_gap_18 ⟨Nat.zero_le _, Nat.zero_le _⟩) (fun H locs hW => ?_)
    refine lv_if_ne (tgt := 28) hx hcd dX7_gap_21 (by decide) (fun c6 => ?_) (fun c6 => ?_)
    · have ho := gif_n ho c6
      refine lv_iconst (v := 0) hx hcd dX7_gap_28 (by decide) ?_
      obtain ⟨σ7, eσ7, ho⟩ := lt_ex ho
      refine g_puti hC hW (C := RX7) (T := TX7) (N := 19) (ci := 9) (k := 8) (index := 48) (i := 132) inGX7 tyX7 tyX7_ok nmX7 rfl (by decide) fl_X7_48 rfl (by decide) rfl rfl rfl rfl dX7_gap_29 (fun H locs hW => ?_)
      rw [← eσ7] at hW
      refine lv_aload_n hx hcd dX7_gap_32 rfl (lv_at hl 0 rfl) ?_
      refine g_geti hC hW (C := RX7) (T := TX7) (N := 19) (ci := 9) (k := 8) (index := 48) (i := 132) inGX7 rfl (by decide) fl_X7_48 (by decide) rfl rfl dX7_gap_33 ?_
      refine lv_if_gt (tgt := 48) hx hcd dX7_gap_36 (by decide) (fun c8 => ?_) (fun c8 => ?_)
      · have ho := gif_p ho c8
        refine lv_iconst (v := 0) hx hcd dX7_gap_48 (by decide) ?_
        obtain rfl := Option.some.inj ho
        exact g_iret hC hr hlk hsz hW dX7_gap_49
      · have ho := gif_n ho c8
        refine lv_aload_n hx hcd dX7_gap_39 rfl (lv_at hl 0 rfl) ?_
        refine lv_iload_n hx hcd dX7_gap_40 rfl (lv_at hl 1 rfl) ?_
        refine lv_iload_n hx hcd dX7_gap_41 rfl (lv_at hl 2 rfl) ?_
        obtain ⟨r10, h9, ho⟩ := gb_some ho
        refine g_calli hW (g_runV (As := [.int x1, .int x2]) (rest := []) (i := 132) hC hW (c_X7_stayAt l D y ad x1 x2 _ _ h9) ok_X7_131 ⟨rfl, rfl, Nat.le_of_ble_eq_true rfl, Nat.le_of_ble_eq_true rfl⟩ (by decide) rfl rfl rfl rfl hl.1 rfl (Nat.le_of_ble_eq_true rfl) dX7_gap_42 ⟨Nat.zero_le _, Nat.zero_le _⟩) (fun H locs hW => ?_)
        refine lv_if_lt (tgt := 50) hx hcd dX7_gap_45 (by decide) (fun c11 => ?_) (fun c11 => ?_)
        · have ho := gif_p ho c11
          refine lv_sipush (v := 1440) hx hcd dX7_gap_50 (by decide) ?_
          refine lv_istore_n (lv' := [(3, .int 1440), (0, .ref (ad 132)), (1, .int x1), (2, .int x2)]) hx hcd dX7_gap_53 rfl hl (by decide) rfl (fun ls hl => ?_)
          refine lv_iconst (v := 0) hx hcd dX7_gap_54 (by decide) ?_
          refine lv_istore (lv' := [(4, .int 0), (3, .int 1440), (0, .ref (ad 132)), (1, .int x1), (2, .int x2)]) hx hcd dX7_gap_55 hl (by decide) rfl (fun ls hl => ?_)
          exact l_X7_gap l D y ad sz hC hr hlk hsz _ ho _ _ _ hW (lv_sub hl [2, 3, 4, 1, 0] rfl)
        · have ho := gif_n ho c11
          refine lv_iconst (v := 0) hx hcd dX7_gap_48 (by decide) ?_
          obtain rfl := Option.some.inj ho
          exact g_iret hC hr hlk hsz hW dX7_gap_49
    · have ho := gif_p ho c6
      refine lv_iconst (v := 2) hx hcd dX7_gap_24 (by decide) ?_
      refine lv_goto (tgt := 29) hx hcd dX7_gap_25 (by decide) ?_
      obtain ⟨σ12, eσ12, ho⟩ := lt_ex ho
      refine g_puti hC hW (C := RX7) (T := TX7) (N := 19) (ci := 9) (k := 8) (index := 48) (i := 132) inGX7 tyX7 tyX7_ok nmX7 rfl (by decide) fl_X7_48 rfl (by decide) rfl rfl rfl rfl dX7_gap_29 (fun H locs hW => ?_)
      rw [← eσ12] at hW
      refine lv_aload_n hx hcd dX7_gap_32 rfl (lv_at hl 0 rfl) ?_
      refine g_geti hC hW (C := RX7) (T := TX7) (N := 19) (ci := 9) (k := 8) (index := 48) (i := 132) inGX7 rfl (by decide) fl_X7_48 (by decide) rfl rfl dX7_gap_33 ?_
      refine lv_if_gt (tgt := 48) hx hcd dX7_gap_36 (by decide) (fun c13 => ?_) (fun c13 => ?_)
      · have ho := gif_p ho c13
        refine lv_iconst (v := 0) hx hcd dX7_gap_48 (by decide) ?_
        obtain rfl := Option.some.inj ho
        exact g_iret hC hr hlk hsz hW dX7_gap_49
      · have ho := gif_n ho c13
        refine lv_aload_n hx hcd dX7_gap_39 rfl (lv_at hl 0 rfl) ?_
        refine lv_iload_n hx hcd dX7_gap_40 rfl (lv_at hl 1 rfl) ?_
        refine lv_iload_n hx hcd dX7_gap_41 rfl (lv_at hl 2 rfl) ?_
        obtain ⟨r15, h14, ho⟩ := gb_some ho
        refine g_calli hW (g_runV (As := [.int x1, .int x2]) (rest := []) (i := 132) hC hW (c_X7_stayAt l D y ad x1 x2 _ _ h14) ok_X7_131 ⟨rfl, rfl, Nat.le_of_ble_eq_true rfl, Nat.le_of_ble_eq_true rfl⟩ (by decide) rfl rfl rfl rfl hl.1 rfl (Nat.le_of_ble_eq_true rfl) dX7_gap_42 ⟨Nat.zero_le _, Nat.zero_le _⟩) (fun H locs hW => ?_)
        refine lv_if_lt (tgt := 50) hx hcd dX7_gap_45 (by decide) (fun c16 => ?_) (fun c16 => ?_)
        · have ho := gif_p ho c16
          refine lv_sipush (v := 1440) hx hcd dX7_gap_50 (by decide) ?_
          refine lv_istore_n (lv' := [(3, .int 1440), (0, .ref (ad 132)), (1, .int x1), (2, .int x2)]) hx hcd dX7_gap_53 rfl hl (by decide) rfl (fun ls hl => ?_)
          refine lv_iconst (v := 0) hx hcd dX7_gap_54 (by decide) ?_
          refine lv_istore (lv' := [(4, .int 0), (3, .int 1440), (0, .ref (ad 132)), (1, .int x1), (2, .int x2)]) hx hcd dX7_gap_55 hl (by decide) rfl (fun ls hl => ?_)
          exact l_X7_gap l D y ad sz hC hr hlk hsz _ ho _ _ _ hW (lv_sub hl [2, 3, 4, 1, 0] rfl)
        · have ho := gif_n ho c16
          refine lv_iconst (v := 0) hx hcd dX7_gap_48 (by decide) ?_
          obtain rfl := Option.some.inj ho
          exact g_iret hC hr hlk hsz hW dX7_gap_49
  · have ho := gif_p ho c3
    refine lv_iconst (v := 1) hx hcd dX7_gap_9 (by decide) ?_
    refine lv_goto (tgt := 29) hx hcd dX7_gap_10 (by decide) ?_
    obtain ⟨σ17, eσ17, ho⟩ := lt_ex ho
    refine g_puti hC hW (C := RX7) (T := TX7) (N := 19) (ci := 9) (k := 8) (index := 48) (i := 132) inGX7 tyX7 tyX7_ok nmX7 rfl (by decide) fl_X7_48 rfl (by decide) rfl rfl rfl rfl dX7_gap_29 (fun H locs hW => ?_)
    rw [← eσ17] at hW
    refine lv_aload_n hx hcd dX7_gap_32 rfl (lv_at hl 0 rfl) ?_
    refine g_geti hC hW (C := RX7) (T := TX7) (N := 19) (ci := 9) (k := 8) (index := 48) (i := 132) inGX7 rfl (by decide) fl_X7_48 (by decide) rfl rfl dX7_gap_33 ?_
    refine lv_if_gt (tgt := 48) hx hcd dX7_gap_36 (by decide) (fun c18 => ?_) (fun c18 => ?_)
    · have ho := gif_p ho c18
      refine lv_iconst (v := 0) hx hcd dX7_gap_48 (by decide) ?_
      obtain rfl := Option.some.inj ho
      exact g_iret hC hr hlk hsz hW dX7_gap_49
    · have ho := gif_n ho c18
      refine lv_aload_n hx hcd dX7_gap_39 rfl (lv_at hl 0 rfl) ?_
      refine lv_iload_n hx hcd dX7_gap_40 rfl (lv_at hl 1 rfl) ?_
      refine lv_iload_n hx hcd dX7_gap_41 rfl (lv_at hl 2 rfl) ?_
      obtain ⟨r20, h19, ho⟩ := gb_some ho
      refine g_calli hW (g_runV (As := [.int x1, .int x2]) (rest := []) (i := 132) hC hW (c_X7_stayAt l D y ad x1 x2 _ _ h19) ok_X7_131 ⟨rfl, rfl, Nat.le_of_ble_eq_true rfl, Nat.le_of_ble_eq_true rfl⟩ (by decide) rfl rfl rfl rfl hl.1 rfl (Nat.le_of_ble_eq_true rfl) dX7_gap_42 ⟨Nat.zero_le _, Nat.zero_le _⟩) (fun H locs hW => ?_)
      refine lv_if_lt (tgt := 50) hx hcd dX7_gap_45 (by decide) (fun c21 => ?_) (fun c21 => ?_)
      · have ho := gif_p ho c21
        refine lv_sipush (v := 1440) hx hcd dX7_gap_50 (by decide) ?_
        refine lv_istore_n (lv' := [(3, .int 1440), (0, .ref (ad 132)), (1, .int x1), (2, .int x2)]) hx hcd dX7_gap_53 rfl hl (by decide) rfl (fun ls hl => ?_)
        refine lv_iconst (v := 0) hx hcd dX7_gap_54 (by decide) ?_
        refine lv_istore (lv' := [(4, .int 0), (3, .int 1440), (0, .ref (ad 132)), (1, .int x1), (2, .int x2)]) hx hcd dX7_gap_55 hl (by decide) rfl (fun ls hl => ?_)
        exact l_X7_gap l D y ad sz hC hr hlk hsz _ ho _ _ _ hW (lv_sub hl [2, 3, 4, 1, 0] rfl)
      · have ho := gif_n ho c21
        refine lv_iconst (v := 0) hx hcd dX7_gap_48 (by decide) ?_
        obtain rfl := Option.some.inj ho
        exact g_iret hC hr hlk hsz hW dX7_gap_49
noncomputable def X7_addTurn (σ : gS) (x1 : Int32) (x2 : Int32) (x3 : Int32) (x4 : Int32) : Option (Int32 × gS) :=
  (X7_in σ x1 0 3).bind fun r2 => if r2 = 0 then (lt_ (g_up σ 132 8 1) fun σ4 => if (σ4 132 8) ≤ 0 then ((X7_changes σ4).bind fun σ7 => (X7_at σ7 (σ7 133 (1 : Int32).toNatClampNeg)).bind fun r9 => gd (ib r9 162) <| lt_ (g_up σ7 133 r9.toNatClampNeg x1) fun σ11 => gd (ib (r9 + (1 : Int32)) 162) <| lt_ (g_up σ11 133 (r9 + (1 : Int32)).toNatClampNeg x2) fun σ13 => gd (ib (r9 + (2 : Int32)) 162) <| lt_ (g_up σ13 133 (r9 + (2 : Int32)).toNatClampNeg x3) fun σ15 => gd (ib (r9 + (3 : Int32)) 162) <| lt_ (g_up σ15 133 (r9 + (3 : Int32)).toNatClampNeg x4) fun σ17 => gd (ib (r9 + (4 : Int32)) 162) <| lt_ (g_up σ17 133 (r9 + (4 : Int32)).toNatClampNeg (-1)) fun σ19 => gd (ib (r9 + (5 : Int32)) 162) <| lt_ (g_up σ19 133 (r9 + (5 : Int32)).toNatClampNeg (-1)) fun σ21 => gd (ib (r9 + (6 : Int32)) 162) <| lt_ (g_up σ21 133 (r9 + (6 : Int32)).toNatClampNeg (-1)) fun σ23 => lt_ (g_up σ23 133 (1 : Int32).toNatClampNeg ((σ23 133 (1 : Int32).toNatClampNeg) + (1 : Int32))) fun σ24 => some (((σ24 133 (1 : Int32).toNatClampNeg) - (1 : Int32)), σ24)) else (some (0, σ4))) else ((X7_in σ x2 0 1440).bind fun r26 => if r26 = 0 then (lt_ (g_up σ 132 8 1) fun σ28 => if (σ28 132 8) ≤ 0 then ((X7_changes σ28).bind fun σ31 => (X7_at σ31 (σ31 133 (1 : Int32).toNatClampNeg)).bind fun r33 => gd (ib r33 162) <| lt_ (g_up σ31 133 r33.toNatClampNeg x1) fun σ35 => gd (ib (r33 + (1 : Int32)) 162) <| lt_ (g_up σ35 133 (r33 + (1 : Int32)).toNatClampNeg x2) fun σ37 => gd (ib (r33 + (2 : Int32)) 162) <| lt_ (g_up σ37 133 (r33 + (2 : Int32)).toNatClampNeg x3) fun σ39 => gd (ib (r33 + (3 : Int32)) 162) <| lt_ (g_up σ39 133 (r33 + (3 : Int32)).toNatClampNeg x4) fun σ41 => gd (ib (r33 + (4 : Int32)) 162) <| lt_ (g_up σ41 133 (r33 + (4 : Int32)).toNatClampNeg (-1)) fun σ43 => gd (ib (r33 + (5 : Int32)) 162) <| lt_ (g_up σ43 133 (r33 + (5 : Int32)).toNatClampNeg (-1)) fun σ45 => gd (ib (r33 + (6 : Int32)) 162) <| lt_ (g_up σ45 133 (r33 + (6 : Int32)).toNatClampNeg (-1)) fun σ47 => lt_ (g_up σ47 133 (1 : Int32).toNatClampNeg ((σ47 133 (1 : Int32).toNatClampNeg) + (1 : Int32))) fun σ48 => some (((σ48 133 (1 : Int32).toNatClampNeg) - (1 : Int32)), σ48)) else (some (0, σ28))) else ((X7_in σ x3 0 1440).bind fun r50 => if r50 = 0 then (lt_ (g_up σ 132 8 1) fun σ52 => if (σ52 132 8) ≤ 0 then ((X7_changes σ52).bind fun σ55 => (X7_at σ55 (σ55 133 (1 : Int32).toNatClampNeg)).bind fun r57 => gd (ib r57 162) <| lt_ (g_up σ55 133 r57.toNatClampNeg x1) fun σ59 => gd (ib (r57 + (1 : Int32)) 162) <| lt_ (g_up σ59 133 (r57 + (1 : Int32)).toNatClampNeg x2) fun σ61 => gd (ib (r57 + (2 : Int32)) 162) <| lt_ (g_up σ61 133 (r57 + (2 : Int32)).toNatClampNeg x3) fun σ63 => gd (ib (r57 + (3 : Int32)) 162) <| lt_ (g_up σ63 133 (r57 + (3 : Int32)).toNatClampNeg x4) fun σ65 => gd (ib (r57 + (4 : Int32)) 162) <| lt_ (g_up σ65 133 (r57 + (4 : Int32)).toNatClampNeg (-1)) fun σ67 => gd (ib (r57 + (5 : Int32)) 162) <| lt_ (g_up σ67 133 (r57 + (5 : Int32)).toNatClampNeg (-1)) fun σ69 => gd (ib (r57 + (6 : Int32)) 162) <| lt_ (g_up σ69 133 (r57 + (6 : Int32)).toNatClampNeg (-1)) fun σ71 => lt_ (g_up σ71 133 (1 : Int32).toNatClampNeg ((σ71 133 (1 : Int32).toNatClampNeg) + (1 : Int32))) fun σ72 => some (((σ72 133 (1 : Int32).toNatClampNeg) - (1 : Int32)), σ72)) else (some (0, σ52))) else ((X7_in σ x4 1 9).bind fun r74 => if r74 = 0 then (lt_ (g_up σ 132 8 1) fun σ76 => if (σ76 132 8) ≤ 0 then ((X7_changes σ76).bind fun σ79 => (X7_at σ79 (σ79 133 (1 : Int32).toNatClampNeg)).bind fun r81 => gd (ib r81 162) <| lt_ (g_up σ79 133 r81.toNatClampNeg x1) fun σ83 => gd (ib (r81 + (1 : Int32)) 162) <| lt_ (g_up σ83 133 (r81 + (1 : Int32)).toNatClampNeg x2) fun σ85 => gd (ib (r81 + (2 : Int32)) 162) <| lt_ (g_up σ85 133 (r81 + (2 : Int32)).toNatClampNeg x3) fun σ87 => gd (ib (r81 + (3 : Int32)) 162) <| lt_ (g_up σ87 133 (r81 + (3 : Int32)).toNatClampNeg x4) fun σ89 => gd (ib (r81 + (4 : Int32)) 162) <| lt_ (g_up σ89 133 (r81 + (4 : Int32)).toNatClampNeg (-1)) fun σ91 => gd (ib (r81 + (5 : Int32)) 162) <| lt_ (g_up σ91 133 (r81 + (5 : Int32)).toNatClampNeg (-1)) fun σ93 => gd (ib (r81 + (6 : Int32)) 162) <| lt_ (g_up σ93 133 (r81 + (6 : Int32)).toNatClampNeg (-1)) fun σ95 => lt_ (g_up σ95 133 (1 : Int32).toNatClampNeg ((σ95 133 (1 : Int32).toNatClampNeg) + (1 : Int32))) fun σ96 => some (((σ96 133 (1 : Int32).toNatClampNeg) - (1 : Int32)), σ96)) else (some (0, σ76))) else (if (x2 + (30 : Int32)) ≤ x3 then (if (σ 133 (1 : Int32).toNatClampNeg) = 10 then (lt_ (g_up σ 132 8 2) fun σ120 => if (σ120 132 8) ≤ 0 then ((X7_changes σ120).bind fun σ123 => (X7_at σ123 (σ123 133 (1 : Int32).toNatClampNeg)).bind fun r125 => gd (ib r125 162) <| lt_ (g_up σ123 133 r125.toNatClampNeg x1) fun σ127 => gd (ib (r125 + (1 : Int32)) 162) <| lt_ (g_up σ127 133 (r125 + (1 : Int32)).toNatClampNeg x2) fun σ129 => gd (ib (r125 + (2 : Int32)) 162) <| lt_ (g_up σ129 133 (r125 + (2 : Int32)).toNatClampNeg x3) fun σ131 => gd (ib (r125 + (3 : Int32)) 162) <| lt_ (g_up σ131 133 (r125 + (3 : Int32)).toNatClampNeg x4) fun σ133 => gd (ib (r125 + (4 : Int32)) 162) <| lt_ (g_up σ133 133 (r125 + (4 : Int32)).toNatClampNeg (-1)) fun σ135 => gd (ib (r125 + (5 : Int32)) 162) <| lt_ (g_up σ135 133 (r125 + (5 : Int32)).toNatClampNeg (-1)) fun σ137 => gd (ib (r125 + (6 : Int32)) 162) <| lt_ (g_up σ137 133 (r125 + (6 : Int32)).toNatClampNeg (-1)) fun σ139 => lt_ (g_up σ139 133 (1 : Int32).toNatClampNeg ((σ139 133 (1 : Int32).toNatClampNeg) + (1 : Int32))) fun σ140 => some (((σ140 133 (1 : Int32).toNatClampNeg) - (1 : Int32)), σ140)) else (some (0, σ120))) else (lt_ (g_up σ 132 8 0) fun σ99 => if (σ99 132 8) ≤ 0 then ((X7_changes σ99).bind fun σ102 => (X7_at σ102 (σ102 133 (1 : Int32).toNatClampNeg)).bind fun r104 => gd (ib r104 162) <| lt_ (g_up σ102 133 r104.toNatClampNeg x1) fun σ106 => gd (ib (r104 + (1 : Int32)) 162) <| lt_ (g_up σ106 133 (r104 + (1 : Int32)).toNatClampNeg x2) fun σ108 => gd (ib (r104 + (2 : Int32)) 162) <| lt_ (g_up σ108 133 (r104 + (2 : Int32)).toNatClampNeg x3) fun σ110 => gd (ib (r104 + (3 : Int32)) 162) <| lt_ (g_up σ110 133 (r104 + (3 : Int32)).toNatClampNeg x4) fun σ112 => gd (ib (r104 + (4 : Int32)) 162) <| lt_ (g_up σ112 133 (r104 + (4 : Int32)).toNatClampNeg (-1)) fun σ114 => gd (ib (r104 + (5 : Int32)) 162) <| lt_ (g_up σ114 133 (r104 + (5 : Int32)).toNatClampNeg (-1)) fun σ116 => gd (ib (r104 + (6 : Int32)) 162) <| lt_ (g_up σ116 133 (r104 + (6 : Int32)).toNatClampNeg (-1)) fun σ118 => lt_ (g_up σ118 133 (1 : Int32).toNatClampNeg ((σ118 133 (1 : Int32).toNatClampNeg) + (1 : Int32))) fun σ119 => some (((σ119 133 (1 : Int32).toNatClampNeg) - (1 : Int32)), σ119)) else (some (0, σ99)))) else (lt_ (g_up σ 132 8 1) fun σ141 => if (σ141 132 8) ≤ 0 then ((X7_changes σ141).bind fun σ144 => (X7_at σ144 (σ144 133 (1 : Int32).toNatClampNeg)).bind fun r146 => gd (ib r146 162) <| lt_ (g_up σ144 133 r146.toNatClampNeg x1) fun σ148 => gd (ib (r146 + (1 : Int32)) 162) <| lt_ (g_up σ148 133 (r146 + (1 : Int32)).toNatClampNeg x2) fun σ150 => gd (ib (r146 + (2 : Int32)) 162) <| lt_ (g_up σ150 133 (r146 + (2 : Int32)).toNatClampNeg x3) fun σ152 => gd (ib (r146 + (3 : Int32)) 162) <| lt_ (g_up σ152 133 (r146 + (3 : Int32)).toNatClampNeg x4) fun σ154 => gd (ib (r146 + (4 : Int32)) 162) <| lt_ (g_up σ154 133 (r146 + (4 : Int32)).toNatClampNeg (-1)) fun σ156 => gd (ib (r146 + (5 : Int32)) 162) <| lt_ (g_up σ156 133 (r146 + (5 : Int32)).toNatClampNeg (-1)) fun σ158 => gd (ib (r146 + (6 : Int32)) 162) <| lt_ (g_up σ158 133 (r146 + (6 : Int32)).toNatClampNeg (-1)) fun σ160 => lt_ (g_up σ160 133 (1 : Int32).toNatClampNeg ((σ160 133 (1 : Int32).toNatClampNeg) + (1 : Int32))) fun σ161 => some (((σ161 133 (1 : Int32).toNatClampNeg) - (1 : Int32)), σ161)) else (some (0, σ141)))))))
set_option maxHeartbeats 4000000 in
set_option maxRecDepth 100000 in
theorem c_X7_addTurn (l : Launch) (D : va_G) (y : ClassId × ClassId × ClassId) (ad : Nat → Nat) (x1 : Int32) (x2 : Int32) (x3 : Int32) (x4 : Int32) (σ : gS) (sz : Nat) {q : Int32 × gS} (h : X7_addTurn σ x1 x2 x3 x4 = some q) : Met l yX7_addTurn (Cond.code yX7_addTurn cX7_addTurn 7 (some .int) :: gl) ({ frames := 3, cells := 0, slots := 0, locals := 80 }) (g_Pc D y ad σ sz [.ref (ad 132), .int x1, .int x2, .int x3, .int x4]) (g_Qi D y ad q.2 sz q.1) 0 0 (g_A ad sz) := by
  have ho := h
  unfold X7_addTurn at ho
  refine g_start (by decide) (Nat.le_of_ble_eq_true rfl) (fun p e s m below meth c ls hC hr hlk hsz hW hl => ?_)
  have hx := hC.1
  have hcd := hC.2.1
  have hl : lv_has ls 7 [(0, .ref (ad 132)), (1, .int x1), (2, .int x2), (3, .int x3), (4, .int x4)] := hl
  refine lv_iload_n hx hcd dX7_addTurn_0 rfl (lv_at hl 1 rfl) ?_
  refine lv_iconst (v := 0) hx hcd dX7_addTurn_1 (by decide) ?_
  refine lv_iconst (v := 3) hx hcd dX7_addTurn_2 (by decide) ?_
  obtain ⟨r2, h1, ho⟩ := gb_some ho
  refine g_calli hW (g_runS (As := [.int x1, .int 0, .int 3]) (rest := []) hC hW (c_X7_in l D y ad x1 0 3 _ _ h1) ok_X7_51 ⟨rfl, rfl, Nat.le_of_ble_eq_true rfl, Nat.le_of_ble_eq_true rfl⟩ rfl hl.1 rfl (Nat.le_of_ble_eq_true rfl) dX7_addTurn_3 ⟨Nat.zero_le _, Nat.zero_le _⟩) (fun H locs hW => ?_)
  refine lv_if_eq (tgt := 46) hx hcd dX7_addTurn_6 (by decide) (fun c3 => ?_) (fun c3 => ?_)
  · have ho := gif_p ho c3
    refine lv_iconst (v := 0) hx hcd dX7_addTurn_46 (by decide) ?_
    refine lv_istore (lv' := [(5, .int 0), (0, .ref (ad 132)), (1, .int x1), (2, .int x2), (3, .int x3), (4, .int x4)]) hx hcd dX7_addTurn_47 hl (by decide) rfl (fun ls hl => ?_)
    refine lv_aload_n hx hcd dX7_addTurn_49 rfl (lv_at hl 1 rfl) ?_
    refine lv_iload hx hcd dX7_addTurn_50 (lv_at hl 0 rfl) ?_
    refine lv_if_eq (tgt := 63) hx hcd dX7_addTurn_52 (by decide) (fun _ => ?_) (fun hq => absurd hq (by decide))
    refine lv_iconst (v := 1) hx hcd dX7_addTurn_63 (by decide) ?_
    refine lv_goto (tgt := 83) hx hcd dX7_addTurn_64 (by decide) ?_
    obtain ⟨σ4, eσ4, ho⟩ := lt_ex ho
    refine g_puti hC hW (C := RX7) (T := TX7) (N := 19) (ci := 9) (k := 8) (index := 48) (i := 132) inGX7 tyX7 tyX7_ok nmX7 rfl (by decide) fl_X7_48 rfl (by decide) rfl rfl rfl rfl dX7_addTurn_83 (fun H locs hW => ?_)
    rw [← eσ4] at hW
    refine lv_aload_n hx hcd dX7_addTurn_86 rfl (lv_at hl 1 rfl) ?_
    refine g_geti hC hW (C := RX7) (T := TX7) (N := 19) (ci := 9) (k := 8) (index := 48) (i := 132) inGX7 rfl (by decide) fl_X7_48 (by decide) rfl rfl dX7_addTurn_87 ?_
    refine lv_if_le (tgt := 95) hx hcd dX7_addTurn_90 (by decide) (fun c5 => ?_) (fun c5 => ?_)
    · have ho := gif_p ho c5
      refine lv_aload_n hx hcd dX7_addTurn_95 rfl (lv_at hl 1 rfl) ?_
      obtain ⟨σ7, h6, ho⟩ := gb_some ho
      refine g_callv hW (g_runV (As := []) (rest := []) (i := 132) hC hW (c_X7_changes l D y ad _ _ h6) ok_X7_70 ⟨rfl, rfl, Nat.le_of_ble_eq_true rfl, Nat.le_of_ble_eq_true rfl⟩ (by decide) rfl rfl rfl rfl hl.1 rfl (Nat.le_of_ble_eq_true rfl) dX7_addTurn_96 ⟨Nat.zero_le _, Nat.zero_le _⟩) (fun H locs hW => ?_)
      refine lv_aload_n hx hcd dX7_addTurn_99 rfl (lv_at hl 1 rfl) ?_
      refine g_getr hC hW (C := RX7) (T := TX7) (N := 19) (ci := 9) (k := 0) (index := 9) (i := 132) (r := 133) inGX7 rfl (by decide) fl_X7_9 (by decide) rfl rfl dX7_addTurn_100 ?_
      refine lv_iconst (v := 1) hx hcd dX7_addTurn_103 (by decide) ?_
      refine g_iald hC hW (i := 133) (by decide) rfl (by decide) dX7_addTurn_104 ?_
      obtain ⟨r9, h8, ho⟩ := gb_some ho
      refine g_calli hW (g_runS (As := [.int (σ7 133 (1 : Int32).toNatClampNeg)]) (rest := []) hC hW (c_X7_at l D y ad (σ7 133 (1 : Int32).toNatClampNeg) _ _ h8) ok_X7_81 ⟨rfl, rfl, Nat.le_of_ble_eq_true rfl, Nat.le_of_ble_eq_true rfl⟩ rfl hl.1 rfl (Nat.le_of_ble_eq_true rfl) dX7_addTurn_105 ⟨Nat.zero_le _, Nat.zero_le _⟩) (fun H locs hW => ?_)
      refine lv_istore (lv' := [(6, .int r9), (5, .int 0), (0, .ref (ad 132)), (1, .int x1), (2, .int x2), (3, .int x3), (4, .int x4)]) hx hcd dX7_addTurn_108 hl (by decide) rfl (fun ls hl => ?_)
      refine lv_aload_n hx hcd dX7_addTurn_110 rfl (lv_at hl 2 rfl) ?_
      refine g_getr hC hW (C := RX7) (T := TX7) (N := 19) (ci := 9) (k := 0) (index := 9) (i := 132) (r := 133) inGX7 rfl (by decide) fl_X7_9 (by decide) rfl rfl dX7_addTurn_111 ?_
      refine lv_iload hx hcd dX7_addTurn_114 (lv_at hl 0 rfl) ?_
      refine lv_iload_n hx hcd dX7_addTurn_116 rfl (lv_at hl 3 rfl) ?_
      obtain ⟨i10, ho⟩ := gd_some ho
      obtain ⟨σ11, eσ11, ho⟩ := lt_ex ho
      refine g_iast hC hW (i := 133) (by decide) rfl i10 dX7_addTurn_117 (fun H locs hW => ?_)
      rw [← eσ11] at hW
      refine lv_aload_n hx hcd dX7_addTurn_118 rfl (lv_at hl 2 rfl) ?_
      refine g_getr hC hW (C := RX7) (T := TX7) (N := 19) (ci := 9) (k := 0) (index := 9) (i := 132) (r := 133) inGX7 rfl (by decide) fl_X7_9 (by decide) rfl rfl dX7_addTurn_119 ?_
      refine lv_iload hx hcd dX7_addTurn_122 (lv_at hl 0 rfl) ?_
      refine lv_iconst (v := 1) hx hcd dX7_addTurn_124 (by decide) ?_
      refine lv_iadd hx hcd dX7_addTurn_125 ?_
      refine lv_iload_n hx hcd dX7_addTurn_126 rfl (lv_at hl 4 rfl) ?_
      obtain ⟨i12, ho⟩ := gd_some ho
      obtain ⟨σ13, eσ13, ho⟩ := lt_ex ho
      refine g_iast hC hW (i := 133) (by decide) rfl i12 dX7_addTurn_127 (fun H locs hW => ?_)
      rw [← eσ13] at hW
      refine lv_aload_n hx hcd dX7_addTurn_128 rfl (lv_at hl 2 rfl) ?_
      refine g_getr hC hW (C := RX7) (T := TX7) (N := 19) (ci := 9) (k := 0) (index := 9) (i := 132) (r := 133) inGX7 rfl (by decide) fl_X7_9 (by decide) rfl rfl dX7_addTurn_129 ?_
      refine lv_iload hx hcd dX7_addTurn_132 (lv_at hl 0 rfl) ?_
      refine lv_iconst (v := 2) hx hcd dX7_addTurn_134 (by decide) ?_
      refine lv_iadd hx hcd dX7_addTurn_135 ?_
      refine lv_iload_n hx hcd dX7_addTurn_136 rfl (lv_at hl 5 rfl) ?_
      obtain ⟨i14, ho⟩ := gd_some ho
      obtain ⟨σ15, eσ15, ho⟩ := lt_ex ho
      refine g_iast hC hW (i := 133) (by decide) rfl i14 dX7_addTurn_137 (fun H locs hW => ?_)
      rw [← eσ15] at hW
      refine lv_aload_n hx hcd dX7_addTurn_138 rfl (lv_at hl 2 rfl) ?_
      refine g_getr hC hW (C := RX7) (T := TX7) (N := 19) (ci := 9) (k := 0) (index := 9) (i := 132) (r := 133) inGX7 rfl (by decide) fl_X7_9 (by decide) rfl rfl dX7_addTurn_139 ?_
      refine lv_iload hx hcd dX7_addTurn_142 (lv_at hl 0 rfl) ?_
      refine lv_iconst (v := 3) hx hcd dX7_addTurn_144 (by decide) ?_
      refine lv_iadd hx hcd dX7_addTurn_145 ?_
      refine lv_iload hx hcd dX7_addTurn_146 (lv_at hl 6 rfl) ?_
      obtain ⟨i16, ho⟩ := gd_some ho
      obtain ⟨σ17, eσ17, ho⟩ := lt_ex ho
      refine g_iast hC hW (i := 133) (by decide) rfl i16 dX7_addTurn_148 (fun H locs hW => ?_)
      rw [← eσ17] at hW
      refine lv_aload_n hx hcd dX7_addTurn_149 rfl (lv_at hl 2 rfl) ?_
      refine g_getr hC hW (C := RX7) (T := TX7) (N := 19) (ci := 9) (k := 0) (index := 9) (i := 132) (r := 133) inGX7 rfl (by decide) fl_X7_9 (by decide) rfl rfl dX7_addTurn_150 ?_
      refine lv_iload hx hcd dX7_addTurn_153 (lv_at hl 0 rfl) ?_
      refine lv_iconst (v := 4) hx hcd dX7_addTurn_155 (by decide) ?_
      refine lv_iadd hx hcd dX7_addTurn_156 ?_
      refine lv_iconst (v := (-1)) hx hcd dX7_addTurn_157 (by decide) ?_
      obtain ⟨i18, ho⟩ := gd_some ho
      obtain ⟨σ19, eσ19, ho⟩ := lt_ex ho
      refine g_iast hC hW (i := 133) (by decide) rfl i18 dX7_addTurn_158 (fun H locs hW => ?_)
      rw [← eσ19] at hW
      refine lv_aload_n hx hcd dX7_addTurn_159 rfl (lv_at hl 2 rfl) ?_
      refine g_getr hC hW (C := RX7) (T := TX7) (N := 19) (ci := 9) (k := 0) (index := 9) (i := 132) (r := 133) inGX7 rfl (by decide) fl_X7_9 (by decide) rfl rfl dX7_addTurn_160 ?_
      refine lv_iload hx hcd dX7_addTurn_163 (lv_at hl 0 rfl) ?_
      refine lv_iconst (v := 5) hx hcd dX7_addTurn_165 (by decide) ?_
      refine lv_iadd hx hcd dX7_addTurn_166 ?_
      refine lv_iconst (v := (-1)) hx hcd dX7_addTurn_167 (by decide) ?_
      obtain ⟨i20, ho⟩ := gd_some ho
      obtain ⟨σ21, eσ21, ho⟩ := lt_ex ho
      refine g_iast hC hW (i := 133) (by decide) rfl i20 dX7_addTurn_168 (fun H locs hW => ?_)
      rw [← eσ21] at hW
      refine lv_aload_n hx hcd dX7_addTurn_169 rfl (lv_at hl 2 rfl) ?_
      refine g_getr hC hW (C := RX7) (T := TX7) (N := 19) (ci := 9) (k := 0) (index := 9) (i := 132) (r := 133) inGX7 rfl (by decide) fl_X7_9 (by decide) rfl rfl dX7_addTurn_170 ?_
      refine lv_iload hx hcd dX7_addTurn_173 (lv_at hl 0 rfl) ?_
      refine lv_bipush (v := 6) hx hcd dX7_addTurn_175 (by decide) ?_
      refine lv_iadd hx hcd dX7_addTurn_177 ?_
      refine lv_iconst (v := (-1)) hx hcd dX7_addTurn_178 (by decide) ?_
      obtain ⟨i22, ho⟩ := gd_some ho
      obtain ⟨σ23, eσ23, ho⟩ := lt_ex ho
      refine g_iast hC hW (i := 133) (by decide) rfl i22 dX7_addTurn_179 (fun H locs hW => ?_)
      rw [← eσ23] at hW
      refine lv_aload_n hx hcd dX7_addTurn_180 rfl (lv_at hl 2 rfl) ?_
      refine g_getr hC hW (C := RX7) (T := TX7) (N := 19) (ci := 9) (k := 0) (index := 9) (i := 132) (r := 133) inGX7 rfl (by decide) fl_X7_9 (by decide) rfl rfl dX7_addTurn_181 ?_
      refine lv_iconst (v := 1) hx hcd dX7_addTurn_184 (by decide) ?_
      refine lv_dup2_11 hx hcd dX7_addTurn_185 rfl rfl ?_
      refine g_iald hC hW (i := 133) (by decide) rfl (by decide) dX7_addTurn_186 ?_
      refine lv_iconst (v := 1) hx hcd dX7_addTurn_187 (by decide) ?_
      refine lv_iadd hx hcd dX7_addTurn_188 ?_
      obtain ⟨σ24, eσ24, ho⟩ := lt_ex ho
      refine g_iast hC hW (i := 133) (by decide) rfl (by decide) dX7_addTurn_189 (fun H locs hW => ?_)
      rw [← eσ24] at hW
      refine lv_aload_n hx hcd dX7_addTurn_190 rfl (lv_at hl 2 rfl) ?_
      refine g_getr hC hW (C := RX7) (T := TX7) (N := 19) (ci := 9) (k := 0) (index := 9) (i := 132) (r := 133) inGX7 rfl (by decide) fl_X7_9 (by decide) rfl rfl dX7_addTurn_191 ?_
      refine lv_iconst (v := 1) hx hcd dX7_addTurn_194 (by decide) ?_
      refine g_iald hC hW (i := 133) (by decide) rfl (by decide) dX7_addTurn_195 ?_
      refine lv_iconst (v := 1) hx hcd dX7_addTurn_196 (by decide) ?_
      refine lv_isub hx hcd dX7_addTurn_197 ?_
      obtain rfl := Option.some.inj ho
      exact g_iret hC hr hlk hsz hW dX7_addTurn_198
    · have ho := gif_n ho c5
      refine lv_iconst (v := 0) hx hcd dX7_addTurn_93 (by decide) ?_
      obtain rfl := Option.some.inj ho
      exact g_iret hC hr hlk hsz hW dX7_addTurn_94
  · have ho := gif_n ho c3
    refine lv_iload_n hx hcd dX7_addTurn_9 rfl (lv_at hl 2 rfl) ?_
    refine lv_iconst (v := 0) hx hcd dX7_addTurn_10 (by decide) ?_
    refine lv_sipush (v := 1440) hx hcd dX7_addTurn_11 (by decide) ?_
    obtain ⟨r26, h25, ho⟩ := gb_some ho
    refine g_calli hW (g_runS (As := [.int x2, .int 0, .int 1440]) (rest := []) hC hW (c_X7_in l D y ad x2 0 1440 _ _ h25) ok_X7_51 ⟨rfl, rfl, Nat.le_of_ble_eq_true rfl, Nat.le_of_ble_eq_true rfl⟩ rfl hl.1 rfl (Nat.le_of_ble_eq_true rfl) dX7_addTurn_14 ⟨Nat.zero_le _, Nat.zero_le _⟩) (fun H locs hW => ?_)
    refine lv_if_eq (tgt := 46) hx hcd dX7_addTurn_17 (by decide) (fun c27 => ?_) (fun c27 => ?_)
    · have ho := gif_p ho c27
      refine lv_iconst (v := 0) hx hcd dX7_addTurn_46 (by decide) ?_
      refine lv_istore (lv' := [(5, .int 0), (0, .ref (ad 132)), (1, .int x1), (2, .int x2), (3, .int x3), (4, .int x4)]) hx hcd dX7_addTurn_47 hl (by decide) rfl (fun ls hl => ?_)
      refine lv_aload_n hx hcd dX7_addTurn_49 rfl (lv_at hl 1 rfl) ?_
      refine lv_iload hx hcd dX7_addTurn_50 (lv_at hl 0 rfl) ?_
      refine lv_if_eq (tgt := 63) hx hcd dX7_addTurn_52 (by decide) (fun _ => ?_) (fun hq => absurd hq (by decide))
      refine lv_iconst (v := 1) hx hcd dX7_addTurn_63 (by decide) ?_
      refine lv_goto (tgt := 83) hx hcd dX7_addTurn_64 (by decide) ?_
      obtain ⟨σ28, eσ28, ho⟩ := lt_ex ho
      refine g_puti hC hW (C := RX7) (T := TX7) (N := 19) (ci := 9) (k := 8) (index := 48) (i := 132) inGX7 tyX7 tyX7_ok nmX7 rfl (by decide) fl_X7_48 rfl (by decide) rfl rfl rfl rfl dX7_addTurn_83 (fun H locs hW => ?_)
      rw [← eσ28] at hW
      refine lv_aload_n hx hcd dX7_addTurn_86 rfl (lv_at hl 1 rfl) ?_
      refine g_geti hC hW (C := RX7) (T := TX7) (N := 19) (ci := 9) (k := 8) (index := 48) (i := 132) inGX7 rfl (by decide) fl_X7_48 (by decide) rfl rfl dX7_addTurn_87 ?_
      refine lv_if_le (tgt := 95) hx hcd dX7_addTurn_90 (by decide) (fun c29 => ?_) (fun c29 => ?_)
      · have ho := gif_p ho c29
        refine lv_aload_n hx hcd dX7_addTurn_95 rfl (lv_at hl 1 rfl) ?_
        obtain ⟨σ31, h30, ho⟩ := gb_some ho
        refine g_callv hW (g_runV (As := []) (rest := []) (i := 132) hC hW (c_X7_changes l D y ad _ _ h30) ok_X7_70 ⟨rfl, rfl, Nat.le_of_ble_eq_true rfl, Nat.le_of_ble_eq_true rfl⟩ (by decide) rfl rfl rfl rfl hl.1 rfl (Nat.le_of_ble_eq_true rfl) dX7_addTurn_96 ⟨Nat.zero_le _, Nat.zero_le _⟩) (fun H locs hW => ?_)
        refine lv_aload_n hx hcd dX7_addTurn_99 rfl (lv_at hl 1 rfl) ?_
        refine g_getr hC hW (C := RX7) (T := TX7) (N := 19) (ci := 9) (k := 0) (index := 9) (i := 132) (r := 133) inGX7 rfl (by decide) fl_X7_9 (by decide) rfl rfl dX7_addTurn_100 ?_
        refine lv_iconst (v := 1) hx hcd dX7_addTurn_103 (by decide) ?_
        refine g_iald hC hW (i := 133) (by decide) rfl (by decide) dX7_addTurn_104 ?_
        obtain ⟨r33, h32, ho⟩ := gb_some ho
        refine g_calli hW (g_runS (As := [.int (σ31 133 (1 : Int32).toNatClampNeg)]) (rest := []) hC hW (c_X7_at l D y ad (σ31 133 (1 : Int32).toNatClampNeg) _ _ h32) ok_X7_81 ⟨rfl, rfl, Nat.le_of_ble_eq_true rfl, Nat.le_of_ble_eq_true rfl⟩ rfl hl.1 rfl (Nat.le_of_ble_eq_true rfl) dX7_addTurn_105 ⟨Nat.zero_le _, Nat.zero_le _⟩) (fun H locs hW => ?_)
        refine lv_istore (lv' := [(6, .int r33), (5, .int 0), (0, .ref (ad 132)), (1, .int x1), (2, .int x2), (3, .int x3), (4, .int x4)]) hx hcd dX7_addTurn_108 hl (by decide) rfl (fun ls hl => ?_)
        refine lv_aload_n hx hcd dX7_addTurn_110 rfl (lv_at hl 2 rfl) ?_
        refine g_getr hC hW (C := RX7) (T := TX7) (N := 19) (ci := 9) (k := 0) (index := 9) (i := 132) (r := 133) inGX7 rfl (by decide) fl_X7_9 (by decide) rfl rfl dX7_addTurn_111 ?_
        refine lv_iload hx hcd dX7_addTurn_114 (lv_at hl 0 rfl) ?_
        refine lv_iload_n hx hcd dX7_addTurn_116 rfl (lv_at hl 3 rfl) ?_
        obtain ⟨i34, ho⟩ := gd_some ho
        obtain ⟨σ35, eσ35, ho⟩ := lt_ex ho
        refine g_iast hC hW (i := 133) (by decide) rfl i34 dX7_addTurn_117 (fun H locs hW => ?_)
        rw [← eσ35] at hW
        refine lv_aload_n hx hcd dX7_addTurn_118 rfl (lv_at hl 2 rfl) ?_
        refine g_getr hC hW (C := RX7) (T := TX7) (N := 19) (ci := 9) (k := 0) (index := 9) (i := 132) (r := 133) inGX7 rfl (by decide) fl_X7_9 (by decide) rfl rfl dX7_addTurn_119 ?_
        refine lv_iload hx hcd dX7_addTurn_122 (lv_at hl 0 rfl) ?_
        refine lv_iconst (v := 1) hx hcd dX7_addTurn_124 (by decide) ?_
        refine lv_iadd hx hcd dX7_addTurn_125 ?_
        refine lv_iload_n hx hcd dX7_addTurn_126 rfl (lv_at hl 4 rfl) ?_
        obtain ⟨i36, ho⟩ := gd_some ho
        obtain ⟨σ37, eσ37, ho⟩ := lt_ex ho
        refine g_iast hC hW (i := 133) (by decide) rfl i36 dX7_addTurn_127 (fun H locs hW => ?_)
        rw [← eσ37] at hW
        refine lv_aload_n hx hcd dX7_addTurn_128 rfl (lv_at hl 2 rfl) ?_
        refine g_getr hC hW (C := RX7) (T := TX7) (N := 19) (ci := 9) (k := 0) (index := 9) (i := 132) (r := 133) inGX7 rfl (by decide) fl_X7_9 (by decide) rfl rfl dX7_addTurn_129 ?_
        refine lv_iload hx hcd dX7_addTurn_132 (lv_at hl 0 rfl) ?_
        refine lv_iconst (v := 2) hx hcd dX7_addTurn_134 (by decide) ?_
        refine lv_iadd hx hcd dX7_addTurn_135 ?_
        refine lv_iload_n hx hcd dX7_addTurn_136 rfl (lv_at hl 5 rfl) ?_
        obtain ⟨i38, ho⟩ := gd_some ho
        obtain ⟨σ39, eσ39, ho⟩ := lt_ex ho
        refine g_iast hC hW (i := 133) (by decide) rfl i38 dX7_addTurn_137 (fun H locs hW => ?_)
        rw [← eσ39] at hW
        refine lv_aload_n hx hcd dX7_addTurn_138 rfl (lv_at hl 2 rfl) ?_
        refine g_getr hC hW (C := RX7) (T := TX7) (N := 19) (ci := 9) (k := 0) (index := 9) (i := 132) (r := 133) inGX7 rfl (by decide) fl_X7_9 (by decide) rfl rfl dX7_addTurn_139 ?_
        refine lv_iload hx hcd dX7_addTurn_142 (lv_at hl 0 rfl) ?_
        refine lv_iconst (v := 3) hx hcd dX7_addTurn_144 (by decide) ?_
        refine lv_iadd hx hcd dX7_addTurn_145 ?_
        refine lv_iload hx hcd dX7_addTurn_146 (lv_at hl 6 rfl) ?_
        obtain ⟨i40, ho⟩ := gd_some ho
        obtain ⟨σ41, eσ41, ho⟩ := lt_ex ho
        refine g_iast hC hW (i := 133) (by decide) rfl i40 dX7_addTurn_148 (fun H locs hW => ?_)
        rw [← eσ41] at hW
        refine lv_aload_n hx hcd dX7_addTurn_149 rfl (lv_at hl 2 rfl) ?_
        refine g_getr hC hW (C := RX7) (T := TX7) (N := 19) (ci := 9) (k := 0) (index := 9) (i := 132) (r := 133) inGX7 rfl (by decide) fl_X7_9 (by decide) rfl rfl dX7_addTurn_150 ?_
        refine lv_iload hx hcd dX7_addTurn_153 (lv_at hl 0 rfl) ?_
        refine lv_iconst (v := 4) hx hcd dX7_addTurn_155 (by decide) ?_
        refine lv_iadd hx hcd dX7_addTurn_156 ?_
        refine lv_iconst (v := (-1)) hx hcd dX7_addTurn_157 (by decide) ?_
        obtain ⟨i42, ho⟩ := gd_some ho
        obtain ⟨σ43, eσ43, ho⟩ := lt_ex ho
        refine g_iast hC hW (i := 133) (by decide) rfl i42 dX7_addTurn_158 (fun H locs hW => ?_)
        rw [← eσ43] at hW
        refine lv_aload_n hx hcd dX7_addTurn_159 rfl (lv_at hl 2 rfl) ?_
        refine g_getr hC hW (C := RX7) (T := TX7) (N := 19) (ci := 9) (k := 0) (index := 9) (i := 132) (r := 133) inGX7 rfl (by decide) fl_X7_9 (by decide) rfl rfl dX7_addTurn_160 ?_
        refine lv_iload hx hcd dX7_addTurn_163 (lv_at hl 0 rfl) ?_
        refine lv_iconst (v := 5) hx hcd dX7_addTurn_165 (by decide) ?_
        refine lv_iadd hx hcd dX7_addTurn_166 ?_
        refine lv_iconst (v := (-1)) hx hcd dX7_addTurn_167 (by decide) ?_
        obtain ⟨i44, ho⟩ := gd_some ho
        obtain ⟨σ45, eσ45, ho⟩ := lt_ex ho
        refine g_iast hC hW (i := 133) (by decide) rfl i44 dX7_addTurn_168 (fun H locs hW => ?_)
        rw [← eσ45] at hW
        refine lv_aload_n hx hcd dX7_addTurn_169 rfl (lv_at hl 2 rfl) ?_
        refine g_getr hC hW (C := RX7) (T := TX7) (N := 19) (ci := 9) (k := 0) (index := 9) (i := 132) (r := 133) inGX7 rfl (by decide) fl_X7_9 (by decide) rfl rfl dX7_addTurn_170 ?_
        refine lv_iload hx hcd dX7_addTurn_173 (lv_at hl 0 rfl) ?_
        refine lv_bipush (v := 6) hx hcd dX7_addTurn_175 (by decide) ?_
        refine lv_iadd hx hcd dX7_addTurn_177 ?_
        refine lv_iconst (v := (-1)) hx hcd dX7_addTurn_178 (by decide) ?_
        obtain ⟨i46, ho⟩ := gd_some ho
        obtain ⟨σ47, eσ47, ho⟩ := lt_ex ho
        refine g_iast hC hW (i := 133) (by decide) rfl i46 dX7_addTurn_179 (fun H locs hW => ?_)
        rw [← eσ47] at hW
        refine lv_aload_n hx hcd dX7_addTurn_180 rfl (lv_at hl 2 rfl) ?_
        refine g_getr hC hW (C := RX7) (T := TX7) (N := 19) (ci := 9) (k := 0) (index := 9) (i := 132) (r := 133) inGX7 rfl (by decide) fl_X7_9 (by decide) rfl rfl dX7_addTurn_181 ?_
        refine lv_iconst (v := 1) hx hcd dX7_addTurn_184 (by decide) ?_
        refine lv_dup2_11 hx hcd dX7_addTurn_185 rfl rfl ?_
        refine g_iald hC hW (i := 133) (by decide) rfl (by decide) dX7_addTurn_186 ?_
        refine lv_iconst (v := 1) hx hcd dX7_addTurn_187 (by decide) ?_
        refine lv_iadd hx hcd dX7_addTurn_188 ?_
        obtain ⟨σ48, eσ48, ho⟩ := lt_ex ho
        refine g_iast hC hW (i := 133) (by decide) rfl (by decide) dX7_addTurn_189 (fun H locs hW => ?_)
        rw [← eσ48] at hW
        refine lv_aload_n hx hcd dX7_addTurn_190 rfl (lv_at hl 2 rfl) ?_
        refine g_getr hC hW (C := RX7) (T := TX7) (N := 19) (ci := 9) (k := 0) (index := 9) (i := 132) (r := 133) inGX7 rfl (by decide) fl_X7_9 (by decide) rfl rfl dX7_addTurn_191 ?_
        refine lv_iconst (v := 1) hx hcd dX7_addTurn_194 (by decide) ?_
        refine g_iald hC hW (i := 133) (by decide) rfl (by decide) dX7_addTurn_195 ?_
        refine lv_iconst (v := 1) hx hcd dX7_addTurn_196 (by decide) ?_
        refine lv_isub hx hcd dX7_addTurn_197 ?_
        obtain rfl := Option.some.inj ho
        exact g_iret hC hr hlk hsz hW dX7_addTurn_198
      · have ho := gif_n ho c29
        refine lv_iconst (v := 0) hx hcd dX7_addTurn_93 (by decide) ?_
        obtain rfl := Option.some.inj ho
        exact g_iret hC hr hlk hsz hW dX7_addTurn_94
    · have ho := gif_n ho c27
      refine lv_iload_n hx hcd dX7_addTurn_20 rfl (lv_at hl 3 rfl) ?_
      refine lv_iconst (v := 0) hx hcd dX7_addTurn_21 (by decide) ?_
      refine lv_sipush (v := 1440) hx hcd dX7_addTurn_22 (by decide) ?_
      obtain ⟨r50, h49, ho⟩ := gb_some ho
      refine g_calli hW (g_runS (As := [.int x3, .int 0, .int 1440]) (rest := []) hC hW (c_X7_in l D y ad x3 0 1440 _ _ h49) ok_X7_51 ⟨rfl, rfl, Nat.le_of_ble_eq_true rfl, Nat.le_of_ble_eq_true rfl⟩ rfl hl.1 rfl (Nat.le_of_ble_eq_true rfl) dX7_addTurn_25 ⟨Nat.zero_le _, Nat.zero_le _⟩) (fun H locs hW => ?_)
      refine lv_if_eq (tgt := 46) hx hcd dX7_addTurn_28 (by decide) (fun c51 => ?_) (fun c51 => ?_)
      · have ho := gif_p ho c51
        refine lv_iconst (v := 0) hx hcd dX7_addTurn_46 (by decide) ?_
        refine lv_istore (lv' := [(5, .int 0), (0, .ref (ad 132)), (1, .int x1), (2, .int x2), (3, .int x3), (4, .int x4)]) hx hcd dX7_addTurn_47 hl (by decide) rfl (fun ls hl => ?_)
        refine lv_aload_n hx hcd dX7_addTurn_49 rfl (lv_at hl 1 rfl) ?_
        refine lv_iload hx hcd dX7_addTurn_50 (lv_at hl 0 rfl) ?_
        refine lv_if_eq (tgt := 63) hx hcd dX7_addTurn_52 (by decide) (fun _ => ?_) (fun hq => absurd hq (by decide))
        refine lv_iconst (v := 1) hx hcd dX7_addTurn_63 (by decide) ?_
        refine lv_goto (tgt := 83) hx hcd dX7_addTurn_64 (by decide) ?_
        obtain ⟨σ52, eσ52, ho⟩ := lt_ex ho
        refine g_puti hC hW (C := RX7) (T := TX7) (N := 19) (ci := 9) (k := 8) (index := 48) (i := 132) inGX7 tyX7 tyX7_ok nmX7 rfl (by decide) fl_X7_48 rfl (by decide) rfl rfl rfl rfl dX7_addTurn_83 (fun H locs hW => ?_)
        rw [← eσ52] at hW
        refine lv_aload_n hx hcd dX7_addTurn_86 rfl (lv_at hl 1 rfl) ?_
        refine g_geti hC hW (C := RX7) (T := TX7) (N := 19) (ci := 9) (k := 8) (index := 48) (i := 132) inGX7 rfl (by decide) fl_X7_48 (by decide) rfl rfl dX7_addTurn_87 ?_
        refine lv_if_le (tgt := 95) hx hcd dX7_addTurn_90 (by decide) (fun c53 => ?_) (fun c53 => ?_)
        · have ho := gif_p ho c53
          refine lv_aload_n hx hcd dX7_addTurn_95 rfl (lv_at hl 1 rfl) ?_
          obtain ⟨σ55, h54, ho⟩ := gb_some ho
          refine g_callv hW (g_runV (As := []) (rest := []) (i := 132) hC hW (c_X7_changes l D y ad _ _ h54) ok_X7_70 ⟨rfl, rfl, Nat.le_of_ble_eq_true rfl, Nat.le_of_ble_eq_true rfl⟩ (by decide) rfl rfl rfl rfl hl.1 rfl (Nat.le_of_ble_eq_true rfl) dX7_addTurn_96 ⟨Nat.zero_le _, Nat.zero_le _⟩) (fun H locs hW => ?_)
          refine lv_aload_n hx hcd dX7_addTurn_99 rfl (lv_at hl 1 rfl) ?_
          refine g_getr hC hW (C := RX7) (T := TX7) (N := 19) (ci := 9) (k := 0) (index := 9) (i := 132) (r := 133) inGX7 rfl (by decide) fl_X7_9 (by decide) rfl rfl dX7_addTurn_100 ?_
          refine lv_iconst (v := 1) hx hcd dX7_addTurn_103 (by decide) ?_
          refine g_iald hC hW (i := 133) (by decide) rfl (by decide) dX7_addTurn_104 ?_
          obtain ⟨r57, h56, ho⟩ := gb_some ho
          refine g_calli hW (g_runS (As := [.int (σ55 133 (1 : Int32).toNatClampNeg)]) (rest := []) hC hW (c_X7_at l D y ad (σ55 133 (1 : Int32).toNatClampNeg) _ _ h56) ok_X7_81 ⟨rfl, rfl, Nat.le_of_ble_eq_true rfl, Nat.le_of_ble_eq_true rfl⟩ rfl hl.1 rfl (Nat.le_of_ble_eq_true rfl) dX7_addTurn_105 ⟨Nat.zero_le _, Nat.zero_le _⟩) (fun H locs hW => ?_)
          refine lv_istore (lv' := [(6, .int r57), (5, .int 0), (0, .ref (ad 132)), (1, .int x1), (2, .int x2), (3, .int x3), (4, .int x4)]) hx hcd dX7_addTurn_108 hl (by decide) rfl (fun ls hl => ?_)
          refine lv_aload_n hx hcd dX7_addTurn_110 rfl (lv_at hl 2 rfl) ?_
          refine g_getr hC hW (C := RX7) (T := TX7) (N := 19) (ci := 9) (k := 0) (index := 9) (i := 132) (r := 133) inGX7 rfl (by decide) fl_X7_9 (by decide) rfl rfl dX7_addTurn_111 ?_
          refine lv_iload hx hcd dX7_addTurn_114 (lv_at hl 0 rfl) ?_
          refine lv_iload_n hx hcd dX7_addTurn_116 rfl (lv_at hl 3 rfl) ?_
          obtain ⟨i58, ho⟩ := gd_some ho
          obtain ⟨σ59, eσ59, ho⟩ := lt_ex ho
          refine g_iast hC hW (i := 133) (by decide) rfl i58 dX7_addTurn_117 (fun H locs hW => ?_)
          rw [← eσ59] at hW
          refine lv_aload_n hx hcd dX7_addTurn_118 rfl (lv_at hl 2 rfl) ?_
          refine g_getr hC hW (C := RX7) (T := TX7) (N := 19) (ci := 9) (k := 0) (index := 9) (i := 132) (r := 133) inGX7 rfl (by decide) fl_X7_9 (by decide) rfl rfl dX7_addTurn_119 ?_
          refine lv_iload hx hcd dX7_addTurn_122 (lv_at hl 0 rfl) ?_
          refine lv_iconst (v := 1) hx hcd dX7_addTurn_124 (by decide) ?_
          refine lv_iadd hx hcd dX7_addTurn_125 ?_
          refine lv_iload_n hx hcd dX7_addTurn_126 rfl (lv_at hl 4 rfl) ?_
          obtain ⟨i60, ho⟩ := gd_some ho
          obtain ⟨σ61, eσ61, ho⟩ := lt_ex ho
          refine g_iast hC hW (i := 133) (by decide) rfl i60 dX7_addTurn_127 (fun H locs hW => ?_)
          rw [← eσ61] at hW
          refine lv_aload_n hx hcd dX7_addTurn_128 rfl (lv_at hl 2 rfl) ?_
          refine g_getr hC hW (C := RX7) (T := TX7) (N := 19) (ci := 9) (k := 0) (index := 9) (i := 132) (r := 133) inGX7 rfl (by decide) fl_X7_9 (by decide) rfl rfl dX7_addTurn_129 ?_
          refine lv_iload hx hcd dX7_addTurn_132 (lv_at hl 0 rfl) ?_
          refine lv_iconst (v := 2) hx hcd dX7_addTurn_134 (by decide) ?_
          refine lv_iadd hx hcd dX7_addTurn_135 ?_
          refine lv_iload_n hx hcd dX7_addTurn_136 rfl (lv_at hl 5 rfl) ?_
          obtain ⟨i62, ho⟩ := gd_some ho
          obtain ⟨σ63, eσ63, ho⟩ := lt_ex ho
          refine g_iast hC hW (i := 133) (by decide) rfl i62 dX7_addTurn_137 (fun H locs hW => ?_)
          rw [← eσ63] at hW
          refine lv_aload_n hx hcd dX7_addTurn_138 rfl (lv_at hl 2 rfl) ?_
          refine g_getr hC hW (C := RX7) (T := TX7) (N := 19) (ci := 9) (k := 0) (index := 9) (i := 132) (r := 133) inGX7 rfl (by decide) fl_X7_9 (by decide) rfl rfl dX7_addTurn_139 ?_
          refine lv_iload hx hcd dX7_addTurn_142 (lv_at hl 0 rfl) ?_
          refine lv_iconst (v := 3) hx hcd dX7_addTurn_144 (by decide) ?_
          refine lv_iadd hx hcd dX7_addTurn_145 ?_
          refine lv_iload hx hcd dX7_addTurn_146 (lv_at hl 6 rfl) ?_
          obtain ⟨i64, ho⟩ := gd_some ho
          obtain ⟨σ65, eσ65, ho⟩ := lt_ex ho
          refine g_iast hC hW (i := 133) (by decide) rfl i64 dX7_addTurn_148 (fun H locs hW => ?_)
          rw [← eσ65] at hW
          refine lv_aload_n hx hcd dX7_addTurn_149 rfl (lv_at hl 2 rfl) ?_
          refine g_getr hC hW (C := RX7) (T := TX7) (N := 19) (ci := 9) (k := 0) (index := 9) (i := 132) (r := 133) inGX7 rfl (by decide) fl_X7_9 (by decide) rfl rfl dX7_addTurn_150 ?_
          refine lv_iload hx hcd dX7_addTurn_153 (lv_at hl 0 rfl) ?_
          refine lv_iconst (v := 4) hx hcd dX7_addTurn_155 (by decide) ?_
          refine lv_iadd hx hcd dX7_addTurn_156 ?_
          refine lv_iconst (v := (-1)) hx hcd dX7_addTurn_157 (by decide) ?_
          obtain ⟨i66, ho⟩ := gd_some ho
          obtain ⟨σ67, eσ67, ho⟩ := lt_ex ho
          refine g_iast hC hW (i := 133) (by decide) rfl i66 dX7_addTurn_158 (fun H locs hW => ?_)
          rw [← eσ67] at hW
          refine lv_aload_n hx hcd dX7_addTurn_159 rfl (lv_at hl 2 rfl) ?_
          refine g_getr hC hW (C := RX7) (T := TX7) (N := 19) (ci := 9) (k := 0) (index := 9) (i := 132) (r := 133) inGX7 rfl (by decide) fl_X7_9 (by decide) rfl rfl dX7_addTurn_160 ?_
          refine lv_iload hx hcd dX7_addTurn_163 (lv_at hl 0 rfl) ?_
          refine lv_iconst (v := 5) hx hcd dX7_addTurn_165 (by decide) ?_
          refine lv_iadd hx hcd dX7_addTurn_166 ?_
          refine lv_iconst (v := (-1)) hx hcd dX7_addTurn_167 (by decide) ?_
          obtain ⟨i68, ho⟩ := gd_some ho
          obtain ⟨σ69, eσ69, ho⟩ := lt_ex ho
          refine g_iast hC hW (i := 133) (by decide) rfl i68 dX7_addTurn_168 (fun H locs hW => ?_)
          rw [← eσ69] at hW
          refine lv_aload_n hx hcd dX7_addTurn_169 rfl (lv_at hl 2 rfl) ?_
          refine g_getr hC hW (C := RX7) (T := TX7) (N := 19) (ci := 9) (k := 0) (index := 9) (i := 132) (r := 133) inGX7 rfl (by decide) fl_X7_9 (by decide) rfl rfl dX7_addTurn_170 ?_
          refine lv_iload hx hcd dX7_addTurn_173 (lv_at hl 0 rfl) ?_
          refine lv_bipush (v := 6) hx hcd dX7_addTurn_175 (by decide) ?_
          refine lv_iadd hx hcd dX7_addTurn_177 ?_
          refine lv_iconst (v := (-1)) hx hcd dX7_addTurn_178 (by decide) ?_
          obtain ⟨i70, ho⟩ := gd_some ho
          obtain ⟨σ71, eσ71, ho⟩ := lt_ex ho
          refine g_iast hC hW (i := 133) (by decide) rfl i70 dX7_addTurn_179 (fun H locs hW => ?_)
          rw [← eσ71] at hW
          refine lv_aload_n hx hcd dX7_addTurn_180 rfl (lv_at hl 2 rfl) ?_
          refine g_getr hC hW (C := RX7) (T := TX7) (N := 19) (ci := 9) (k := 0) (index := 9) (i := 132) (r := 133) inGX7 rfl (by decide) fl_X7_9 (by decide) rfl rfl dX7_addTurn_181 ?_
          refine lv_iconst (v := 1) hx hcd dX7_addTurn_184 (by decide) ?_
          refine lv_dup2_11 hx hcd dX7_addTurn_185 rfl rfl ?_
          refine g_iald hC hW (i := 133) (by decide) rfl (by decide) dX7_addTurn_186 ?_
          refine lv_iconst (v := 1) hx hcd dX7_addTurn_187 (by decide) ?_
          refine lv_iadd hx hcd dX7_addTurn_188 ?_
          obtain ⟨σ72, eσ72, ho⟩ := lt_ex ho
          refine g_iast hC hW (i := 133) (by decide) rfl (by decide) dX7_addTurn_189 (fun H locs hW => ?_)
          rw [← eσ72] at hW
          refine lv_aload_n hx hcd dX7_addTurn_190 rfl (lv_at hl 2 rfl) ?_
          refine g_getr hC hW (C := RX7) (T := TX7) (N := 19) (ci := 9) (k := 0) (index := 9) (i := 132) (r := 133) inGX7 rfl (by decide) fl_X7_9 (by decide) rfl rfl dX7_addTurn_191 ?_
          refine lv_iconst (v := 1) hx hcd dX7_addTurn_194 (by decide) ?_
          refine g_iald hC hW (i := 133) (by decide) rfl (by decide) dX7_addTurn_195 ?_
          refine lv_iconst (v := 1) hx hcd dX7_addTurn_196 (by decide) ?_
          refine lv_isub hx hcd dX7_addTurn_197 ?_
          obtain rfl := Option.some.inj ho
          exact g_iret hC hr hlk hsz hW dX7_addTurn_198
        · have ho := gif_n ho c53
          refine lv_iconst (v := 0) hx hcd dX7_addTurn_93 (by decide) ?_
          obtain rfl := Option.some.inj ho
          exact g_iret hC hr hlk hsz hW dX7_addTurn_94
      · have ho := gif_n ho c51
        refine lv_iload hx hcd dX7_addTurn_31 (lv_at hl 4 rfl) ?_
        refine lv_iconst (v := 1) hx hcd dX7_addTurn_33 (by decide) ?_
        refine lv_bipush (v := 9) hx hcd dX7_addTurn_34 (by decide) ?_
        obtain ⟨r74, h73, ho⟩ := gb_some ho
        refine g_calli hW (g_runS (As := [.int x4, .int 1, .int 9]) (rest := []) hC hW (c_X7_in l D y ad x4 1 9 _ _ h73) ok_X7_51 ⟨rfl, rfl, Nat.le_of_ble_eq_true rfl, Nat.le_of_ble_eq_true rfl⟩ rfl hl.1 rfl (Nat.le_of_ble_eq_true rfl) dX7_addTurn_36 ⟨Nat.zero_le _, Nat.zero_le _⟩) (fun H locs hW => ?_)
        refine lv_if_eq (tgt := 46) hx hcd dX7_addTurn_39 (by decide) (fun c75 => ?_) (fun c75 => ?_)
        · have ho := gif_p ho c75
          refine lv_iconst (v := 0) hx hcd dX7_addTurn_46 (by decide) ?_
          refine lv_istore (lv' := [(5, .int 0), (0, .ref (ad 132)), (1, .int x1), (2, .int x2), (3, .int x3), (4, .int x4)]) hx hcd dX7_addTurn_47 hl (by decide) rfl (fun ls hl => ?_)
          refine lv_aload_n hx hcd dX7_addTurn_49 rfl (lv_at hl 1 rfl) ?_
          refine lv_iload hx hcd dX7_addTurn_50 (lv_at hl 0 rfl) ?_
          refine lv_if_eq (tgt := 63) hx hcd dX7_addTurn_52 (by decide) (fun _ => ?_) (fun hq => absurd hq (by decide))
          refine lv_iconst (v := 1) hx hcd dX7_addTurn_63 (by decide) ?_
          refine lv_goto (tgt := 83) hx hcd dX7_addTurn_64 (by decide) ?_
          obtain ⟨σ76, eσ76, ho⟩ := lt_ex ho
          refine g_puti hC hW (C := RX7) (T := TX7) (N := 19) (ci := 9) (k := 8) (index := 48) (i := 132) inGX7 tyX7 tyX7_ok nmX7 rfl (by decide) fl_X7_48 rfl (by decide) rfl rfl rfl rfl dX7_addTurn_83 (fun H locs hW => ?_)
          rw [← eσ76] at hW
          refine lv_aload_n hx hcd dX7_addTurn_86 rfl (lv_at hl 1 rfl) ?_
          refine g_geti hC hW (C := RX7) (T := TX7) (N := 19) (ci := 9) (k := 8) (index := 48) (i := 132) inGX7 rfl (by decide) fl_X7_48 (by decide) rfl rfl dX7_addTurn_87 ?_
          refine lv_if_le (tgt := 95) hx hcd dX7_addTurn_90 (by decide) (fun c77 => ?_) (fun c77 => ?_)
          · have ho := gif_p ho c77
            refine lv_aload_n hx hcd dX7_addTurn_95 rfl (lv_at hl 1 rfl) ?_
            obtain ⟨σ79, h78, ho⟩ := gb_some ho
            refine g_callv hW (g_runV (As := []) (rest := []) (i := 132) hC hW (c_X7_changes l D y ad _ _ h78) ok_X7_70 ⟨rfl, rfl, Nat.le_of_ble_eq_true rfl, Nat.le_of_ble_eq_true rfl⟩ (by decide) rfl rfl rfl rfl hl.1 rfl (Nat.le_of_ble_eq_true rfl) dX7_addTurn_96 ⟨Nat.zero_le _, Nat.zero_le _⟩) (fun H locs hW => ?_)
            refine lv_aload_n hx hcd dX7_addTurn_99 rfl (lv_at hl 1 rfl) ?_
            refine g_getr hC hW (C := RX7) (T := TX7) (N := 19) (ci := 9) (k := 0) (index := 9) (i := 132) (r := 133) inGX7 rfl (by decide) fl_X7_9 (by decide) rfl rfl dX7_addTurn_100 ?_
            refine lv_iconst (v := 1) hx hcd dX7_addTurn_103 (by decide) ?_
            refine g_iald hC hW (i := 133) (by decide) rfl (by decide) dX7_addTurn_104 ?_
            obtain ⟨r81, h80, ho⟩ := gb_some ho
            refine g_calli hW (g_runS (As := [.int (σ79 133 (1 : Int32).toNatClampNeg)]) (rest := []) hC hW (c_X7_at l D y ad (σ79 133 (1 : Int32).toNatClampNeg) _ _ h80) ok_X7_81 ⟨rfl, rfl, Nat.le_of_ble_eq_true rfl, Nat.le_of_ble_eq_true rfl⟩ rfl hl.1 rfl (Nat.le_of_ble_eq_true rfl) dX7_addTurn_105 ⟨Nat.zero_le _, Nat.zero_le _⟩) (fun H locs hW => ?_)
            refine lv_istore (lv' := [(6, .int r81), (5, .int 0), (0, .ref (ad 132)), (1, .int x1), (2, .int x2), (3, .int x3), (4, .int x4)]) hx hcd dX7_addTurn_108 hl (by decide) rfl (fun ls hl => ?_)
            refine lv_aload_n hx hcd dX7_addTurn_110 rfl (lv_at hl 2 rfl) ?_
            refine g_getr hC hW (C := RX7) (T := TX7) (N := 19) (ci := 9) (k := 0) (index := 9) (i := 132) (r := 133) inGX7 rfl (by decide) fl_X7_9 (by decide) rfl rfl dX7_addTurn_111 ?_
            refine lv_iload hx hcd dX7_addTurn_114 (lv_at hl 0 rfl) ?_
            refine lv_iload_n hx hcd dX7_addTurn_116 rfl (lv_at hl 3 rfl) ?_
            obtain ⟨i82, ho⟩ := gd_some ho
            obtain ⟨σ83, eσ83, ho⟩ := lt_ex ho
            refine g_iast hC hW (i := 133) (by decide) rfl i82 dX7_addTurn_117 (fun H locs hW => ?_)
            rw [← eσ83] at hW
            refine lv_aload_n hx hcd dX7_addTurn_118 rfl (lv_at hl 2 rfl) ?_
            refine g_getr hC hW (C := RX7) (T := TX7) (N := 19) (ci := 9) (k := 0) (index := 9) (i := 132) (r := 133) inGX7 rfl (by decide) fl_X7_9 (by decide) rfl rfl dX7_addTurn_119 ?_
            refine lv_iload hx hcd dX7_addTurn_122 (lv_at hl 0 rfl) ?_
            refine lv_iconst (v := 1) hx hcd dX7_addTurn_124 (by decide) ?_
            refine lv_iadd hx hcd dX7_addTurn_125 ?_
            refine lv_iload_n hx hcd dX7_addTurn_126 rfl (lv_at hl 4 rfl) ?_
            obtain ⟨i84, ho⟩ := gd_some ho
            obtain ⟨σ85, eσ85, ho⟩ := lt_ex ho
            refine g_iast hC hW (i := 133) (by decide) rfl i84 dX7_addTurn_127 (fun H locs hW => ?_)
            rw [← eσ85] at hW
            refine lv_aload_n hx hcd dX7_addTurn_128 rfl (lv_at hl 2 rfl) ?_
            refine g_getr hC hW (C := RX7) (T := TX7) (N := 19) (ci := 9) (k := 0) (index := 9) (i := 132) (r := 133) inGX7 rfl (by decide) fl_X7_9 (by decide) rfl rfl dX7_addTurn_129 ?_
            refine lv_iload hx hcd dX7_addTurn_132 (lv_at hl 0 rfl) ?_
            refine lv_iconst (v := 2) hx hcd dX7_addTurn_134 (by decide) ?_
            refine lv_iadd hx hcd dX7_addTurn_135 ?_
            refine lv_iload_n hx hcd dX7_addTurn_136 rfl (lv_at hl 5 rfl) ?_
            obtain ⟨i86, ho⟩ := gd_some ho
            obtain ⟨σ87, eσ87, ho⟩ := lt_ex ho
            refine g_iast hC hW (i := 133) (by decide) rfl i86 dX7_addTurn_137 (fun H locs hW => ?_)
            rw [← eσ87] at hW
            refine lv_aload_n hx hcd dX7_addTurn_138 rfl (lv_at hl 2 rfl) ?_
            refine g_getr hC hW (C := RX7) (T := TX7) (N := 19) (ci := 9) (k := 0) (index := 9) (i := 132) (r := 133) inGX7 rfl (by decide) fl_X7_9 (by decide) rfl rfl dX7_addTurn_139 ?_
            refine lv_iload hx hcd dX7_addTurn_142 (lv_at hl 0 rfl) ?_
            refine lv_iconst (v := 3) hx hcd dX7_addTurn_144 (by decide) ?_
            refine lv_iadd hx hcd dX7_addTurn_145 ?_
            refine lv_iload hx hcd dX7_addTurn_146 (lv_at hl 6 rfl) ?_
            obtain ⟨i88, ho⟩ := gd_some ho
            obtain ⟨σ89, eσ89, ho⟩ := lt_ex ho
            refine g_iast hC hW (i := 133) (by decide) rfl i88 dX7_addTurn_148 (fun H locs hW => ?_)
            rw [← eσ89] at hW
            refine lv_aload_n hx hcd dX7_addTurn_149 rfl (lv_at hl 2 rfl) ?_
            refine g_getr hC hW (C := RX7) (T := TX7) (N := 19) (ci := 9) (k := 0) (index := 9) (i := 132) (r := 133) inGX7 rfl (by decide) fl_X7_9 (by decide) rfl rfl dX7_addTurn_150 ?_
            refine lv_iload hx hcd dX7_addTurn_153 (lv_at hl 0 rfl) ?_
            refine lv_iconst (v := 4) hx hcd dX7_addTurn_155 (by decide) ?_
            refine lv_iadd hx hcd dX7_addTurn_156 ?_
            refine lv_iconst (v := (-1)) hx hcd dX7_addTurn_157 (by decide) ?_
            obtain ⟨i90, ho⟩ := gd_some ho
            obtain ⟨σ91, eσ91, ho⟩ := lt_ex ho
            refine g_iast hC hW (i := 133) (by decide) rfl i90 dX7_addTurn_158 (fun H locs hW => ?_)
            rw [← eσ91] at hW
            refine lv_aload_n hx hcd dX7_addTurn_159 rfl (lv_at hl 2 rfl) ?_
            refine g_getr hC hW (C := RX7) (T := TX7) (N := 19) (ci := 9) (k := 0) (index := 9) (i := 132) (r := 133) inGX7 rfl (by decide) fl_X7_9 (by decide) rfl rfl dX7_addTurn_160 ?_
            refine lv_iload hx hcd dX7_addTurn_163 (lv_at hl 0 rfl) ?_
            refine lv_iconst (v := 5) hx hcd dX7_addTurn_165 (by decide) ?_
            refine lv_iadd hx hcd dX7_addTurn_166 ?_
            refine lv_iconst (v := (-1)) hx hcd dX7_addTurn_167 (by decide) ?_
            obtain ⟨i92, ho⟩ := gd_some ho
            obtain ⟨σ93, eσ93, ho⟩ := lt_ex ho
            refine g_iast hC hW (i := 133) (by decide) rfl i92 dX7_addTurn_168 (fun H locs hW => ?_)
            rw [← eσ93] at hW
            refine lv_aload_n hx hcd dX7_addTurn_169 rfl (lv_at hl 2 rfl) ?_
            refine g_getr hC hW (C := RX7) (T := TX7) (N := 19) (ci := 9) (k := 0) (index := 9) (i := 132) (r := 133) inGX7 rfl (by decide) fl_X7_9 (by decide) rfl rfl dX7_addTurn_170 ?_
            refine lv_iload hx hcd dX7_addTurn_173 (lv_at hl 0 rfl) ?_
            refine lv_bipush (v := 6) hx hcd dX7_addTurn_175 (by decide) ?_
            refine lv_iadd hx hcd dX7_addTurn_177 ?_
            refine lv_iconst (v := (-1)) hx hcd dX7_addTurn_178 (by decide) ?_
            obtain ⟨i94, ho⟩ := gd_some ho
            obtain ⟨σ95, eσ95, ho⟩ := lt_ex ho
            refine g_iast hC hW (i := 133) (by decide) rfl i94 dX7_addTurn_179 (fun H locs hW => ?_)
            rw [← eσ95] at hW
            refine lv_aload_n hx hcd dX7_addTurn_180 rfl (lv_at hl 2 rfl) ?_
            refine g_getr hC hW (C := RX7) (T := TX7) (N := 19) (ci := 9) (k := 0) (index := 9) (i := 132) (r := 133) inGX7 rfl (by decide) fl_X7_9 (by decide) rfl rfl dX7_addTurn_181 ?_
            refine lv_iconst (v := 1) hx hcd dX7_addTurn_184 (by decide) ?_
            refine lv_dup2_11 hx hcd dX7_addTurn_185 rfl rfl ?_
            refine g_iald hC hW (i := 133) (by decide) rfl (by decide) dX7_addTurn_186 ?_
            refine lv_iconst (v := 1) hx hcd dX7_addTurn_187 (by decide) ?_
            refine lv_iadd hx hcd dX7_addTurn_188 ?_
            obtain ⟨σ96, eσ96, ho⟩ := lt_ex ho
            refine g_iast hC hW (i := 133) (by decide) rfl (by decide) dX7_addTurn_189 (fun H locs hW => ?_)
            rw [← eσ96] at hW
            refine lv_aload_n hx hcd dX7_addTurn_190 rfl (lv_at hl 2 rfl) ?_
            refine g_getr hC hW (C := RX7) (T := TX7) (N := 19) (ci := 9) (k := 0) (index := 9) (i := 132) (r := 133) inGX7 rfl (by decide) fl_X7_9 (by decide) rfl rfl dX7_addTurn_191 ?_
            refine lv_iconst (v := 1) hx hcd dX7_addTurn_194 (by decide) ?_
            refine g_iald hC hW (i := 133) (by decide) rfl (by decide) dX7_addTurn_195 ?_
            refine lv_iconst (v := 1) hx hcd dX7_addTurn_196 (by decide) ?_
            refine lv_isub hx hcd dX7_addTurn_197 ?_
            obtain rfl := Option.some.inj ho
            exact g_iret hC hr hlk hsz hW dX7_addTurn_198
          · have ho := gif_n ho c77
            refine lv_iconst (v := 0) hx hcd dX7_addTurn_93 (by decide) ?_
            obtain rfl := Option.some.inj ho
            exact g_iret hC hr hlk hsz hW dX7_addTurn_94
        · have ho := gif_n ho c75
          refine lv_iconst (v := 1) hx hcd dX7_addTurn_42 (by decide) ?_
          refine lv_goto (tgt := 47) hx hcd dX7_addTurn_43 (by decide) ?_
          refine lv_istore (lv' := [(5, .int 1), (0, .ref (ad 132)), (1, .int x1), (2, .int x2), (3, .int x3), (4, .int x4)]) hx hcd dX7_addTurn_47 hl (by decide) rfl (fun ls hl => ?_)
          refine lv_aload_n hx hcd dX7_addTurn_49 rfl (lv_at hl 1 rfl) ?_
          refine lv_iload hx hcd dX7_addTurn_50 (lv_at hl 0 rfl) ?_
          refine lv_if_eq (tgt := 63) hx hcd dX7_addTurn_52 (by decide) (fun hq => absurd hq (by decide)) (fun _ => ?_)
          refine lv_iload_n hx hcd dX7_addTurn_55 rfl (lv_at hl 4 rfl) ?_
          refine lv_iload_n hx hcd dX7_addTurn_56 rfl (lv_at hl 3 rfl) ?_
          refine lv_bipush (v := 30) hx hcd dX7_addTurn_57 (by decide) ?_
          refine lv_iadd hx hcd dX7_addTurn_59 ?_
          refine lv_icmp_ge (tgt := 67) hx hcd dX7_addTurn_60 (by decide) (fun c97 => ?_) (fun c97 => ?_)
          · have ho := gif_p ho c97
            refine lv_aload_n hx hcd dX7_addTurn_67 rfl (lv_at hl 1 rfl) ?_
            refine g_getr hC hW (C := RX7) (T := TX7) (N := 19) (ci := 9) (k := 0) (index := 9) (i := 132) (r := 133) inGX7 rfl (by decide) fl_X7_9 (by decide) rfl rfl dX7_addTurn_68 ?_
            refine lv_iconst (v := 1) hx hcd dX7_addTurn_71 (by decide) ?_
            refine g_iald hC hW (i := 133) (by decide) rfl (by decide) dX7_addTurn_72 ?_
            refine lv_bipush (v := 10) hx hcd dX7_addTurn_73 (by decide) ?_
            refine lv_icmp_ne (tgt := 82) hx hcd dX7_addTurn_75 (by decide) (fun c98 => ?_) (fun c98 => ?_)
            · have ho := gif_n ho c98
              refine lv_iconst (v := 0) hx hcd dX7_addTurn_82 (by decide) ?_
              obtain ⟨σ99, eσ99, ho⟩ := lt_ex ho
              refine g_puti hC hW (C := RX7) (T := TX7) (N := 19) (ci := 9) (k := 8) (index := 48) (i := 132) inGX7 tyX7 tyX7_ok nmX7 rfl (by decide) fl_X7_48 rfl (by decide) rfl rfl rfl rfl dX7_addTurn_83 (fun H locs hW => ?_)
              rw [← eσ99] at hW
              refine lv_aload_n hx hcd dX7_addTurn_86 rfl (lv_at hl 1 rfl) ?_
              refine g_geti hC hW (C := RX7) (T := TX7) (N := 19) (ci := 9) (k := 8) (index := 48) (i := 132) inGX7 rfl (by decide) fl_X7_48 (by decide) rfl rfl dX7_addTurn_87 ?_
              refine lv_if_le (tgt := 95) hx hcd dX7_addTurn_90 (by decide) (fun c100 => ?_) (fun c100 => ?_)
              · have ho := gif_p ho c100
                refine lv_aload_n hx hcd dX7_addTurn_95 rfl (lv_at hl 1 rfl) ?_
                obtain ⟨σ102, h101, ho⟩ := gb_some ho
                refine g_callv hW (g_runV (As := []) (rest := []) (i := 132) hC hW (c_X7_changes l D y ad _ _ h101) ok_X7_70 ⟨rfl, rfl, Nat.le_of_ble_eq_true rfl, Nat.le_of_ble_eq_true rfl⟩ (by decide) rfl rfl rfl rfl hl.1 rfl (Nat.le_of_ble_eq_true rfl) dX7_addTurn_96 ⟨Nat.zero_le _, Nat.zero_le _⟩) (fun H locs hW => ?_)
                refine lv_aload_n hx hcd dX7_addTurn_99 rfl (lv_at hl 1 rfl) ?_
                refine g_getr hC hW (C := RX7) (T := TX7) (N := 19) (ci := 9) (k := 0) (index := 9) (i := 132) (r := 133) inGX7 rfl (by decide) fl_X7_9 (by decide) rfl rfl dX7_addTurn_100 ?_
                refine lv_iconst (v := 1) hx hcd dX7_addTurn_103 (by decide) ?_
                refine g_iald hC hW (i := 133) (by decide) rfl (by decide) dX7_addTurn_104 ?_
                obtain ⟨r104, h103, ho⟩ := gb_some ho
                refine g_calli hW (g_runS (As := [.int (σ102 133 (1 : Int32).toNatClampNeg)]) (rest := []) hC hW (c_X7_at l D y ad (σ102 133 (1 : Int32).toNatClampNeg) _ _ h103) ok_X7_81 ⟨rfl, rfl, Nat.le_of_ble_eq_true rfl, Nat.le_of_ble_eq_true rfl⟩ rfl hl.1 rfl (Nat.le_of_ble_eq_true rfl) dX7_addTurn_105 ⟨Nat.zero_le _, Nat.zero_le _⟩) (fun H locs hW => ?_)
                refine lv_istore (lv' := [(6, .int r104), (5, .int 1), (0, .ref (ad 132)), (1, .int x1), (2, .int x2), (3, .int x3), (4, .int x4)]) hx hcd dX7_addTurn_108 hl (by decide) rfl (fun ls hl => ?_)
                refine lv_aload_n hx hcd dX7_addTurn_110 rfl (lv_at hl 2 rfl) ?_
                refine g_getr hC hW (C := RX7) (T := TX7) (N := 19) (ci := 9) (k := 0) (index := 9) (i := 132) (r := 133) inGX7 rfl (by decide) fl_X7_9 (by decide) rfl rfl dX7_addTurn_111 ?_
                refine lv_iload hx hcd dX7_addTurn_114 (lv_at hl 0 rfl) ?_
                refine lv_iload_n hx hcd dX7_addTurn_116 rfl (lv_at hl 3 rfl) ?_
                obtain ⟨i105, ho⟩ := gd_some ho
                obtain ⟨σ106, eσ106, ho⟩ := lt_ex ho
                refine g_iast hC hW (i := 133) (by decide) rfl i105 dX7_addTurn_117 (fun H locs hW => ?_)
                rw [← eσ106] at hW
                refine lv_aload_n hx hcd dX7_addTurn_118 rfl (lv_at hl 2 rfl) ?_
                refine g_getr hC hW (C := RX7) (T := TX7) (N := 19) (ci := 9) (k := 0) (index := 9) (i := 132) (r := 133) inGX7 rfl (by decide) fl_X7_9 (by decide) rfl rfl dX7_addTurn_119 ?_
                refine lv_iload hx hcd dX7_addTurn_122 (lv_at hl 0 rfl) ?_
                refine lv_iconst (v := 1) hx hcd dX7_addTurn_124 (by decide) ?_
                refine lv_iadd hx hcd dX7_addTurn_125 ?_
                refine lv_iload_n hx hcd dX7_addTurn_126 rfl (lv_at hl 4 rfl) ?_
                obtain ⟨i107, ho⟩ := gd_some ho
                obtain ⟨σ108, eσ108, ho⟩ := lt_ex ho
                refine g_iast hC hW (i := 133) (by decide) rfl i107 dX7_addTurn_127 (fun H locs hW => ?_)
                rw [← eσ108] at hW
                refine lv_aload_n hx hcd dX7_addTurn_128 rfl (lv_at hl 2 rfl) ?_
                refine g_getr hC hW (C := RX7) (T := TX7) (N := 19) (ci := 9) (k := 0) (index := 9) (i := 132) (r := 133) inGX7 rfl (by decide) fl_X7_9 (by decide) rfl rfl dX7_addTurn_129 ?_
                refine lv_iload hx hcd dX7_addTurn_132 (lv_at hl 0 rfl) ?_
                refine lv_iconst (v := 2) hx hcd dX7_addTurn_134 (by decide) ?_
                refine lv_iadd hx hcd dX7_addTurn_135 ?_
                refine lv_iload_n hx hcd dX7_addTurn_136 rfl (lv_at hl 5 rfl) ?_
                obtain ⟨i109, ho⟩ := gd_some ho
                obtain ⟨σ110, eσ110, ho⟩ := lt_ex ho
                refine g_iast hC hW (i := 133) (by decide) rfl i109 dX7_addTurn_137 (fun H locs hW => ?_)
                rw [← eσ110] at hW
                refine lv_aload_n hx hcd dX7_addTurn_138 rfl (lv_at hl 2 rfl) ?_
                refine g_getr hC hW (C := RX7) (T := TX7) (N := 19) (ci := 9) (k := 0) (index := 9) (i := 132) (r := 133) inGX7 rfl (by decide) fl_X7_9 (by decide) rfl rfl dX7_addTurn_139 ?_
                refine lv_iload hx hcd dX7_addTurn_142 (lv_at hl 0 rfl) ?_
                refine lv_iconst (v := 3) hx hcd dX7_addTurn_144 (by decide) ?_
                refine lv_iadd hx hcd dX7_addTurn_145 ?_
                refine lv_iload hx hcd dX7_addTurn_146 (lv_at hl 6 rfl) ?_
                obtain ⟨i111, ho⟩ := gd_some ho
                obtain ⟨σ112, eσ112, ho⟩ := lt_ex ho
                refine g_iast hC hW (i := 133) (by decide) rfl i111 dX7_addTurn_148 (fun H locs hW => ?_)
                rw [← eσ112] at hW
                refine lv_aload_n hx hcd dX7_addTurn_149 rfl (lv_at hl 2 rfl) ?_
                refine g_getr hC hW (C := RX7) (T := TX7) (N := 19) (ci := 9) (k := 0) (index := 9) (i := 132) (r := 133) inGX7 rfl (by decide) fl_X7_9 (by decide) rfl rfl dX7_addTurn_150 ?_
                refine lv_iload hx hcd dX7_addTurn_153 (lv_at hl 0 rfl) ?_
                refine lv_iconst (v := 4) hx hcd dX7_addTurn_155 (by decide) ?_
                refine lv_iadd hx hcd dX7_addTurn_156 ?_
                refine lv_iconst (v := (-1)) hx hcd dX7_addTurn_157 (by decide) ?_
                obtain ⟨i113, ho⟩ := gd_some ho
                obtain ⟨σ114, eσ114, ho⟩ := lt_ex ho
                refine g_iast hC hW (i := 133) (by decide) rfl i113 dX7_addTurn_158 (fun H locs hW => ?_)
                rw [← eσ114] at hW
                refine lv_aload_n hx hcd dX7_addTurn_159 rfl (lv_at hl 2 rfl) ?_
                refine g_getr hC hW (C := RX7) (T := TX7) (N := 19) (ci := 9) (k := 0) (index := 9) (i := 132) (r := 133) inGX7 rfl (by decide) fl_X7_9 (by decide) rfl rfl dX7_addTurn_160 ?_
                refine lv_iload hx hcd dX7_addTurn_163 (lv_at hl 0 rfl) ?_
                refine lv_iconst (v := 5) hx hcd dX7_addTurn_165 (by decide) ?_
                refine lv_iadd hx hcd dX7_addTurn_166 ?_
                refine lv_iconst (v := (-1)) hx hcd dX7_addTurn_167 (by decide) ?_
                obtain ⟨i115, ho⟩ := gd_some ho
                obtain ⟨σ116, eσ116, ho⟩ := lt_ex ho
                refine g_iast hC hW (i := 133) (by decide) rfl i115 dX7_addTurn_168 (fun H locs hW => ?_)
                rw [← eσ116] at hW
                refine lv_aload_n hx hcd dX7_addTurn_169 rfl (lv_at hl 2 rfl) ?_
                refine g_getr hC hW (C := RX7) (T := TX7) (N := 19) (ci := 9) (k := 0) (index := 9) (i := 132) (r := 133) inGX7 rfl (by decide) fl_X7_9 (by decide) rfl rfl dX7_addTurn_170 ?_
                refine lv_iload hx hcd dX7_addTurn_173 (lv_at hl 0 rfl) ?_
                refine lv_bipush (v := 6) hx hcd dX7_addTurn_175 (by decide) ?_
                refine lv_iadd hx hcd dX7_addTurn_177 ?_
                refine lv_iconst (v := (-1)) hx hcd dX7_addTurn_178 (by decide) ?_
                obtain ⟨i117, ho⟩ := gd_some ho
                obtain ⟨σ118, eσ118, ho⟩ := lt_ex ho
                refine g_iast hC hW (i := 133) (by decide) rfl i117 dX7_addTurn_179 (fun H locs hW => ?_)
                rw [← eσ118] at hW
                refine lv_aload_n hx hcd dX7_addTurn_180 rfl (lv_at hl 2 rfl) ?_
                refine g_getr hC hW (C := RX7) (T := TX7) (N := 19) (ci := 9) (k := 0) (index := 9) (i := 132) (r := 133) inGX7 rfl (by decide) fl_X7_9 (by decide) rfl rfl dX7_addTurn_181 ?_
                refine lv_iconst (v := 1) hx hcd dX7_addTurn_184 (by decide) ?_
                refine lv_dup2_11 hx hcd dX7_addTurn_185 rfl rfl ?_
                refine g_iald hC hW (i := 133) (by decide) rfl (by decide) dX7_addTurn_186 ?_
                refine lv_iconst (v := 1) hx hcd dX7_addTurn_187 (by decide) ?_
                refine lv_iadd hx hcd dX7_addTurn_188 ?_
                obtain ⟨σ119, eσ119, ho⟩ := lt_ex ho
                refine g_iast hC hW (i := 133) (by decide) rfl (by decide) dX7_addTurn_189 (fun H locs hW => ?_)
                rw [← eσ119] at hW
                refine lv_aload_n hx hcd dX7_addTurn_190 rfl (lv_at hl 2 rfl) ?_
                refine g_getr hC hW (C := RX7) (T := TX7) (N := 19) (ci := 9) (k := 0) (index := 9) (i := 132) (r := 133) inGX7 rfl (by decide) fl_X7_9 (by decide) rfl rfl dX7_addTurn_191 ?_
                refine lv_iconst (v := 1) hx hcd dX7_addTurn_194 (by decide) ?_
                refine g_iald hC hW (i := 133) (by decide) rfl (by decide) dX7_addTurn_195 ?_
                refine lv_iconst (v := 1) hx hcd dX7_addTurn_196 (by decide) ?_
                refine lv_isub hx hcd dX7_addTurn_197 ?_
                obtain rfl := Option.some.inj ho
                exact g_iret hC hr hlk hsz hW dX7_addTurn_198
              · have ho := gif_n ho c100
                refine lv_iconst (v := 0) hx hcd dX7_addTurn_93 (by decide) ?_
                obtain rfl := Option.some.inj ho
                exact g_iret hC hr hlk hsz hW dX7_addTurn_94
            · have ho := gif_p ho c98
              refine lv_iconst (v := 2) hx hcd dX7_addTurn_78 (by decide) ?_
              refine lv_goto (tgt := 83) hx hcd dX7_addTurn_79 (by decide) ?_
              obtain ⟨σ120, eσ120, ho⟩ := lt_ex ho
              refine g_puti hC hW (C := RX7) (T := TX7) (N := 19) (ci := 9) (k := 8) (index := 48) (i := 132) inGX7 tyX7 tyX7_ok nmX7 rfl (by decide) fl_X7_48 rfl (by decide) rfl rfl rfl rfl dX7_addTurn_83 (fun H locs hW => ?_)
              rw [← eσ120] at hW
              refine lv_aload_n hx hcd dX7_addTurn_86 rfl (lv_at hl 1 rfl) ?_
              refine g_geti hC hW (C := RX7) (T := TX7) (N := 19) (ci := 9) (k := 8) (index := 48) (i := 132) inGX7 rfl (by decide) fl_X7_48 (by decide) rfl rfl dX7_addTurn_87 ?_
              refine lv_if_le (tgt := 95) hx hcd dX7_addTurn_90 (by decide) (fun c121 => ?_) (fun c121 => ?_)
              · have ho := gif_p ho c121
                refine lv_aload_n hx hcd dX7_addTurn_95 rfl (lv_at hl 1 rfl) ?_
                obtain ⟨σ123, h122, ho⟩ := gb_some ho
                refine g_callv hW (g_runV (As := []) (rest := []) (i := 132) hC hW (c_X7_changes l D y ad _ _ h122) ok_X7_70 ⟨rfl, rfl, Nat.le_of_ble_eq_true rfl, Nat.le_of_ble_eq_true rfl⟩ (by decide) rfl rfl rfl rfl hl.1 rfl (Nat.le_of_ble_eq_true rfl) dX7_addTurn_96 ⟨Nat.zero_le _, Nat.zero_le _⟩) (fun H locs hW => ?_)
                refine lv_aload_n hx hcd dX7_addTurn_99 rfl (lv_at hl 1 rfl) ?_
                refine g_getr hC hW (C := RX7) (T := TX7) (N := 19) (ci := 9) (k := 0) (index := 9) (i := 132) (r := 133) inGX7 rfl (by decide) fl_X7_9 (by decide) rfl rfl dX7_addTurn_100 ?_
                refine lv_iconst (v := 1) hx hcd dX7_addTurn_103 (by decide) ?_
                refine g_iald hC hW (i := 133) (by decide) rfl (by decide) dX7_addTurn_104 ?_
                obtain ⟨r125, h124, ho⟩ := gb_some ho
                refine g_calli hW (g_runS (As := [.int (σ123 133 (1 : Int32).toNatClampNeg)]) (rest := []) hC hW (c_X7_at l D y ad (σ123 133 (1 : Int32).toNatClampNeg) _ _ h124) ok_X7_81 ⟨rfl, rfl, Nat.le_of_ble_eq_true rfl, Nat.le_of_ble_eq_true rfl⟩ rfl hl.1 rfl (Nat.le_of_ble_eq_true rfl) dX7_addTurn_105 ⟨Nat.zero_le _, Nat.zero_le _⟩) (fun H locs hW => ?_)
                refine lv_istore (lv' := [(6, .int r125), (5, .int 1), (0, .ref (ad 132)), (1, .int x1), (2, .int x2), (3, .int x3), (4, .int x4)]) hx hcd dX7_addTurn_108 hl (by decide) rfl (fun ls hl => ?_)
                refine lv_aload_n hx hcd dX7_addTurn_110 rfl (lv_at hl 2 rfl) ?_
                refine g_getr hC hW (C := RX7) (T := TX7) (N := 19) (ci := 9) (k := 0) (index := 9) (i := 132) (r := 133) inGX7 rfl (by decide) fl_X7_9 (by decide) rfl rfl dX7_addTurn_111 ?_
                refine lv_iload hx hcd dX7_addTurn_114 (lv_at hl 0 rfl) ?_
                refine lv_iload_n hx hcd dX7_addTurn_116 rfl (lv_at hl 3 rfl) ?_
                obtain ⟨i126, ho⟩ := gd_some ho
                obtain ⟨σ127, eσ127, ho⟩ := lt_ex ho
                refine g_iast hC hW (i := 133) (by decide) rfl i126 dX7_addTurn_117 (fun H locs hW => ?_)
                rw [← eσ127] at hW
                refine lv_aload_n hx hcd dX7_addTurn_118 rfl (lv_at hl 2 rfl) ?_
                refine g_getr hC hW (C := RX7) (T := TX7) (N := 19) (ci := 9) (k := 0) (index := 9) (i := 132) (r := 133) inGX7 rfl (by decide) fl_X7_9 (by decide) rfl rfl dX7_addTurn_119 ?_
                refine lv_iload hx hcd dX7_addTurn_122 (lv_at hl 0 rfl) ?_
                refine lv_iconst (v := 1) hx hcd dX7_addTurn_124 (by decide) ?_
                refine lv_iadd hx hcd dX7_addTurn_125 ?_
                refine lv_iload_n hx hcd dX7_addTurn_126 rfl (lv_at hl 4 rfl) ?_
                obtain ⟨i128, ho⟩ := gd_some ho
                obtain ⟨σ129, eσ129, ho⟩ := lt_ex ho
                refine g_iast hC hW (i := 133) (by decide) rfl i128 dX7_addTurn_127 (fun H locs hW => ?_)
                rw [← eσ129] at hW
                refine lv_aload_n hx hcd dX7_addTurn_128 rfl (lv_at hl 2 rfl) ?_
                refine g_getr hC hW (C := RX7) (T := TX7) (N := 19) (ci := 9) (k := 0) (index := 9) (i := 132) (r := 133) inGX7 rfl (by decide) fl_X7_9 (by decide) rfl rfl dX7_addTurn_129 ?_
                refine lv_iload hx hcd dX7_addTurn_132 (lv_at hl 0 rfl) ?_
                refine lv_iconst (v := 2) hx hcd dX7_addTurn_134 (by decide) ?_
                refine lv_iadd hx hcd dX7_addTurn_135 ?_
                refine lv_iload_n hx hcd dX7_addTurn_136 rfl (lv_at hl 5 rfl) ?_
                obtain ⟨i130, ho⟩ := gd_some ho
                obtain ⟨σ131, eσ131, ho⟩ := lt_ex ho
                refine g_iast hC hW (i := 133) (by decide) rfl i130 dX7_addTurn_137 (fun H locs hW => ?_)
                rw [← eσ131] at hW
                refine lv_aload_n hx hcd dX7_addTurn_138 rfl (lv_at hl 2 rfl) ?_
                refine g_getr hC hW (C := RX7) (T := TX7) (N := 19) (ci := 9) (k := 0) (index := 9) (i := 132) (r := 133) inGX7 rfl (by decide) fl_X7_9 (by decide) rfl rfl dX7_addTurn_139 ?_
                refine lv_iload hx hcd dX7_addTurn_142 (lv_at hl 0 rfl) ?_
                refine lv_iconst (v := 3) hx hcd dX7_addTurn_144 (by decide) ?_
                refine lv_iadd hx hcd dX7_addTurn_145 ?_
                refine lv_iload hx hcd dX7_addTurn_146 (lv_at hl 6 rfl) ?_
                obtain ⟨i132, ho⟩ := gd_some ho
                obtain ⟨σ133, eσ133, ho⟩ := lt_ex ho
                refine g_iast hC hW (i := 133) (by decide) rfl i132 dX7_addTurn_148 (fun H locs hW => ?_)
                rw [← eσ133] at hW
                refine lv_aload_n hx hcd dX7_addTurn_149 rfl (lv_at hl 2 rfl) ?_
                refine g_getr hC hW (C := RX7) (T := TX7) (N := 19) (ci := 9) (k := 0) (index := 9) (i := 132) (r := 133) inGX7 rfl (by decide) fl_X7_9 (by decide) rfl rfl dX7_addTurn_150 ?_
                refine lv_iload hx hcd dX7_addTurn_153 (lv_at hl 0 rfl) ?_
                refine lv_iconst (v := 4) hx hcd dX7_addTurn_155 (by decide) ?_
                refine lv_iadd hx hcd dX7_addTurn_156 ?_
                refine lv_iconst (v := (-1)) hx hcd dX7_addTurn_157 (by decide) ?_
                obtain ⟨i134, ho⟩ := gd_some ho
                obtain ⟨σ135, eσ135, ho⟩ := lt_ex ho
                refine g_iast hC hW (i := 133) (by decide) rfl i134 dX7_addTurn_158 (fun H locs hW => ?_)
                rw [← eσ135] at hW
                refine lv_aload_n hx hcd dX7_addTurn_159 rfl (lv_at hl 2 rfl) ?_
                refine g_getr hC hW (C := RX7) (T := TX7) (N := 19) (ci := 9) (k := 0) (index := 9) (i := 132) (r := 133) inGX7 rfl (by decide) fl_X7_9 (by decide) rfl rfl dX7_addTurn_160 ?_
                refine lv_iload hx hcd dX7_addTurn_163 (lv_at hl 0 rfl) ?_
                refine lv_iconst (v := 5) hx hcd dX7_addTurn_165 (by decide) ?_
                refine lv_iadd hx hcd dX7_addTurn_166 ?_
                refine lv_iconst (v := (-1)) hx hcd dX7_addTurn_167 (by decide) ?_
                obtain ⟨i136, ho⟩ := gd_some ho
                obtain ⟨σ137, eσ137, ho⟩ := lt_ex ho
                refine g_iast hC hW (i := 133) (by decide) rfl i136 dX7_addTurn_168 (fun H locs hW => ?_)
                rw [← eσ137] at hW
                refine lv_aload_n hx hcd dX7_addTurn_169 rfl (lv_at hl 2 rfl) ?_
                refine g_getr hC hW (C := RX7) (T := TX7) (N := 19) (ci := 9) (k := 0) (index := 9) (i := 132) (r := 133) inGX7 rfl (by decide) fl_X7_9 (by decide) rfl rfl dX7_addTurn_170 ?_
                refine lv_iload hx hcd dX7_addTurn_173 (lv_at hl 0 rfl) ?_
                refine lv_bipush (v := 6) hx hcd dX7_addTurn_175 (by decide) ?_
                refine lv_iadd hx hcd dX7_addTurn_177 ?_
                refine lv_iconst (v := (-1)) hx hcd dX7_addTurn_178 (by decide) ?_
                obtain ⟨i138, ho⟩ := gd_some ho
                obtain ⟨σ139, eσ139, ho⟩ := lt_ex ho
                refine g_iast hC hW (i := 133) (by decide) rfl i138 dX7_addTurn_179 (fun H locs hW => ?_)
                rw [← eσ139] at hW
                refine lv_aload_n hx hcd dX7_addTurn_180 rfl (lv_at hl 2 rfl) ?_
                refine g_getr hC hW (C := RX7) (T := TX7) (N := 19) (ci := 9) (k := 0) (index := 9) (i := 132) (r := 133) inGX7 rfl (by decide) fl_X7_9 (by decide) rfl rfl dX7_addTurn_181 ?_
                refine lv_iconst (v := 1) hx hcd dX7_addTurn_184 (by decide) ?_
                refine lv_dup2_11 hx hcd dX7_addTurn_185 rfl rfl ?_
                refine g_iald hC hW (i := 133) (by decide) rfl (by decide) dX7_addTurn_186 ?_
                refine lv_iconst (v := 1) hx hcd dX7_addTurn_187 (by decide) ?_
                refine lv_iadd hx hcd dX7_addTurn_188 ?_
                obtain ⟨σ140, eσ140, ho⟩ := lt_ex ho
                refine g_iast hC hW (i := 133) (by decide) rfl (by decide) dX7_addTurn_189 (fun H locs hW => ?_)
                rw [← eσ140] at hW
                refine lv_aload_n hx hcd dX7_addTurn_190 rfl (lv_at hl 2 rfl) ?_
                refine g_getr hC hW (C := RX7) (T := TX7) (N := 19) (ci := 9) (k := 0) (index := 9) (i := 132) (r := 133) inGX7 rfl (by decide) fl_X7_9 (by decide) rfl rfl dX7_addTurn_191 ?_
                refine lv_iconst (v := 1) hx hcd dX7_addTurn_194 (by decide) ?_
                refine g_iald hC hW (i := 133) (by decide) rfl (by decide) dX7_addTurn_195 ?_
                refine lv_iconst (v := 1) hx hcd dX7_addTurn_196 (by decide) ?_
                refine lv_isub hx hcd dX7_addTurn_197 ?_
                obtain rfl := Option.some.inj ho
                exact g_iret hC hr hlk hsz hW dX7_addTurn_198
              · have ho := gif_n ho c121
                refine lv_iconst (v := 0) hx hcd dX7_addTurn_93 (by decide) ?_
                obtain rfl := Option.some.inj ho
                exact g_iret hC hr hlk hsz hW dX7_addTurn_94
          · have ho := gif_n ho c97
            refine lv_iconst (v := 1) hx hcd dX7_addTurn_63 (by decide) ?_
            refine lv_goto (tgt := 83) hx hcd dX7_addTurn_64 (by decide) ?_
            obtain ⟨σ141, eσ141, ho⟩ := lt_ex ho
            refine g_puti hC hW (C := RX7) (T := TX7) (N := 19) (ci := 9) (k := 8) (index := 48) (i := 132) inGX7 tyX7 tyX7_ok nmX7 rfl (by decide) fl_X7_48 rfl (by decide) rfl rfl rfl rfl dX7_addTurn_83 (fun H locs hW => ?_)
            rw [← eσ141] at hW
            refine lv_aload_n hx hcd dX7_addTurn_86 rfl (lv_at hl 1 rfl) ?_
            refine g_geti hC hW (C := RX7) (T := TX7) (N := 19) (ci := 9) (k := 8) (index := 48) (i := 132) inGX7 rfl (by decide) fl_X7_48 (by decide) rfl rfl dX7_addTurn_87 ?_
            refine lv_if_le (tgt := 95) hx hcd dX7_addTurn_90 (by decide) (fun c142 => ?_) (fun c142 => ?_)
            · have ho := gif_p ho c142
              refine lv_aload_n hx hcd dX7_addTurn_95 rfl (lv_at hl 1 rfl) ?_
              obtain ⟨σ144, h143, ho⟩ := gb_some ho
              refine g_callv hW (g_runV (As := []) (rest := []) (i := 132) hC hW (c_X7_changes l D y ad _ _ h143) ok_X7_70 ⟨rfl, rfl, Nat.le_of_ble_eq_true rfl, Nat.le_of_ble_eq_true rfl⟩ (by decide) rfl rfl rfl rfl hl.1 rfl (Nat.le_of_ble_eq_true rfl) dX7_addTurn_96 ⟨Nat.zero_le _, Nat.zero_le _⟩) (fun H locs hW => ?_)
              refine lv_aload_n hx hcd dX7_addTurn_99 rfl (lv_at hl 1 rfl) ?_
              refine g_getr hC hW (C := RX7) (T := TX7) (N := 19) (ci := 9) (k := 0) (index := 9) (i := 132) (r := 133) inGX7 rfl (by decide) fl_X7_9 (by decide) rfl rfl dX7_addTurn_100 ?_
              refine lv_iconst (v := 1) hx hcd dX7_addTurn_103 (by decide) ?_
              refine g_iald hC hW (i := 133) (by decide) rfl (by decide) dX7_addTurn_104 ?_
              obtain ⟨r146, h145, ho⟩ := gb_some ho
              refine g_calli hW (g_runS (As := [.int (σ144 133 (1 : Int32).toNatClampNeg)]) (rest := []) hC hW (c_X7_at l D y ad (σ144 133 (1 : Int32).toNatClampNeg) _ _ h145) ok_X7_81 ⟨rfl, rfl, Nat.le_of_ble_eq_true rfl, Nat.le_of_ble_eq_true rfl⟩ rfl hl.1 rfl (Nat.le_of_ble_eq_true rfl) dX7_addTurn_105 ⟨Nat.zero_le _, Nat.zero_le _⟩) (fun H locs hW => ?_)
              refine lv_istore (lv' := [(6, .int r146), (5, .int 1), (0, .ref (ad 132)), (1, .int x1), (2, .int x2), (3, .int x3), (4, .int x4)]) hx hcd dX7_addTurn_108 hl (by decide) rfl (fun ls hl => ?_)
              refine lv_aload_n hx hcd dX7_addTurn_110 rfl (lv_at hl 2 rfl) ?_
              refine g_getr hC hW (C := RX7) (T := TX7) (N := 19) (ci := 9) (k := 0) (index := 9) (i := 132) (r := 133) inGX7 rfl (by decide) fl_X7_9 (by decide) rfl rfl dX7_addTurn_111 ?_
              refine lv_iload hx hcd dX7_addTurn_114 (lv_at hl 0 rfl) ?_
              refine lv_iload_n hx hcd dX7_addTurn_116 rfl (lv_at hl 3 rfl) ?_
              obtain ⟨i147, ho⟩ := gd_some ho
              obtain ⟨σ148, eσ148, ho⟩ := lt_ex ho
              refine g_iast hC hW (i := 133) (by decide) rfl i147 dX7_addTurn_117 (fun H locs hW => ?_)
              rw [← eσ148] at hW
              refine lv_aload_n hx hcd dX7_addTurn_118 rfl (lv_at hl 2 rfl) ?_
              refine g_getr hC hW (C := RX7) (T := TX7) (N := 19) (ci := 9) (k := 0) (index := 9) (i := 132) (r := 133) inGX7 rfl (by decide) fl_X7_9 (by decide) rfl rfl dX7_addTurn_119 ?_
              refine lv_iload hx hcd dX7_addTurn_122 (lv_at hl 0 rfl) ?_
              refine lv_iconst (v := 1) hx hcd dX7_addTurn_124 (by decide) ?_
              refine lv_iadd hx hcd dX7_addTurn_125 ?_
              refine lv_iload_n hx hcd dX7_addTurn_126 rfl (lv_at hl 4 rfl) ?_
              obtain ⟨i149, ho⟩ := gd_some ho
              obtain ⟨σ150, eσ150, ho⟩ := lt_ex ho
              refine g_iast hC hW (i := 133) (by decide) rfl i149 dX7_addTurn_127 (fun H locs hW => ?_)
              rw [← eσ150] at hW
              refine lv_aload_n hx hcd dX7_addTurn_128 rfl (lv_at hl 2 rfl) ?_
              refine g_getr hC hW (C := RX7) (T := TX7) (N := 19) (ci := 9) (k := 0) (index := 9) (i := 132) (r := 133) inGX7 rfl (by decide) fl_X7_9 (by decide) rfl rfl dX7_addTurn_129 ?_
              refine lv_iload hx hcd dX7_addTurn_132 (lv_at hl 0 rfl) ?_
              refine lv_iconst (v := 2) hx hcd dX7_addTurn_134 (by decide) ?_
              refine lv_iadd hx hcd dX7_addTurn_135 ?_
              refine lv_iload_n hx hcd dX7_addTurn_136 rfl (lv_at hl 5 rfl) ?_
              obtain ⟨i151, ho⟩ := gd_some ho
              obtain ⟨σ152, eσ152, ho⟩ := lt_ex ho
              refine g_iast hC hW (i := 133) (by decide) rfl i151 dX7_addTurn_137 (fun H locs hW => ?_)
              rw [← eσ152] at hW
              refine lv_aload_n hx hcd dX7_addTurn_138 rfl (lv_at hl 2 rfl) ?_
              refine g_getr hC hW (C := RX7) (T := TX7) (N := 19) (ci := 9) (k := 0) (index := 9) (i := 132) (r := 133) inGX7 rfl (by decide) fl_X7_9 (by decide) rfl rfl dX7_addTurn_139 ?_
              refine lv_iload hx hcd dX7_addTurn_142 (lv_at hl 0 rfl) ?_
              refine lv_iconst (v := 3) hx hcd dX7_addTurn_144 (by decide) ?_
              refine lv_iadd hx hcd dX7_addTurn_145 ?_
              refine lv_iload hx hcd dX7_addTurn_146 (lv_at hl 6 rfl) ?_
              obtain ⟨i153, ho⟩ := gd_some ho
              obtain ⟨σ154, eσ154, ho⟩ := lt_ex ho
              refine g_iast hC hW (i := 133) (by decide) rfl i153 dX7_addTurn_148 (fun H locs hW => ?_)
              rw [← eσ154] at hW
              refine lv_aload_n hx hcd dX7_addTurn_149 rfl (lv_at hl 2 rfl) ?_
              refine g_getr hC hW (C := RX7) (T := TX7) (N := 19) (ci := 9) (k := 0) (index := 9) (i := 132) (r := 133) inGX7 rfl (by decide) fl_X7_9 (by decide) rfl rfl dX7_addTurn_150 ?_
              refine lv_iload hx hcd dX7_addTurn_153 (lv_at hl 0 rfl) ?_
              refine lv_iconst (v := 4) hx hcd dX7_addTurn_155 (by decide) ?_
              refine lv_iadd hx hcd dX7_addTurn_156 ?_
              refine lv_iconst (v := (-1)) hx hcd dX7_addTurn_157 (by decide) ?_
              obtain ⟨i155, ho⟩ := gd_some ho
              obtain ⟨σ156, eσ156, ho⟩ := lt_ex ho
              refine g_iast hC hW (i := 133) (by decide) rfl i155 dX7_addTurn_158 (fun H locs hW => ?_)
              rw [← eσ156] at hW
              refine lv_aload_n hx hcd dX7_addTurn_159 rfl (lv_at hl 2 rfl) ?_
              refine g_getr hC hW (C := RX7) (T := TX7) (N := 19) (ci := 9) (k := 0) (index := 9) (i := 132) (r := 133) inGX7 rfl (by decide) fl_X7_9 (by decide) rfl rfl dX7_addTurn_160 ?_
              refine lv_iload hx hcd dX7_addTurn_163 (lv_at hl 0 rfl) ?_
              refine lv_iconst (v := 5) hx hcd dX7_addTurn_165 (by decide) ?_
              refine lv_iadd hx hcd dX7_addTurn_166 ?_
              refine lv_iconst (v := (-1)) hx hcd dX7_addTurn_167 (by decide) ?_
              obtain ⟨i157, ho⟩ := gd_some ho
              obtain ⟨σ158, eσ158, ho⟩ := lt_ex ho
              refine g_iast hC hW (i := 133) (by decide) rfl i157 dX7_addTurn_168 (fun H locs hW => ?_)
              rw [← eσ158] at hW
              refine lv_aload_n hx hcd dX7_addTurn_169 rfl (lv_at hl 2 rfl) ?_
              refine g_getr hC hW (C := RX7) (T := TX7) (N := 19) (ci := 9) (k := 0) (index := 9) (i := 132) (r := 133) inGX7 rfl (by decide) fl_X7_9 (by decide) rfl rfl dX7_addTurn_170 ?_
              refine lv_iload hx hcd dX7_addTurn_173 (lv_at hl 0 rfl) ?_
              refine lv_bipush (v := 6) hx hcd dX7_addTurn_175 (by decide) ?_
              refine lv_iadd hx hcd dX7_addTurn_177 ?_
              refine lv_iconst (v := (-1)) hx hcd dX7_addTurn_178 (by decide) ?_
              obtain ⟨i159, ho⟩ := gd_some ho
              obtain ⟨σ160, eσ160, ho⟩ := lt_ex ho
              refine g_iast hC hW (i := 133) (by decide) rfl i159 dX7_addTurn_179 (fun H locs hW => ?_)
              rw [← eσ160] at hW
              refine lv_aload_n hx hcd dX7_addTurn_180 rfl (lv_at hl 2 rfl) ?_
              refine g_getr hC hW (C := RX7) (T := TX7) (N := 19) (ci := 9) (k := 0) (index := 9) (i := 132) (r := 133) inGX7 rfl (by decide) fl_X7_9 (by decide) rfl rfl dX7_addTurn_181 ?_
              refine lv_iconst (v := 1) hx hcd dX7_addTurn_184 (by decide) ?_
              refine lv_dup2_11 hx hcd dX7_addTurn_185 rfl rfl ?_
              refine g_iald hC hW (i := 133) (by decide) rfl (by decide) dX7_addTurn_186 ?_
              refine lv_iconst (v := 1) hx hcd dX7_addTurn_187 (by decide) ?_
              refine lv_iadd hx hcd dX7_addTurn_188 ?_
              obtain ⟨σ161, eσ161, ho⟩ := lt_ex ho
              refine g_iast hC hW (i := 133) (by decide) rfl (by decide) dX7_addTurn_189 (fun H locs hW => ?_)
              rw [← eσ161] at hW
              refine lv_aload_n hx hcd dX7_addTurn_190 rfl (lv_at hl 2 rfl) ?_
              refine g_getr hC hW (C := RX7) (T := TX7) (N := 19) (ci := 9) (k := 0) (index := 9) (i := 132) (r := 133) inGX7 rfl (by decide) fl_X7_9 (by decide) rfl rfl dX7_addTurn_191 ?_
              refine lv_iconst (v := 1) hx hcd dX7_addTurn_194 (by decide) ?_
              refine g_iald hC hW (i := 133) (by decide) rfl (by decide) dX7_addTurn_195 ?_
              refine lv_iconst (v := 1) hx hcd dX7_addTurn_196 (by decide) ?_
              refine lv_isub hx hcd dX7_addTurn_197 ?_
              obtain rfl := Option.some.inj ho
              exact g_iret hC hr hlk hsz hW dX7_addTurn_198
            · have ho := gif_n ho c142
              refine lv_iconst (v := 0) hx hcd dX7_addTurn_93 (by decide) ?_
              obtain rfl := Option.some.inj ho
              exact g_iret hC hr hlk hsz hW dX7_addTurn_94
noncomputable def X7_turn (σ : gS) (x1 : Int32) (x2 : Int32) : Option (Int32 × gS) :=
  (X7_isTurn σ x1).bind fun r2 => if r2 = 0 then (lt_ (g_up σ 132 8 1) fun σ23 => if (σ23 132 8) ≤ 0 then (if x2 = 5 then ((X7_costOfTurn σ23 x1).bind fun r30 => some (r30, σ23)) else ((X7_at σ23 x1).bind fun r27 => gd (ib (r27 + x2) 162) <| some ((σ23 133 (r27 + x2).toNatClampNeg), σ23))) else (some (0, σ23))) else ((X7_in σ x2 0 5).bind fun r5 => if r5 = 0 then (lt_ (g_up σ 132 8 2) fun σ15 => if (σ15 132 8) ≤ 0 then (if x2 = 5 then ((X7_costOfTurn σ15 x1).bind fun r22 => some (r22, σ15)) else ((X7_at σ15 x1).bind fun r19 => gd (ib (r19 + x2) 162) <| some ((σ15 133 (r19 + x2).toNatClampNeg), σ15))) else (some (0, σ15))) else (lt_ (g_up σ 132 8 0) fun σ7 => if (σ7 132 8) ≤ 0 then (if x2 = 5 then ((X7_costOfTurn σ7 x1).bind fun r14 => some (r14, σ7)) else ((X7_at σ7 x1).bind fun r11 => gd (ib (r11 + x2) 162) <| some ((σ7 133 (r11 + x2).toNatClampNeg), σ7))) else (some (0, σ7))))
set_option maxHeartbeats 4000000 in
set_option maxRecDepth 100000 in
theorem c_X7_turn (l : Launch) (D : va_G) (y : ClassId × ClassId × ClassId) (ad : Nat → Nat) (x1 : Int32) (x2 : Int32) (σ : gS) (sz : Nat) {q : Int32 × gS} (h : X7_turn σ x1 x2 = some q) : Met l yX7_turn (Cond.code yX7_turn cX7_turn 3 (some .int) :: gl) ({ frames := 4, cells := 0, slots := 0, locals := 85 }) (g_Pc D y ad σ sz [.ref (ad 132), .int x1, .int x2]) (g_Qi D y ad q.2 sz q.1) 0 0 (g_A ad sz) := by
  have ho := h
  unfold X7_turn at ho
  refine g_start (by decide) (Nat.le_of_ble_eq_true rfl) (fun p e s m below meth c ls hC hr hlk hsz hW hl => ?_)
  have hx := hC.1
  have hcd := hC.2.1
  have hl : lv_has ls 3 [(0, .ref (ad 132)), (1, .int x1), (2, .int x2)] := hl
  refine lv_aload_n hx hcd dX7_turn_0 rfl (lv_at hl 0 rfl) ?_
  refine lv_aload_n hx hcd dX7_turn_1 rfl (lv_at hl 0 rfl) ?_
  refine lv_iload_n hx hcd dX7_turn_2 rfl (lv_at hl 1 rfl) ?_
  obtain ⟨r2, h1, ho⟩ := gb_some ho
  refine g_calli hW (g_runV (As := [.int x1]) (rest := [.ref (ad 132)]) (i := 132) hC hW (c_X7_isTurn l D y ad x1 _ _ h1) ok_X7_85 ⟨rfl, rfl, Nat.le_of_ble_eq_true rfl, Nat.le_of_ble_eq_true rfl⟩ (by decide) rfl rfl rfl rfl hl.1 rfl (Nat.le_of_ble_eq_true rfl) dX7_turn_3 ⟨Nat.zero_le _, Nat.zero_le _⟩) (fun H locs hW => ?_)
  refine lv_if_ne (tgt := 13) hx hcd dX7_turn_6 (by decide) (fun c3 => ?_) (fun c3 => ?_)
  · have ho := gif_n ho c3
    refine lv_iload_n hx hcd dX7_turn_13 rfl (lv_at hl 2 rfl) ?_
    refine lv_iconst (v := 0) hx hcd dX7_turn_14 (by decide) ?_
    refine lv_iconst (v := 5) hx hcd dX7_turn_15 (by decide) ?_
    obtain ⟨r5, h4, ho⟩ := gb_some ho
    refine g_calli hW (g_runS (As := [.int x2, .int 0, .int 5]) (rest := [.ref (ad 132)]) hC hW (c_X7_in l D y ad x2 0 5 _ _ h4) ok_X7_51 ⟨rfl, rfl, Nat.le_of_ble_eq_true rfl, Nat.le_of_ble_eq_true rfl⟩ rfl hl.1 rfl (Nat.le_of_ble_eq_true rfl) dX7_turn_16 ⟨Nat.zero_le _, Nat.zero_le _⟩) (fun H locs hW => ?_)
    refine lv_if_ne (tgt := 26) hx hcd dX7_turn_19 (by decide) (fun c6 => ?_) (fun c6 => ?_)
    · have ho := gif_n ho c6
      refine lv_iconst (v := 0) hx hcd dX7_turn_26 (by decide) ?_
      obtain ⟨σ7, eσ7, ho⟩ := lt_ex ho
      refine g_puti hC hW (C := RX7) (T := TX7) (N := 19) (ci := 9) (k := 8) (index := 48) (i := 132) inGX7 tyX7 tyX7_ok nmX7 rfl (by decide) fl_X7_48 rfl (by decide) rfl rfl rfl rfl dX7_turn_27 (fun H locs hW => ?_)
      rw [← eσ7] at hW
      refine lv_aload_n hx hcd dX7_turn_30 rfl (lv_at hl 0 rfl) ?_
      refine g_geti hC hW (C := RX7) (T := TX7) (N := 19) (ci := 9) (k := 8) (index := 48) (i := 132) inGX7 rfl (by decide) fl_X7_48 (by decide) rfl rfl dX7_turn_31 ?_
      refine lv_if_le (tgt := 41) hx hcd dX7_turn_34 (by decide) (fun c8 => ?_) (fun c8 => ?_)
      · have ho := gif_p ho c8
        refine lv_iload_n hx hcd dX7_turn_41 rfl (lv_at hl 2 rfl) ?_
        refine lv_iconst (v := 5) hx hcd dX7_turn_42 (by decide) ?_
        refine lv_icmp_ne (tgt := 54) hx hcd dX7_turn_43 (by decide) (fun c9 => ?_) (fun c9 => ?_)
        · have ho := gif_n ho c9
          refine lv_aload_n hx hcd dX7_turn_54 rfl (lv_at hl 0 rfl) ?_
          refine g_getr hC hW (C := RX7) (T := TX7) (N := 19) (ci := 9) (k := 0) (index := 9) (i := 132) (r := 133) inGX7 rfl (by decide) fl_X7_9 (by decide) rfl rfl dX7_turn_55 ?_
          refine lv_iload_n hx hcd dX7_turn_58 rfl (lv_at hl 1 rfl) ?_
          obtain ⟨r11, h10, ho⟩ := gb_some ho
          refine g_calli hW (g_runS (As := [.int x1]) (rest := [.ref (ad 133)]) hC hW (c_X7_at l D y ad x1 _ _ h10) ok_X7_81 ⟨rfl, rfl, Nat.le_of_ble_eq_true rfl, Nat.le_of_ble_eq_true rfl⟩ rfl hl.1 rfl (Nat.le_of_ble_eq_true rfl) dX7_turn_59 ⟨Nat.zero_le _, Nat.zero_le _⟩) (fun H locs hW => ?_)
          refine lv_iload_n hx hcd dX7_turn_62 rfl (lv_at hl 2 rfl) ?_
          refine lv_iadd hx hcd dX7_turn_63 ?_
          obtain ⟨i12, ho⟩ := gd_some ho
          refine g_iald hC hW (i := 133) (by decide) rfl i12 dX7_turn_64 ?_
          obtain rfl := Option.some.inj ho
          exact g_iret hC hr hlk hsz hW dX7_turn_65
        · have ho := gif_p ho c9
          refine lv_aload_n hx hcd dX7_turn_46 rfl (lv_at hl 0 rfl) ?_
          refine lv_iload_n hx hcd dX7_turn_47 rfl (lv_at hl 1 rfl) ?_
          obtain ⟨r14, h13, ho⟩ := gb_some ho
          refine g_calli hW (g_runV (As := [.int x1]) (rest := []) (i := 132) hC hW (c_X7_costOfTurn l D y ad x1 _ _ h13) ok_X7_116 ⟨rfl, rfl, Nat.le_of_ble_eq_true rfl, Nat.le_of_ble_eq_true rfl⟩ (by decide) rfl rfl rfl rfl hl.1 rfl (Nat.le_of_ble_eq_true rfl) dX7_turn_48 ⟨Nat.zero_le _, Nat.zero_le _⟩) (fun H locs hW => ?_)
          refine lv_goto (tgt := 65) hx hcd dX7_turn_51 (by decide) ?_
          obtain rfl := Option.some.inj ho
          exact g_iret hC hr hlk hsz hW dX7_turn_65
      · have ho := gif_n ho c8
        refine lv_iconst (v := 0) hx hcd dX7_turn_37 (by decide) ?_
        refine lv_goto (tgt := 65) hx hcd dX7_turn_38 (by decide) ?_
        obtain rfl := Option.some.inj ho
        exact g_iret hC hr hlk hsz hW dX7_turn_65
    · have ho := gif_p ho c6
      refine lv_iconst (v := 2) hx hcd dX7_turn_22 (by decide) ?_
      refine lv_goto (tgt := 27) hx hcd dX7_turn_23 (by decide) ?_
      obtain ⟨σ15, eσ15, ho⟩ := lt_ex ho
      refine g_puti hC hW (C := RX7) (T := TX7) (N := 19) (ci := 9) (k := 8) (index := 48) (i := 132) inGX7 tyX7 tyX7_ok nmX7 rfl (by decide) fl_X7_48 rfl (by decide) rfl rfl rfl rfl dX7_turn_27 (fun H locs hW => ?_)
      rw [← eσ15] at hW
      refine lv_aload_n hx hcd dX7_turn_30 rfl (lv_at hl 0 rfl) ?_
      refine g_geti hC hW (C := RX7) (T := TX7) (N := 19) (ci := 9) (k := 8) (index := 48) (i := 132) inGX7 rfl (by decide) fl_X7_48 (by decide) rfl rfl dX7_turn_31 ?_
      refine lv_if_le (tgt := 41) hx hcd dX7_turn_34 (by decide) (fun c16 => ?_) (fun c16 => ?_)
      · have ho := gif_p ho c16
        refine lv_iload_n hx hcd dX7_turn_41 rfl (lv_at hl 2 rfl) ?_
        refine lv_iconst (v := 5) hx hcd dX7_turn_42 (by decide) ?_
        refine lv_icmp_ne (tgt := 54) hx hcd dX7_turn_43 (by decide) (fun c17 => ?_) (fun c17 => ?_)
        · have ho := gif_n ho c17
          refine lv_aload_n hx hcd dX7_turn_54 rfl (lv_at hl 0 rfl) ?_
          refine g_getr hC hW (C := RX7) (T := TX7) (N := 19) (ci := 9) (k := 0) (index := 9) (i := 132) (r := 133) inGX7 rfl (by decide) fl_X7_9 (by decide) rfl rfl dX7_turn_55 ?_
          refine lv_iload_n hx hcd dX7_turn_58 rfl (lv_at hl 1 rfl) ?_
          obtain ⟨r19, h18, ho⟩ := gb_some ho
          refine g_calli hW (g_runS (As := [.int x1]) (rest := [.ref (ad 133)]) hC hW (c_X7_at l D y ad x1 _ _ h18) ok_X7_81 ⟨rfl, rfl, Nat.le_of_ble_eq_true rfl, Nat.le_of_ble_eq_true rfl⟩ rfl hl.1 rfl (Nat.le_of_ble_eq_true rfl) dX7_turn_59 ⟨Nat.zero_le _, Nat.zero_le _⟩) (fun H locs hW => ?_)
          refine lv_iload_n hx hcd dX7_turn_62 rfl (lv_at hl 2 rfl) ?_
          refine lv_iadd hx hcd dX7_turn_63 ?_
          obtain ⟨i20, ho⟩ := gd_some ho
          refine g_iald hC hW (i := 133) (by decide) rfl i20 dX7_turn_64 ?_
          obtain rfl := Option.some.inj ho
          exact g_iret hC hr hlk hsz hW dX7_turn_65
        · have ho := gif_p ho c17
          refine lv_aload_n hx hcd dX7_turn_46 rfl (lv_at hl 0 rfl) ?_
          refine lv_iload_n hx hcd dX7_turn_47 rfl (lv_at hl 1 rfl) ?_
          obtain ⟨r22, h21, ho⟩ := gb_some ho
          refine g_calli hW (g_runV (As := [.int x1]) (rest := []) (i := 132) hC hW (c_X7_costOfTurn l D y ad x1 _ _ h21) ok_X7_116 ⟨rfl, rfl, Nat.le_of_ble_eq_true rfl, Nat.le_of_ble_eq_true rfl⟩ (by decide) rfl rfl rfl rfl hl.1 rfl (Nat.le_of_ble_eq_true rfl) dX7_turn_48 ⟨Nat.zero_le _, Nat.zero_le _⟩) (fun H locs hW => ?_)
          refine lv_goto (tgt := 65) hx hcd dX7_turn_51 (by decide) ?_
          obtain rfl := Option.some.inj ho
          exact g_iret hC hr hlk hsz hW dX7_turn_65
      · have ho := gif_n ho c16
        refine lv_iconst (v := 0) hx hcd dX7_turn_37 (by decide) ?_
        refine lv_goto (tgt := 65) hx hcd dX7_turn_38 (by decide) ?_
        obtain rfl := Option.some.inj ho
        exact g_iret hC hr hlk hsz hW dX7_turn_65
  · have ho := gif_p ho c3
    refine lv_iconst (v := 1) hx hcd dX7_turn_9 (by decide) ?_
    refine lv_goto (tgt := 27) hx hcd dX7_turn_10 (by decide) ?_
    obtain ⟨σ23, eσ23, ho⟩ := lt_ex ho
    refine g_puti hC hW (C := RX7) (T := TX7) (N := 19) (ci := 9) (k := 8) (index := 48) (i := 132) inGX7 tyX7 tyX7_ok nmX7 rfl (by decide) fl_X7_48 rfl (by decide) rfl rfl rfl rfl dX7_turn_27 (fun H locs hW => ?_)
    rw [← eσ23] at hW
    refine lv_aload_n hx hcd dX7_turn_30 rfl (lv_at hl 0 rfl) ?_
    refine g_geti hC hW (C := RX7) (T := TX7) (N := 19) (ci := 9) (k := 8) (index := 48) (i := 132) inGX7 rfl (by decide) fl_X7_48 (by decide) rfl rfl dX7_turn_31 ?_
    refine lv_if_le (tgt := 41) hx hcd dX7_turn_34 (by decide) (fun c24 => ?_) (fun c24 => ?_)
    · have ho := gif_p ho c24
      refine lv_iload_n hx hcd dX7_turn_41 rfl (lv_at hl 2 rfl) ?_
      refine lv_iconst (v := 5) hx hcd dX7_turn_42 (by decide) ?_
      refine lv_icmp_ne (tgt := 54) hx hcd dX7_turn_43 (by decide) (fun c25 => ?_) (fun c25 => ?_)
      · have ho := gif_n ho c25
        refine lv_aload_n hx hcd dX7_turn_54 rfl (lv_at hl 0 rfl) ?_
        refine g_getr hC hW (C := RX7) (T := TX7) (N := 19) (ci := 9) (k := 0) (index := 9) (i := 132) (r := 133) inGX7 rfl (by decide) fl_X7_9 (by decide) rfl rfl dX7_turn_55 ?_
        refine lv_iload_n hx hcd dX7_turn_58 rfl (lv_at hl 1 rfl) ?_
        obtain ⟨r27, h26, ho⟩ := gb_some ho
        refine g_calli hW (g_runS (As := [.int x1]) (rest := [.ref (ad 133)]) hC hW (c_X7_at l D y ad x1 _ _ h26) ok_X7_81 ⟨rfl, rfl, Nat.le_of_ble_eq_true rfl, Nat.le_of_ble_eq_true rfl⟩ rfl hl.1 rfl (Nat.le_of_ble_eq_true rfl) dX7_turn_59 ⟨Nat.zero_le _, Nat.zero_le _⟩) (fun H locs hW => ?_)
        refine lv_iload_n hx hcd dX7_turn_62 rfl (lv_at hl 2 rfl) ?_
        refine lv_iadd hx hcd dX7_turn_63 ?_
        obtain ⟨i28, ho⟩ := gd_some ho
        refine g_iald hC hW (i := 133) (by decide) rfl i28 dX7_turn_64 ?_
        obtain rfl := Option.some.inj ho
        exact g_iret hC hr hlk hsz hW dX7_turn_65
      · have ho := gif_p ho c25
        refine lv_aload_n hx hcd dX7_turn_46 rfl (lv_at hl 0 rfl) ?_
        refine lv_iload_n hx hcd dX7_turn_47 rfl (lv_at hl 1 rfl) ?_
        obtain ⟨r30, h29, ho⟩ := gb_some ho
        refine g_calli hW (g_runV (As := [.int x1]) (rest := []) (i := 132) hC hW (c_X7_costOfTurn l D y ad x1 _ _ h29) ok_X7_116 ⟨rfl, rfl, Nat.le_of_ble_eq_true rfl, Nat.le_of_ble_eq_true rfl⟩ (by decide) rfl rfl rfl rfl hl.1 rfl (Nat.le_of_ble_eq_true rfl) dX7_turn_48 ⟨Nat.zero_le _, Nat.zero_le _⟩) (fun H locs hW => ?_)
        refine lv_goto (tgt := 65) hx hcd dX7_turn_51 (by decide) ?_
        obtain rfl := Option.some.inj ho
        exact g_iret hC hr hlk hsz hW dX7_turn_65
    · have ho := gif_n ho c24
      refine lv_iconst (v := 0) hx hcd dX7_turn_37 (by decide) ?_
      refine lv_goto (tgt := 65) hx hcd dX7_turn_38 (by decide) ?_
      obtain rfl := Option.some.inj ho
      exact g_iret hC hr hlk hsz hW dX7_turn_65
noncomputable def X7_ofStay (σ : gS) (x1 : Int32) (x2 : Int32) (x3 : Int32) : Option (Int32 × gS) :=
  (X7_isStay_ σ x1 x2).bind fun r2 => if r2 = 0 then (lt_ (g_up σ 132 8 1) fun σ47 => if (σ47 132 8) ≤ 0 then (if x3 = 0 then ((X7_from σ47 (((2 : Int32) * x1) + x2)).bind fun r51 => some (r51, σ47)) else (if x3 = 1 then ((X7_to σ47 (((2 : Int32) * x1) + x2)).bind fun r54 => some (r54, σ47)) else (if x3 = 2 then ((X7_on σ47 (((2 : Int32) * x1) + x2)).bind fun r57 => some (r57, σ47)) else (if x3 = 3 then ((X7_costOf σ47 (((2 : Int32) * x1) + x2)).bind fun r60 => some (r60, σ47)) else (if x3 = 4 then ((X7_conflictsOf σ47 (((2 : Int32) * x1) + x2)).bind fun r63 => some (r63, σ47)) else ((X7_isHindered σ47 (((2 : Int32) * x1) + x2)).bind fun r65 => if r65 = 0 then (some (0, σ47)) else (some (1, σ47)))))))) else (some (0, σ47))) else ((X7_in σ x3 0 5).bind fun r5 => if r5 = 0 then (lt_ (g_up σ 132 8 2) fun σ27 => if (σ27 132 8) ≤ 0 then (if x3 = 0 then ((X7_from σ27 (((2 : Int32) * x1) + x2)).bind fun r31 => some (r31, σ27)) else (if x3 = 1 then ((X7_to σ27 (((2 : Int32) * x1) + x2)).bind fun r34 => some (r34, σ27)) else (if x3 = 2 then ((X7_on σ27 (((2 : Int32) * x1) + x2)).bind fun r37 => some (r37, σ27)) else (if x3 = 3 then ((X7_costOf σ27 (((2 : Int32) * x1) + x2)).bind fun r40 => some (r40, σ27)) else (if x3 = 4 then ((X7_conflictsOf σ27 (((2 : Int32) * x1) + x2)).bind fun r43 => some (r43, σ27)) else ((X7_isHindered σ27 (((2 : Int32) * x1) + x2)).bind fun r45 => if r45 = 0 then (some (0, σ27)) else (some (1, σ27)))))))) else (some (0, σ27))) else (lt_ (g_up σ 132 8 0) fun σ7 => if (σ7 132 8) ≤ 0 then (if x3 = 0 then ((X7_from σ7 (((2 : Int32) * x1) + x2)).bind fun r11 => some (r11, σ7)) else (if x3 = 1 then ((X7_to σ7 (((2 : Int32) * x1) + x2)).bind fun r14 => some (r14, σ7)) else (if x3 = 2 then ((X7_on σ7 (((2 : Int32) * x1) + x2)).bind fun r17 => some (r17, σ7)) else (if x3 = 3 then ((X7_costOf σ7 (((2 : Int32) * x1) + x2)).bind fun r20 => some (r20, σ7)) else (if x3 = 4 then ((X7_conflictsOf σ7 (((2 : Int32) * x1) + x2)).bind fun r23 => some (r23, σ7)) else ((X7_isHindered σ7 (((2 : Int32) * x1) + x2)).bind fun r25 => if r25 = 0 then (some (0, σ7)) else (some (1, σ7)))))))) else (some (0, σ7))))
set_option maxHeartbeats 4000000 in
set_option maxRecDepth 100000 in
theorem c_X7_ofStay (l : Launch) (D : va_G) (y : ClassId × ClassId × ClassId) (ad : Nat → Nat) (x1 : Int32) (x2 : Int32) (x3 : Int32) (σ : gS) (sz : Nat) {q : Int32 × gS} (h : X7_ofStay σ x1 x2 x3 = some q) : Met l yX7_ofStay (Cond.code yX7_ofStay cX7_ofStay 5 (some .int) :: gl) ({ frames := 6, cells := 0, slots := 0, locals := 131 }) (g_Pc D y ad σ sz [.ref (ad 132), .int x1, .int x2, .int x3]) (g_Qi D y ad q.2 sz q.1) 0 0 (g_A ad sz) := by
  have ho := h
  unfold X7_ofStay at ho
  refine g_start (by decide) (Nat.le_of_ble_eq_true rfl) (fun p e s m below meth c ls hC hr hlk hsz hW hl => ?_)
  have hx := hC.1
  have hcd := hC.2.1
  have hl : lv_has ls 5 [(0, .ref (ad 132)), (1, .int x1), (2, .int x2), (3, .int x3)] := hl
  refine lv_aload_n hx hcd dX7_ofStay_0 rfl (lv_at hl 0 rfl) ?_
  refine lv_aload_n hx hcd dX7_ofStay_1 rfl (lv_at hl 0 rfl) ?_
  refine lv_iload_n hx hcd dX7_ofStay_2 rfl (lv_at hl 1 rfl) ?_
  refine lv_iload_n hx hcd dX7_ofStay_3 rfl (lv_at hl 2 rfl) ?_
  obtain ⟨r2, h1, ho⟩ := gb_some ho
  refine g_calli hW (g_runV (As := [.int x1, .int x2]) (rest := [.ref (ad 132)]) (i := 132) hC hW (c_X7_isStay_ l D y ad x1 x2 _ _ h1) ok_X7_139 ⟨rfl, rfl, Nat.le_of_ble_eq_true rfl, Nat.le_of_ble_eq_true rfl⟩ (by decide) rfl rfl rfl rfl hl.1 rfl (Nat.le_of_ble_eq_true rfl) dX7_ofStay_4 ⟨Nat.zero_le _, Nat.zero_le _⟩) (fun H locs hW => ?_)
  refine lv_if_ne (tgt := 14) hx hcd dX7_ofStay_7 (by decide) (fun c3 => ?_) (fun c3 => ?_)
  · have ho := gif_n ho c3
    refine lv_iload_n hx hcd dX7_ofStay_14 rfl (lv_at hl 3 rfl) ?_
    refine lv_iconst (v := 0) hx hcd dX7_ofStay_15 (by decide) ?_
    refine lv_iconst (v := 5) hx hcd dX7_ofStay_16 (by decide) ?_
    obtain ⟨r5, h4, ho⟩ := gb_some ho
    refine g_calli hW (g_runS (As := [.int x3, .int 0, .int 5]) (rest := [.ref (ad 132)]) hC hW (c_X7_in l D y ad x3 0 5 _ _ h4) ok_X7_51 ⟨rfl, rfl, Nat.le_of_ble_eq_true rfl, Nat.le_of_ble_eq_true rfl⟩ rfl hl.1 rfl (Nat.le_of_ble_eq_true rfl) dX7_ofStay_17 ⟨Nat.zero_le _, Nat.zero_le _⟩) (fun H locs hW => ?_)
    refine lv_if_ne (tgt := 27) hx hcd dX7_ofStay_20 (by decide) (fun c6 => ?_) (fun c6 => ?_)
    · have ho := gif_n ho c6
      refine lv_iconst (v := 0) hx hcd dX7_ofStay_27 (by decide) ?_
      obtain ⟨σ7, eσ7, ho⟩ := lt_ex ho
      refine g_puti hC hW (C := RX7) (T := TX7) (N := 19) (ci := 9) (k := 8) (index := 48) (i := 132) inGX7 tyX7 tyX7_ok nmX7 rfl (by decide) fl_X7_48 rfl (by decide) rfl rfl rfl rfl dX7_ofStay_28 (fun H locs hW => ?_)
      rw [← eσ7] at hW
      refine lv_aload_n hx hcd dX7_ofStay_31 rfl (lv_at hl 0 rfl) ?_
      refine g_geti hC hW (C := RX7) (T := TX7) (N := 19) (ci := 9) (k := 8) (index := 48) (i := 132) inGX7 rfl (by decide) fl_X7_48 (by decide) rfl rfl dX7_ofStay_32 ?_
      refine lv_if_le (tgt := 40) hx hcd dX7_ofStay_35 (by decide) (fun c8 => ?_) (fun c8 => ?_)
      · have ho := gif_p ho c8
        refine lv_iconst (v := 2) hx hcd dX7_ofStay_40 (by decide) ?_
        refine lv_iload_n hx hcd dX7_ofStay_41 rfl (lv_at hl 1 rfl) ?_
        refine lv_imul hx hcd dX7_ofStay_42 ?_
        refine lv_iload_n hx hcd dX7_ofStay_43 rfl (lv_at hl 2 rfl) ?_
        refine lv_iadd hx hcd dX7_ofStay_44 ?_
        refine lv_istore (lv' := [(4, .int (((2 : Int32) * x1) + x2)), (0, .ref (ad 132)), (1, .int x1), (2, .int x2), (3, .int x3)]) hx hcd dX7_ofStay_45 hl (by decide) rfl (fun ls hl => ?_)
        refine lv_iload_n hx hcd dX7_ofStay_47 rfl (lv_at hl 4 rfl) ?_
        by_cases c9 : x3 = 0
        · have ho := gif_p ho c9
          refine lv_tableIn (tgt := 84) hx hcd dX7_ofStay_48 (by rw [c9]; decide) (by rw [c9]; decide) (by rw [c9]; rfl) (by decide) ?_
          refine lv_aload_n hx hcd dX7_ofStay_84 rfl (lv_at hl 1 rfl) ?_
          refine lv_iload hx hcd dX7_ofStay_85 (lv_at hl 0 rfl) ?_
          obtain ⟨r11, h10, ho⟩ := gb_some ho
          refine g_calli hW (g_runV (As := [.int (((2 : Int32) * x1) + x2)]) (rest := []) (i := 132) hC hW (c_X7_from l D y ad (((2 : Int32) * x1) + x2) _ _ h10) ok_X7_103 ⟨rfl, rfl, Nat.le_of_ble_eq_true rfl, Nat.le_of_ble_eq_true rfl⟩ (by decide) rfl rfl rfl rfl hl.1 rfl (Nat.le_of_ble_eq_true rfl) dX7_ofStay_87 ⟨Nat.zero_le _, Nat.zero_le _⟩) (fun H locs hW => ?_)
          obtain rfl := Option.some.inj ho
          exact g_iret hC hr hlk hsz hW dX7_ofStay_90
        have ho := gif_n ho c9
        by_cases c12 : x3 = 1
        · have ho := gif_p ho c12
          refine lv_tableIn (tgt := 91) hx hcd dX7_ofStay_48 (by rw [c12]; decide) (by rw [c12]; decide) (by rw [c12]; rfl) (by decide) ?_
          refine lv_aload_n hx hcd dX7_ofStay_91 rfl (lv_at hl 1 rfl) ?_
          refine lv_iload hx hcd dX7_ofStay_92 (lv_at hl 0 rfl) ?_
          obtain ⟨r14, h13, ho⟩ := gb_some ho
          refine g_calli hW (g_runV (As := [.int (((2 : Int32) * x1) + x2)]) (rest := []) (i := 132) hC hW (c_X7_to l D y ad (((2 : Int32) * x1) + x2) _ _ h13) ok_X7_106 ⟨rfl, rfl, Nat.le_of_ble_eq_true rfl, Nat.le_of_ble_eq_true rfl⟩ (by decide) rfl rfl rfl rfl hl.1 rfl (Nat.le_of_ble_eq_true rfl) dX7_ofStay_94 ⟨Nat.zero_le _, Nat.zero_le _⟩) (fun H locs hW => ?_)
          obtain rfl := Option.some.inj ho
          exact g_iret hC hr hlk hsz hW dX7_ofStay_97
        have ho := gif_n ho c12
        by_cases c15 : x3 = 2
        · have ho := gif_p ho c15
          refine lv_tableIn (tgt := 98) hx hcd dX7_ofStay_48 (by rw [c15]; decide) (by rw [c15]; decide) (by rw [c15]; rfl) (by decide) ?_
          refine lv_aload_n hx hcd dX7_ofStay_98 rfl (lv_at hl 1 rfl) ?_
          refine lv_iload hx hcd dX7_ofStay_99 (lv_at hl 0 rfl) ?_
          obtain ⟨r17, h16, ho⟩ := gb_some ho
          refine g_calli hW (g_runV (As := [.int (((2 : Int32) * x1) + x2)]) (rest := []) (i := 132) hC hW (c_X7_on l D y ad (((2 : Int32) * x1) + x2) _ _ h16) ok_X7_94 ⟨rfl, rfl, Nat.le_of_ble_eq_true rfl, Nat.le_of_ble_eq_true rfl⟩ (by decide) rfl rfl rfl rfl hl.1 rfl (Nat.le_of_ble_eq_true rfl) dX7_ofStay_101 ⟨Nat.zero_le _, Nat.zero_le _⟩) (fun H locs hW => ?_)
          obtain rfl := Option.some.inj ho
          exact g_iret hC hr hlk hsz hW dX7_ofStay_104
        have ho := gif_n ho c15
        by_cases c18 : x3 = 3
        · have ho := gif_p ho c18
          refine lv_tableIn (tgt := 105) hx hcd dX7_ofStay_48 (by rw [c18]; decide) (by rw [c18]; decide) (by rw [c18]; rfl) (by decide) ?_
          refine lv_aload_n hx hcd dX7_ofStay_105 rfl (lv_at hl 1 rfl) ?_
          refine lv_iload hx hcd dX7_ofStay_106 (lv_at hl 0 rfl) ?_
          obtain ⟨r20, h19, ho⟩ := gb_some ho
          refine g_calli hW (g_runV (As := [.int (((2 : Int32) * x1) + x2)]) (rest := []) (i := 132) hC hW (c_X7_costOf l D y ad (((2 : Int32) * x1) + x2) _ _ h19) ok_X7_119 ⟨rfl, rfl, Nat.le_of_ble_eq_true rfl, Nat.le_of_ble_eq_true rfl⟩ (by decide) rfl rfl rfl rfl hl.1 rfl (Nat.le_of_ble_eq_true rfl) dX7_ofStay_108 ⟨Nat.zero_le _, Nat.zero_le _⟩) (fun H locs hW => ?_)
          obtain rfl := Option.some.inj ho
          exact g_iret hC hr hlk hsz hW dX7_ofStay_111
        have ho := gif_n ho c18
        by_cases c21 : x3 = 4
        · have ho := gif_p ho c21
          refine lv_tableIn (tgt := 112) hx hcd dX7_ofStay_48 (by rw [c21]; decide) (by rw [c21]; decide) (by rw [c21]; rfl) (by decide) ?_
          refine lv_aload_n hx hcd dX7_ofStay_112 rfl (lv_at hl 1 rfl) ?_
          refine lv_iload hx hcd dX7_ofStay_113 (lv_at hl 0 rfl) ?_
          obtain ⟨r23, h22, ho⟩ := gb_some ho
          refine g_calli hW (g_runV (As := [.int (((2 : Int32) * x1) + x2)]) (rest := []) (i := 132) hC hW (c_X7_conflictsOf l D y ad (((2 : Int32) * x1) + x2) _ _ h22) ok_X7_128 ⟨rfl, rfl, Nat.le_of_ble_eq_true rfl, Nat.le_of_ble_eq_true rfl⟩ (by decide) rfl rfl rfl rfl hl.1 rfl (Nat.le_of_ble_eq_true rfl) dX7_ofStay_115 ⟨Nat.zero_le _, Nat.zero_le _⟩) (fun H locs hW => ?_)
          obtain rfl := Option.some.inj ho
          exact g_iret hC hr hlk hsz hW dX7_ofStay_118
        have ho := gif_n ho c21
        refine lv_tableOut (tgt := 119) hx hcd dX7_ofStay_48 (by have zc9 := lv_neT c9 (a := 0) rfl; have zc12 := lv_neT c12 (a := 1) rfl; have zc15 := lv_neT c15 (a := 2) rfl; have zc18 := lv_neT c18 (a := 3) rfl; have zc21 := lv_neT c21 (a := 4) rfl; omega) (by decide) ?_
        refine lv_aload_n hx hcd dX7_ofStay_119 rfl (lv_at hl 1 rfl) ?_
        refine lv_iload hx hcd dX7_ofStay_120 (lv_at hl 0 rfl) ?_
        obtain ⟨r25, h24, ho⟩ := gb_some ho
        refine g_calli hW (g_runV (As := [.int (((2 : Int32) * x1) + x2)]) (rest := []) (i := 132) hC hW (c_X7_isHindered l D y ad (((2 : Int32) * x1) + x2) _ _ h24) ok_X7_125 ⟨rfl, rfl, Nat.le_of_ble_eq_true rfl, Nat.le_of_ble_eq_true rfl⟩ (by decide) rfl rfl rfl rfl hl.1 rfl (Nat.le_of_ble_eq_true rfl) dX7_ofStay_122 ⟨Nat.zero_le _, Nat.zero_le _⟩) (fun H locs hW => ?_)
        refine lv_if_eq (tgt := 132) hx hcd dX7_ofStay_125 (by decide) (fun c26 => ?_) (fun c26 => ?_)
        · have ho := gif_p ho c26
          refine lv_iconst (v := 0) hx hcd dX7_ofStay_132 (by decide) ?_
          obtain rfl := Option.some.inj ho
          exact g_iret hC hr hlk hsz hW dX7_ofStay_133
        · have ho := gif_n ho c26
          refine lv_iconst (v := 1) hx hcd dX7_ofStay_128 (by decide) ?_
          refine lv_goto (tgt := 133) hx hcd dX7_ofStay_129 (by decide) ?_
          obtain rfl := Option.some.inj ho
          exact g_iret hC hr hlk hsz hW dX7_ofStay_133
      · have ho := gif_n ho c8
        refine lv_iconst (v := 0) hx hcd dX7_ofStay_38 (by decide) ?_
        obtain rfl := Option.some.inj ho
        exact g_iret hC hr hlk hsz hW dX7_ofStay_39
    · have ho := gif_p ho c6
      refine lv_iconst (v := 2) hx hcd dX7_ofStay_23 (by decide) ?_
      refine lv_goto (tgt := 28) hx hcd dX7_ofStay_24 (by decide) ?_
      obtain ⟨σ27, eσ27, ho⟩ := lt_ex ho
      refine g_puti hC hW (C := RX7) (T := TX7) (N := 19) (ci := 9) (k := 8) (index := 48) (i := 132) inGX7 tyX7 tyX7_ok nmX7 rfl (by decide) fl_X7_48 rfl (by decide) rfl rfl rfl rfl dX7_ofStay_28 (fun H locs hW => ?_)
      rw [← eσ27] at hW
      refine lv_aload_n hx hcd dX7_ofStay_31 rfl (lv_at hl 0 rfl) ?_
      refine g_geti hC hW (C := RX7) (T := TX7) (N := 19) (ci := 9) (k := 8) (index := 48) (i := 132) inGX7 rfl (by decide) fl_X7_48 (by decide) rfl rfl dX7_ofStay_32 ?_
      refine lv_if_le (tgt := 40) hx hcd dX7_ofStay_35 (by decide) (fun c28 => ?_) (fun c28 => ?_)
      · have ho := gif_p ho c28
        refine lv_iconst (v := 2) hx hcd dX7_ofStay_40 (by decide) ?_
        refine lv_iload_n hx hcd dX7_ofStay_41 rfl (lv_at hl 1 rfl) ?_
        refine lv_imul hx hcd dX7_ofStay_42 ?_
        refine lv_iload_n hx hcd dX7_ofStay_43 rfl (lv_at hl 2 rfl) ?_
        refine lv_iadd hx hcd dX7_ofStay_44 ?_
        refine lv_istore (lv' := [(4, .int (((2 : Int32) * x1) + x2)), (0, .ref (ad 132)), (1, .int x1), (2, .int x2), (3, .int x3)]) hx hcd dX7_ofStay_45 hl (by decide) rfl (fun ls hl => ?_)
        refine lv_iload_n hx hcd dX7_ofStay_47 rfl (lv_at hl 4 rfl) ?_
        by_cases c29 : x3 = 0
        · have ho := gif_p ho c29
          refine lv_tableIn (tgt := 84) hx hcd dX7_ofStay_48 (by rw [c29]; decide) (by rw [c29]; decide) (by rw [c29]; rfl) (by decide) ?_
          refine lv_aload_n hx hcd dX7_ofStay_84 rfl (lv_at hl 1 rfl) ?_
          refine lv_iload hx hcd dX7_ofStay_85 (lv_at hl 0 rfl) ?_
          obtain ⟨r31, h30, ho⟩ := gb_some ho
          refine g_calli hW (g_runV (As := [.int (((2 : Int32) * x1) + x2)]) (rest := []) (i := 132) hC hW (c_X7_from l D y ad (((2 : Int32) * x1) + x2) _ _ h30) ok_X7_103 ⟨rfl, rfl, Nat.le_of_ble_eq_true rfl, Nat.le_of_ble_eq_true rfl⟩ (by decide) rfl rfl rfl rfl hl.1 rfl (Nat.le_of_ble_eq_true rfl) dX7_ofStay_87 ⟨Nat.zero_le _, Nat.zero_le _⟩) (fun H locs hW => ?_)
          obtain rfl := Option.some.inj ho
          exact g_iret hC hr hlk hsz hW dX7_ofStay_90
        have ho := gif_n ho c29
        by_cases c32 : x3 = 1
        · have ho := gif_p ho c32
          refine lv_tableIn (tgt := 91) hx hcd dX7_ofStay_48 (by rw [c32]; decide) (by rw [c32]; decide) (by rw [c32]; rfl) (by decide) ?_
          refine lv_aload_n hx hcd dX7_ofStay_91 rfl (lv_at hl 1 rfl) ?_
          refine lv_iload hx hcd dX7_ofStay_92 (lv_at hl 0 rfl) ?_
          obtain ⟨r34, h33, ho⟩ := gb_some ho
          refine g_calli hW (g_runV (As := [.int (((2 : Int32) * x1) + x2)]) (rest := []) (i := 132) hC hW (c_X7_to l D y ad (((2 : Int32) * x1) + x2) _ _ h33) ok_X7_106 ⟨rfl, rfl, Nat.le_of_ble_eq_true rfl, Nat.le_of_ble_eq_true rfl⟩ (by decide) rfl rfl rfl rfl hl.1 rfl (Nat.le_of_ble_eq_true rfl) dX7_ofStay_94 ⟨Nat.zero_le _, Nat.zero_le _⟩) (fun H locs hW => ?_)
          obtain rfl := Option.some.inj ho
          exact g_iret hC hr hlk hsz hW dX7_ofStay_97
        have ho := gif_n ho c32
        by_cases c35 : x3 = 2
        · have ho := gif_p ho c35
          refine lv_tableIn (tgt := 98) hx hcd dX7_ofStay_48 (by rw [c35]; decide) (by rw [c35]; decide) (by rw [c35]; rfl) (by decide) ?_
          refine lv_aload_n hx hcd dX7_ofStay_98 rfl (lv_at hl 1 rfl) ?_
          refine lv_iload hx hcd dX7_ofStay_99 (lv_at hl 0 rfl) ?_
          obtain ⟨r37, h36, ho⟩ := gb_some ho
          refine g_calli hW (g_runV (As := [.int (((2 : Int32) * x1) + x2)]) (rest := []) (i := 132) hC hW (c_X7_on l D y ad (((2 : Int32) * x1) + x2) _ _ h36) ok_X7_94 ⟨rfl, rfl, Nat.le_of_ble_eq_true rfl, Nat.le_of_ble_eq_true rfl⟩ (by decide) rfl rfl rfl rfl hl.1 rfl (Nat.le_of_ble_eq_true rfl) dX7_ofStay_101 ⟨Nat.zero_le _, Nat.zero_le _⟩) (fun H locs hW => ?_)
          obtain rfl := Option.some.inj ho
          exact g_iret hC hr hlk hsz hW dX7_ofStay_104
        have ho := gif_n ho c35
        by_cases c38 : x3 = 3
        · have ho := gif_p ho c38
          refine lv_tableIn (tgt := 105) hx hcd dX7_ofStay_48 (by rw [c38]; decide) (by rw [c38]; decide) (by rw [c38]; rfl) (by decide) ?_
          refine lv_aload_n hx hcd dX7_ofStay_105 rfl (lv_at hl 1 rfl) ?_
          refine lv_iload hx hcd dX7_ofStay_106 (lv_at hl 0 rfl) ?_
          obtain ⟨r40, h39, ho⟩ := gb_some ho
          refine g_calli hW (g_runV (As := [.int (((2 : Int32) * x1) + x2)]) (rest := []) (i := 132) hC hW (c_X7_costOf l D y ad (((2 : Int32) * x1) + x2) _ _ h39) ok_X7_119 ⟨rfl, rfl, Nat.le_of_ble_eq_true rfl, Nat.le_of_ble_eq_true rfl⟩ (by decide) rfl rfl rfl rfl hl.1 rfl (Nat.le_of_ble_eq_true rfl) dX7_ofStay_108 ⟨Nat.zero_le _, Nat.zero_le _⟩) (fun H locs hW => ?_)
          obtain rfl := Option.some.inj ho
          exact g_iret hC hr hlk hsz hW dX7_ofStay_111
        have ho := gif_n ho c38
        by_cases c41 : x3 = 4
        · have ho := gif_p ho c41
          refine lv_tableIn (tgt := 112) hx hcd dX7_ofStay_48 (by rw [c41]; decide) (by rw [c41]; decide) (by rw [c41]; rfl) (by decide) ?_
          refine lv_aload_n hx hcd dX7_ofStay_112 rfl (lv_at hl 1 rfl) ?_
          refine lv_iload hx hcd dX7_ofStay_113 (lv_at hl 0 rfl) ?_
          obtain ⟨r43, h42, ho⟩ := gb_some ho
          refine g_calli hW (g_runV (As := [.int (((2 : Int32) * x1) + x2)]) (rest := []) (i := 132) hC hW (c_X7_conflictsOf l D y ad (((2 : Int32) * x1) + x2) _ _ h42) ok_X7_128 ⟨rfl, rfl, Nat.le_of_ble_eq_true rfl, Nat.le_of_ble_eq_true rfl⟩ (by decide) rfl rfl rfl rfl hl.1 rfl (Nat.le_of_ble_eq_true rfl) dX7_ofStay_115 ⟨Nat.zero_le _, Nat.zero_le _⟩) (fun H locs hW => ?_)
          obtain rfl := Option.some.inj ho
          exact g_iret hC hr hlk hsz hW dX7_ofStay_118
        have ho := gif_n ho c41
        refine lv_tableOut (tgt := 119) hx hcd dX7_ofStay_48 (by have zc29 := lv_neT c29 (a := 0) rfl; have zc32 := lv_neT c32 (a := 1) rfl; have zc35 := lv_neT c35 (a := 2) rfl; have zc38 := lv_neT c38 (a := 3) rfl; have zc41 := lv_neT c41 (a := 4) rfl; omega) (by decide) ?_
        refine lv_aload_n hx hcd dX7_ofStay_119 rfl (lv_at hl 1 rfl) ?_
        refine lv_iload hx hcd dX7_ofStay_120 (lv_at hl 0 rfl) ?_
        obtain ⟨r45, h44, ho⟩ := gb_some ho
        refine g_calli hW (g_runV (As := [.int (((2 : Int32) * x1) + x2)]) (rest := []) (i := 132) hC hW (c_X7_isHindered l D y ad (((2 : Int32) * x1) + x2) _ _ h44) ok_X7_125 ⟨rfl, rfl, Nat.le_of_ble_eq_true rfl, Nat.le_of_ble_eq_true rfl⟩ (by decide) rfl rfl rfl rfl hl.1 rfl (Nat.le_of_ble_eq_true rfl) dX7_ofStay_122 ⟨Nat.zero_le _, Nat.zero_le _⟩) (fun H locs hW => ?_)
        refine lv_if_eq (tgt := 132) hx hcd dX7_ofStay_125 (by decide) (fun c46 => ?_) (fun c46 => ?_)
        · have ho := gif_p ho c46
          refine lv_iconst (v := 0) hx hcd dX7_ofStay_132 (by decide) ?_
          obtain rfl := Option.some.inj ho
          exact g_iret hC hr hlk hsz hW dX7_ofStay_133
        · have ho := gif_n ho c46
          refine lv_iconst (v := 1) hx hcd dX7_ofStay_128 (by decide) ?_
          refine lv_goto (tgt := 133) hx hcd dX7_ofStay_129 (by decide) ?_
          obtain rfl := Option.some.inj ho
          exact g_iret hC hr hlk hsz hW dX7_ofStay_133
      · have ho := gif_n ho c28
        refine lv_iconst (v := 0) hx hcd dX7_ofStay_38 (by decide) ?_
        obtain rfl := Option.some.inj ho
        exact g_iret hC hr hlk hsz hW dX7_ofStay_39
  · have ho := gif_p ho c3
    refine lv_iconst (v := 1) hx hcd dX7_ofStay_10 (by decide) ?_
    refine lv_goto (tgt := 28) hx hcd dX7_ofStay_11 (by decide) ?_
    obtain ⟨σ47, eσ47, ho⟩ := lt_ex ho
    refine g_puti hC hW (C := RX7) (T := TX7) (N := 19) (ci := 9) (k := 8) (index := 48) (i := 132) inGX7 tyX7 tyX7_ok nmX7 rfl (by decide) fl_X7_48 rfl (by decide) rfl rfl rfl rfl dX7_ofStay_28 (fun H locs hW => ?_)
    rw [← eσ47] at hW
    refine lv_aload_n hx hcd dX7_ofStay_31 rfl (lv_at hl 0 rfl) ?_
    refine g_geti hC hW (C := RX7) (T := TX7) (N := 19) (ci := 9) (k := 8) (index := 48) (i := 132) inGX7 rfl (by decide) fl_X7_48 (by decide) rfl rfl dX7_ofStay_32 ?_
    refine lv_if_le (tgt := 40) hx hcd dX7_ofStay_35 (by decide) (fun c48 => ?_) (fun c48 => ?_)
    · have ho := gif_p ho c48
      refine lv_iconst (v := 2) hx hcd dX7_ofStay_40 (by decide) ?_
      refine lv_iload_n hx hcd dX7_ofStay_41 rfl (lv_at hl 1 rfl) ?_
      refine lv_imul hx hcd dX7_ofStay_42 ?_
      refine lv_iload_n hx hcd dX7_ofStay_43 rfl (lv_at hl 2 rfl) ?_
      refine lv_iadd hx hcd dX7_ofStay_44 ?_
      refine lv_istore (lv' := [(4, .int (((2 : Int32) * x1) + x2)), (0, .ref (ad 132)), (1, .int x1), (2, .int x2), (3, .int x3)]) hx hcd dX7_ofStay_45 hl (by decide) rfl (fun ls hl => ?_)
      refine lv_iload_n hx hcd dX7_ofStay_47 rfl (lv_at hl 4 rfl) ?_
      by_cases c49 : x3 = 0
      · have ho := gif_p ho c49
        refine lv_tableIn (tgt := 84) hx hcd dX7_ofStay_48 (by rw [c49]; decide) (by rw [c49]; decide) (by rw [c49]; rfl) (by decide) ?_
        refine lv_aload_n hx hcd dX7_ofStay_84 rfl (lv_at hl 1 rfl) ?_
        refine lv_iload hx hcd dX7_ofStay_85 (lv_at hl 0 rfl) ?_
        obtain ⟨r51, h50, ho⟩ := gb_some ho
        refine g_calli hW (g_runV (As := [.int (((2 : Int32) * x1) + x2)]) (rest := []) (i := 132) hC hW (c_X7_from l D y ad (((2 : Int32) * x1) + x2) _ _ h50) ok_X7_103 ⟨rfl, rfl, Nat.le_of_ble_eq_true rfl, Nat.le_of_ble_eq_true rfl⟩ (by decide) rfl rfl rfl rfl hl.1 rfl (Nat.le_of_ble_eq_true rfl) dX7_ofStay_87 ⟨Nat.zero_le _, Nat.zero_le _⟩) (fun H locs hW => ?_)
        obtain rfl := Option.some.inj ho
        exact g_iret hC hr hlk hsz hW dX7_ofStay_90
      have ho := gif_n ho c49
      by_cases c52 : x3 = 1
      · have ho := gif_p ho c52
        refine lv_tableIn (tgt := 91) hx hcd dX7_ofStay_48 (by rw [c52]; decide) (by rw [c52]; decide) (by rw [c52]; rfl) (by decide) ?_
        refine lv_aload_n hx hcd dX7_ofStay_91 rfl (lv_at hl 1 rfl) ?_
        refine lv_iload hx hcd dX7_ofStay_92 (lv_at hl 0 rfl) ?_
        obtain ⟨r54, h53, ho⟩ := gb_some ho
        refine g_calli hW (g_runV (As := [.int (((2 : Int32) * x1) + x2)]) (rest := []) (i := 132) hC hW (c_X7_to l D y ad (((2 : Int32) * x1) + x2) _ _ h53) ok_X7_106 ⟨rfl, rfl, Nat.le_of_ble_eq_true rfl, Nat.le_of_ble_eq_true rfl⟩ (by decide) rfl rfl rfl rfl hl.1 rfl (Nat.le_of_ble_eq_true rfl) dX7_ofStay_94 ⟨Nat.zero_le _, Nat.zero_le _⟩) (fun H locs hW => ?_)
        obtain rfl := Option.some.inj ho
        exact g_iret hC hr hlk hsz hW dX7_ofStay_97
      have ho := gif_n ho c52
      by_cases c55 : x3 = 2
      · have ho := gif_p ho c55
        refine lv_tableIn (tgt := 98) hx hcd dX7_ofStay_48 (by rw [c55]; decide) (by rw [c55]; decide) (by rw [c55]; rfl) (by decide) ?_
        refine lv_aload_n hx hcd dX7_ofStay_98 rfl (lv_at hl 1 rfl) ?_
        refine lv_iload hx hcd dX7_ofStay_99 (lv_at hl 0 rfl) ?_
        obtain ⟨r57, h56, ho⟩ := gb_some ho
        refine g_calli hW (g_runV (As := [.int (((2 : Int32) * x1) + x2)]) (rest := []) (i := 132) hC hW (c_X7_on l D y ad (((2 : Int32) * x1) + x2) _ _ h56) ok_X7_94 ⟨rfl, rfl, Nat.le_of_ble_eq_true rfl, Nat.le_of_ble_eq_true rfl⟩ (by decide) rfl rfl rfl rfl hl.1 rfl (Nat.le_of_ble_eq_true rfl) dX7_ofStay_101 ⟨Nat.zero_le _, Nat.zero_le _⟩) (fun H locs hW => ?_)
        obtain rfl := Option.some.inj ho
        exact g_iret hC hr hlk hsz hW dX7_ofStay_104
      have ho := gif_n ho c55
      by_cases c58 : x3 = 3
      · have ho := gif_p ho c58
        refine lv_tableIn (tgt := 105) hx hcd dX7_ofStay_48 (by rw [c58]; decide) (by rw [c58]; decide) (by rw [c58]; rfl) (by decide) ?_
        refine lv_aload_n hx hcd dX7_ofStay_105 rfl (lv_at hl 1 rfl) ?_
        refine lv_iload hx hcd dX7_ofStay_106 (lv_at hl 0 rfl) ?_
        obtain ⟨r60, h59, ho⟩ := gb_some ho
        refine g_calli hW (g_runV (As := [.int (((2 : Int32) * x1) + x2)]) (rest := []) (i := 132) hC hW (c_X7_costOf l D y ad (((2 : Int32) * x1) + x2) _ _ h59) ok_X7_119 ⟨rfl, rfl, Nat.le_of_ble_eq_true rfl, Nat.le_of_ble_eq_true rfl⟩ (by decide) rfl rfl rfl rfl hl.1 rfl (Nat.le_of_ble_eq_true rfl) dX7_ofStay_108 ⟨Nat.zero_le _, Nat.zero_le _⟩) (fun H locs hW => ?_)
        obtain rfl := Option.some.inj ho
        exact g_iret hC hr hlk hsz hW dX7_ofStay_111
      have ho := gif_n ho c58
      by_cases c61 : x3 = 4
      · have ho := gif_p ho c61
        refine lv_tableIn (tgt := 112) hx hcd dX7_ofStay_48 (by rw [c61]; decide) (by rw [c61]; decide) (by rw [c61]; rfl) (by decide) ?_
        refine lv_aload_n hx hcd dX7_ofStay_112 rfl (lv_at hl 1 rfl) ?_
        refine lv_iload hx hcd dX7_ofStay_113 (lv_at hl 0 rfl) ?_
        obtain ⟨r63, h62, ho⟩ := gb_some ho
        refine g_calli hW (g_runV (As := [.int (((2 : Int32) * x1) + x2)]) (rest := []) (i := 132) hC hW (c_X7_conflictsOf l D y ad (((2 : Int32) * x1) + x2) _ _ h62) ok_X7_128 ⟨rfl, rfl, Nat.le_of_ble_eq_true rfl, Nat.le_of_ble_eq_true rfl⟩ (by decide) rfl rfl rfl rfl hl.1 rfl (Nat.le_of_ble_eq_true rfl) dX7_ofStay_115 ⟨Nat.zero_le _, Nat.zero_le _⟩) (fun H locs hW => ?_)
        obtain rfl := Option.some.inj ho
        exact g_iret hC hr hlk hsz hW dX7_ofStay_118
      have ho := gif_n ho c61
      refine lv_tableOut (tgt := 119) hx hcd dX7_ofStay_48 (by have zc49 := lv_neT c49 (a := 0) rfl; have zc52 := lv_neT c52 (a := 1) rfl; have zc55 := lv_neT c55 (a := 2) rfl; have zc58 := lv_neT c58 (a := 3) rfl; have zc61 := lv_neT c61 (a := 4) rfl; omega) (by decide) ?_
      refine lv_aload_n hx hcd dX7_ofStay_119 rfl (lv_at hl 1 rfl) ?_
      refine lv_iload hx hcd dX7_ofStay_120 (lv_at hl 0 rfl) ?_
      obtain ⟨r65, h64, ho⟩ := gb_some ho
      refine g_calli hW (g_runV (As := [.int (((2 : Int32) * x1) + x2)]) (rest := []) (i := 132) hC hW (c_X7_isHindered l D y ad (((2 : Int32) * x1) + x2) _ _ h64) ok_X7_125 ⟨rfl, rfl, Nat.le_of_ble_eq_true rfl, Nat.le_of_ble_eq_true rfl⟩ (by decide) rfl rfl rfl rfl hl.1 rfl (Nat.le_of_ble_eq_true rfl) dX7_ofStay_122 ⟨Nat.zero_le _, Nat.zero_le _⟩) (fun H locs hW => ?_)
      refine lv_if_eq (tgt := 132) hx hcd dX7_ofStay_125 (by decide) (fun c66 => ?_) (fun c66 => ?_)
      · have ho := gif_p ho c66
        refine lv_iconst (v := 0) hx hcd dX7_ofStay_132 (by decide) ?_
        obtain rfl := Option.some.inj ho
        exact g_iret hC hr hlk hsz hW dX7_ofStay_133
      · have ho := gif_n ho c66
        refine lv_iconst (v := 1) hx hcd dX7_ofStay_128 (by decide) ?_
        refine lv_goto (tgt := 133) hx hcd dX7_ofStay_129 (by decide) ?_
        obtain rfl := Option.some.inj ho
        exact g_iret hC hr hlk hsz hW dX7_ofStay_133
    · have ho := gif_n ho c48
      refine lv_iconst (v := 0) hx hcd dX7_ofStay_38 (by decide) ?_
      obtain rfl := Option.some.inj ho
      exact g_iret hC hr hlk hsz hW dX7_ofStay_39
noncomputable def X7_why_k0 (σ : gS) (x2 : Int32) (x4 : Int32) (x5 : Int32) : Option ((Int32 × Int32 × Int32 × gS) ⊕ (Int32 × gS)) :=
  if 20 ≤ x5 then (if x4 = 0 then (some (.inr (0, σ))) else (some (.inr (5, σ)))) else (if ((x4 >>> (x5 &&& 31)) &&& (1 : Int32)) = 1 then ((X7_on σ x5).bind fun r20 => if r20 = x2 then (some (.inr (4, σ))) else (some (.inl (x2, x4, (x5 + 1), σ)))) else (some (.inl (x2, x4, (x5 + 1), σ))))
noncomputable def X7_why_s (a : Int32 × Int32 × Int32 × gS) : Option ((Int32 × Int32 × Int32 × gS) ⊕ (Int32 × gS)) :=
  X7_why_k0 a.2.2.2 a.1 a.2.1 a.2.2.1
noncomputable def X7_why (σ : gS) (x1 : Int32) (x2 : Int32) : Option (Int32 × gS) :=
  (X7_on σ x1).bind fun r2 => if r2 = x2 then (some (1, σ)) else (gd (ib ((20 : Int32) + x2) 162) <| if (σ 133 ((20 : Int32) + x2).toNatClampNeg) = 0 then (some (2, σ)) else (gd (ib ((12 : Int32) + x2) 162) <| (X7_size σ x1).bind fun r8 => if r8 ≤ (σ 133 ((12 : Int32) + x2).toNatClampNeg) then ((X7_put σ x1 x2).bind fun σ11 => (X7_conflictsOf σ11 x1).bind fun r13 => (X7_put σ11 x1 r2).bind fun σ15 => gr (X7_why_s) (x2, r13, 0, σ15)) else (some (3, σ))))
set_option maxHeartbeats 4000000 in
set_option maxRecDepth 100000 in
theorem l_X7_why {p : Program} {e : Env} {s : State} {m : MethodId} {args : Array Value} {below : List Frame} {meth : Method} {c : Code} (l : Launch) (D : va_G) (y : ClassId × ClassId × ClassId) (ad : Nat → Nat) (sz : Nat) (hC : g_C p s m args c cX7_why 6 RX7 D y) (hr : meth.sig.returnType = (some .int)) (hlk : meth.locks = false) (hsz : s.heap.size = sz) {r0 : Int32 × gS} : ∀ a : Int32 × Int32 × Int32 × gS, gr (X7_why_s) a = some r0 → ∀ (H : Heap) (locs : List Loc) (ls : Array Slot), g_W (g_A ad sz) s.heap D y ad [] a.2.2.2 H locs → lv_has ls 6 [(0, .ref (ad 132)), (2, .int a.1), (4, .int a.2.1), (5, .int a.2.2.1)] → W p l e ({ frames := 6, cells := 0, slots := 0, locals := 131 }) s m args below meth c H locs 0 0 (MQ below (g_Qi D y ad r0.2 sz r0.1) args s 0 0 (g_A ad sz)) (F0 m 68 ls []) := by
  have hx := hC.1
  have hcd := hC.2.1
  refine gr_all (fun a o ho hret hjmp => ?_)
  obtain ⟨x2, x4, x5, σ⟩ := a
  intro H locs ls hW hl
  have ho : X7_why_k0 σ x2 x4 x5 = some o := ho
  unfold X7_why_k0 at ho
  refine lv_iload hx hcd dX7_why_68 (lv_at hl 3 rfl) ?_
  refine lv_bipush (v := 20) hx hcd dX7_why_70 (by decide) ?_
  refine lv_icmp_ge (tgt := 104) hx hcd dX7_why_72 (by decide) (fun c16 => ?_) (fun c16 => ?_)
  · have ho := gif_p ho c16
    refine lv_iload hx hcd dX7_why_104 (lv_at hl 2 rfl) ?_
    refine lv_if_eq (tgt := 113) hx hcd dX7_why_106 (by decide) (fun c17 => ?_) (fun c17 => ?_)
    · have ho := gif_p ho c17
      refine lv_iconst (v := 0) hx hcd dX7_why_113 (by decide) ?_
      obtain rfl := hret _ (Option.some.inj ho).symm
      exact g_iret hC hr hlk hsz hW dX7_why_114
    · have ho := gif_n ho c17
      refine lv_iconst (v := 5) hx hcd dX7_why_109 (by decide) ?_
      refine lv_goto (tgt := 114) hx hcd dX7_why_110 (by decide) ?_
      obtain rfl := hret _ (Option.some.inj ho).symm
      exact g_iret hC hr hlk hsz hW dX7_why_114
  · have ho := gif_n ho c16
    refine lv_iload hx hcd dX7_why_75 (lv_at hl 2 rfl) ?_
    refine lv_iload hx hcd dX7_why_77 (lv_at hl 3 rfl) ?_
    refine lv_ishr hx hcd dX7_why_79 ?_
    refine lv_iconst (v := 1) hx hcd dX7_why_80 (by decide) ?_
    refine lv_iand hx hcd dX7_why_81 ?_
    refine lv_iconst (v := 1) hx hcd dX7_why_82 (by decide) ?_
    refine lv_icmp_ne (tgt := 98) hx hcd dX7_why_83 (by decide) (fun c18 => ?_) (fun c18 => ?_)
    · have ho := gif_n ho c18
      refine lv_iinc (v := x5 + 1) (lv' := [(5, .int (x5 + 1)), (0, .ref (ad 132)), (2, .int x2), (4, .int x4)]) hx hcd dX7_why_98 hl (k := 3) rfl rfl (by decide) rfl (fun ls hl => ?_)
      refine lv_goto (tgt := 68) hx hcd dX7_why_101 (by decide) ?_
      exact hjmp _ (Option.some.inj ho).symm _ _ _ hW (lv_sub hl [1, 2, 3, 0] rfl)
    · have ho := gif_p ho c18
      refine lv_aload_n hx hcd dX7_why_86 rfl (lv_at hl 0 rfl) ?_
      refine lv_iload hx hcd dX7_why_87 (lv_at hl 3 rfl) ?_
      obtain ⟨r20, h19, ho⟩ := gb_some ho
      refine g_calli hW (g_runV (As := [.int x5]) (rest := []) (i := 132) hC hW (c_X7_on l D y ad x5 _ _ h19) ok_X7_94 ⟨rfl, rfl, Nat.le_of_ble_eq_true rfl, Nat.le_of_ble_eq_true rfl⟩ (by decide) rfl rfl rfl rfl hl.1 rfl (Nat.le_of_ble_eq_true rfl) dX7_why_89 ⟨Nat.zero_le _, Nat.zero_le _⟩) (fun H locs hW => ?_)
      refine lv_iload_n hx hcd dX7_why_92 rfl (lv_at hl 1 rfl) ?_
      refine lv_icmp_ne (tgt := 98) hx hcd dX7_why_93 (by decide) (fun c21 => ?_) (fun c21 => ?_)
      · have ho := gif_n ho c21
        refine lv_iinc (v := x5 + 1) (lv' := [(5, .int (x5 + 1)), (0, .ref (ad 132)), (2, .int x2), (4, .int x4)]) hx hcd dX7_why_98 hl (k := 3) rfl rfl (by decide) rfl (fun ls hl => ?_)
        refine lv_goto (tgt := 68) hx hcd dX7_why_101 (by decide) ?_
        exact hjmp _ (Option.some.inj ho).symm _ _ _ hW (lv_sub hl [1, 2, 3, 0] rfl)
      · have ho := gif_p ho c21
        refine lv_iconst (v := 4) hx hcd dX7_why_96 (by decide) ?_
        obtain rfl := hret _ (Option.some.inj ho).symm
        exact g_iret hC hr hlk hsz hW dX7_why_97
set_option maxHeartbeats 4000000 in
set_option maxRecDepth 100000 in
theorem c_X7_why (l : Launch) (D : va_G) (y : ClassId × ClassId × ClassId) (ad : Nat → Nat) (x1 : Int32) (x2 : Int32) (σ : gS) (sz : Nat) {q : Int32 × gS} (h : X7_why σ x1 x2 = some q) : Met l yX7_why (Cond.code yX7_why cX7_why 6 (some .int) :: gl) ({ frames := 6, cells := 0, slots := 0, locals := 131 }) (g_Pc D y ad σ sz [.ref (ad 132), .int x1, .int x2]) (g_Qi D y ad q.2 sz q.1) 0 0 (g_A ad sz) := by
  have ho := h
  unfold X7_why at ho
  refine g_start (by decide) (Nat.le_of_ble_eq_true rfl) (fun p e s m below meth c ls hC hr hlk hsz hW hl => ?_)
  have hx := hC.1
  have hcd := hC.2.1
  have hl : lv_has ls 6 [(0, .ref (ad 132)), (1, .int x1), (2, .int x2)] := hl
  refine lv_aload_n hx hcd dX7_why_0 rfl (lv_at hl 0 rfl) ?_
  refine lv_iload_n hx hcd dX7_why_1 rfl (lv_at hl 1 rfl) ?_
  obtain ⟨r2, h1, ho⟩ := gb_some ho
  refine g_calli hW (g_runV (As := [.int x1]) (rest := []) (i := 132) hC hW (c_X7_on l D y ad x1 _ _ h1) ok_X7_94 ⟨rfl, rfl, Nat.le_of_ble_eq_true rfl, Nat.le_of_ble_eq_true rfl⟩ (by decide) rfl rfl rfl rfl hl.1 rfl (Nat.le_of_ble_eq_true rfl) dX7_why_2 ⟨Nat.zero_le _, Nat.zero_le _⟩) (fun H locs hW => ?_)
  refine lv_istore_n (lv' := [(3, .int r2), (0, .ref (ad 132)), (1, .int x1), (2, .int x2)]) hx hcd dX7_why_5 rfl hl (by decide) rfl (fun ls hl => ?_)
  refine lv_iload_n hx hcd dX7_why_6 rfl (lv_at hl 0 rfl) ?_
  refine lv_iload_n hx hcd dX7_why_7 rfl (lv_at hl 3 rfl) ?_
  refine lv_icmp_ne (tgt := 13) hx hcd dX7_why_8 (by decide) (fun c3 => ?_) (fun c3 => ?_)
  · have ho := gif_n ho c3
    refine lv_aload_n hx hcd dX7_why_13 rfl (lv_at hl 1 rfl) ?_
    refine g_getr hC hW (C := RX7) (T := TX7) (N := 19) (ci := 9) (k := 0) (index := 9) (i := 132) (r := 133) inGX7 rfl (by decide) fl_X7_9 (by decide) rfl rfl dX7_why_14 ?_
    refine lv_bipush (v := 20) hx hcd dX7_why_17 (by decide) ?_
    refine lv_iload_n hx hcd dX7_why_19 rfl (lv_at hl 3 rfl) ?_
    refine lv_iadd hx hcd dX7_why_20 ?_
    obtain ⟨i4, ho⟩ := gd_some ho
    refine g_iald hC hW (i := 133) (by decide) rfl i4 dX7_why_21 ?_
    refine lv_if_ne (tgt := 27) hx hcd dX7_why_22 (by decide) (fun c5 => ?_) (fun c5 => ?_)
    · have ho := gif_n ho c5
      refine lv_aload_n hx hcd dX7_why_27 rfl (lv_at hl 1 rfl) ?_
      refine g_getr hC hW (C := RX7) (T := TX7) (N := 19) (ci := 9) (k := 0) (index := 9) (i := 132) (r := 133) inGX7 rfl (by decide) fl_X7_9 (by decide) rfl rfl dX7_why_28 ?_
      refine lv_bipush (v := 12) hx hcd dX7_why_31 (by decide) ?_
      refine lv_iload_n hx hcd dX7_why_33 rfl (lv_at hl 3 rfl) ?_
      refine lv_iadd hx hcd dX7_why_34 ?_
      obtain ⟨i6, ho⟩ := gd_some ho
      refine g_iald hC hW (i := 133) (by decide) rfl i6 dX7_why_35 ?_
      refine lv_aload_n hx hcd dX7_why_36 rfl (lv_at hl 1 rfl) ?_
      refine lv_iload_n hx hcd dX7_why_37 rfl (lv_at hl 2 rfl) ?_
      obtain ⟨r8, h7, ho⟩ := gb_some ho
      refine g_calli hW (g_runV (As := [.int x1]) (rest := [.int (σ 133 ((12 : Int32) + x2).toNatClampNeg)]) (i := 132) hC hW (c_X7_size l D y ad x1 _ _ h7) ok_X7_100 ⟨rfl, rfl, Nat.le_of_ble_eq_true rfl, Nat.le_of_ble_eq_true rfl⟩ (by decide) rfl rfl rfl rfl hl.1 rfl (Nat.le_of_ble_eq_true rfl) dX7_why_38 ⟨Nat.zero_le _, Nat.zero_le _⟩) (fun H locs hW => ?_)
      refine lv_icmp_ge (tgt := 46) hx hcd dX7_why_41 (by decide) (fun c9 => ?_) (fun c9 => ?_)
      · have ho := gif_p ho c9
        refine lv_aload_n hx hcd dX7_why_46 rfl (lv_at hl 1 rfl) ?_
        refine lv_iload_n hx hcd dX7_why_47 rfl (lv_at hl 2 rfl) ?_
        refine lv_iload_n hx hcd dX7_why_48 rfl (lv_at hl 3 rfl) ?_
        obtain ⟨σ11, h10, ho⟩ := gb_some ho
        refine g_callv hW (g_runV (As := [.int x1, .int x2]) (rest := []) (i := 132) hC hW (c_X7_put l D y ad x1 x2 _ _ h10) ok_X7_141 ⟨rfl, rfl, Nat.le_of_ble_eq_true rfl, Nat.le_of_ble_eq_true rfl⟩ (by decide) rfl rfl rfl rfl hl.1 rfl (Nat.le_of_ble_eq_true rfl) dX7_why_49 ⟨Nat.zero_le _, Nat.zero_le _⟩) (fun H locs hW => ?_)
        refine lv_aload_n hx hcd dX7_why_52 rfl (lv_at hl 1 rfl) ?_
        refine lv_iload_n hx hcd dX7_why_53 rfl (lv_at hl 2 rfl) ?_
        obtain ⟨r13, h12, ho⟩ := gb_some ho
        refine g_calli hW (g_runV (As := [.int x1]) (rest := []) (i := 132) hC hW (c_X7_conflictsOf l D y ad x1 _ _ h12) ok_X7_128 ⟨rfl, rfl, Nat.le_of_ble_eq_true rfl, Nat.le_of_ble_eq_true rfl⟩ (by decide) rfl rfl rfl rfl hl.1 rfl (Nat.le_of_ble_eq_true rfl) dX7_why_54 ⟨Nat.zero_le _, Nat.zero_le _⟩) (fun H locs hW => ?_)
        refine lv_istore (lv' := [(4, .int r13), (3, .int r2), (0, .ref (ad 132)), (1, .int x1), (2, .int x2)]) hx hcd dX7_why_57 hl (by decide) rfl (fun ls hl => ?_)
        refine lv_aload_n hx hcd dX7_why_59 rfl (lv_at hl 2 rfl) ?_
        refine lv_iload_n hx hcd dX7_why_60 rfl (lv_at hl 3 rfl) ?_
        refine lv_iload_n hx hcd dX7_why_61 rfl (lv_at hl 1 rfl) ?_
        obtain ⟨σ15, h14, ho⟩ := gb_some ho
        refine g_callv hW (g_runV (As := [.int x1, .int r2]) (rest := []) (i := 132) hC hW (c_X7_put l D y ad x1 r2 _ _ h14) ok_X7_141 ⟨rfl, rfl, Nat.le_of_ble_eq_true rfl, Nat.le_of_ble_eq_true rfl⟩ (by decide) rfl rfl rfl rfl hl.1 rfl (Nat.le_of_ble_eq_true rfl) dX7_why_62 ⟨Nat.zero_le _, Nat.zero_le _⟩) (fun H locs hW => ?_)
        refine lv_iconst (v := 0) hx hcd dX7_why_65 (by decide) ?_
        refine lv_istore (lv' := [(5, .int 0), (4, .int r13), (3, .int r2), (0, .ref (ad 132)), (1, .int x1), (2, .int x2)]) hx hcd dX7_why_66 hl (by decide) rfl (fun ls hl => ?_)
        exact l_X7_why l D y ad sz hC hr hlk hsz _ ho _ _ _ hW (lv_sub hl [3, 5, 1, 0] rfl)
      · have ho := gif_n ho c9
        refine lv_iconst (v := 3) hx hcd dX7_why_44 (by decide) ?_
        obtain rfl := Option.some.inj ho
        exact g_iret hC hr hlk hsz hW dX7_why_45
    · have ho := gif_p ho c5
      refine lv_iconst (v := 2) hx hcd dX7_why_25 (by decide) ?_
      obtain rfl := Option.some.inj ho
      exact g_iret hC hr hlk hsz hW dX7_why_26
  · have ho := gif_p ho c3
    refine lv_iconst (v := 1) hx hcd dX7_why_11 (by decide) ?_
    obtain rfl := Option.some.inj ho
    exact g_iret hC hr hlk hsz hW dX7_why_12
noncomputable def X7_isPlace (σ : gS) (x1 : Int32) (x2 : Int32) (x3 : Int32) : Option (Int32) :=
  (X7_isStay_ σ x1 x2).bind fun r2 => if r2 = 0 then (some 0) else ((X7_isStand σ x3).bind fun r5 => if r5 = 0 then (some 0) else (some 1))
set_option maxHeartbeats 4000000 in
set_option maxRecDepth 100000 in
theorem c_X7_isPlace (l : Launch) (D : va_G) (y : ClassId × ClassId × ClassId) (ad : Nat → Nat) (x1 : Int32) (x2 : Int32) (x3 : Int32) (σ : gS) (sz : Nat) {q : Int32} (h : X7_isPlace σ x1 x2 x3 = some q) : Met l yX7_isPlace (Cond.code yX7_isPlace cX7_isPlace 4 (some .boolean) :: gl) ({ frames := 4, cells := 0, slots := 0, locals := 86 }) (g_Pc D y ad σ sz [.ref (ad 132), .int x1, .int x2, .int x3]) (g_Qi D y ad σ sz q) 0 0 (g_A ad sz) := by
  have ho := h
  unfold X7_isPlace at ho
  refine g_start (by decide) (Nat.le_of_ble_eq_true rfl) (fun p e s m below meth c ls hC hr hlk hsz hW hl => ?_)
  have hx := hC.1
  have hcd := hC.2.1
  have hl : lv_has ls 4 [(0, .ref (ad 132)), (1, .int x1), (2, .int x2), (3, .int x3)] := hl
  refine lv_aload_n hx hcd dX7_isPlace_0 rfl (lv_at hl 0 rfl) ?_
  refine lv_iload_n hx hcd dX7_isPlace_1 rfl (lv_at hl 1 rfl) ?_
  refine lv_iload_n hx hcd dX7_isPlace_2 rfl (lv_at hl 2 rfl) ?_
  obtain ⟨r2, h1, ho⟩ := gb_some ho
  refine g_calli hW (g_runV (As := [.int x1, .int x2]) (rest := []) (i := 132) hC hW (c_X7_isStay_ l D y ad x1 x2 _ _ h1) ok_X7_139 ⟨rfl, rfl, Nat.le_of_ble_eq_true rfl, Nat.le_of_ble_eq_true rfl⟩ (by decide) rfl rfl rfl rfl hl.1 rfl (Nat.le_of_ble_eq_true rfl) dX7_isPlace_3 ⟨Nat.zero_le _, Nat.zero_le _⟩) (fun H locs hW => ?_)
  refine lv_if_eq (tgt := 21) hx hcd dX7_isPlace_6 (by decide) (fun c3 => ?_) (fun c3 => ?_)
  · have ho := gif_p ho c3
    refine lv_iconst (v := 0) hx hcd dX7_isPlace_21 (by decide) ?_
    obtain rfl := Option.some.inj ho
    exact g_zret (r := 0) hC hr hlk hsz hW (by decide) dX7_isPlace_22
  · have ho := gif_n ho c3
    refine lv_aload_n hx hcd dX7_isPlace_9 rfl (lv_at hl 0 rfl) ?_
    refine lv_iload_n hx hcd dX7_isPlace_10 rfl (lv_at hl 3 rfl) ?_
    obtain ⟨r5, h4, ho⟩ := gb_some ho
    refine g_calli hW (g_runV (As := [.int x3]) (rest := []) (i := 132) hC hW (c_X7_isStand l D y ad x3 _ _ h4) ok_X7_73 ⟨rfl, rfl, Nat.le_of_ble_eq_true rfl, Nat.le_of_ble_eq_true rfl⟩ (by decide) rfl rfl rfl rfl hl.1 rfl (Nat.le_of_ble_eq_true rfl) dX7_isPlace_11 ⟨Nat.zero_le _, Nat.zero_le _⟩) (fun H locs hW => ?_)
    refine lv_if_eq (tgt := 21) hx hcd dX7_isPlace_14 (by decide) (fun c6 => ?_) (fun c6 => ?_)
    · have ho := gif_p ho c6
      refine lv_iconst (v := 0) hx hcd dX7_isPlace_21 (by decide) ?_
      obtain rfl := Option.some.inj ho
      exact g_zret (r := 0) hC hr hlk hsz hW (by decide) dX7_isPlace_22
    · have ho := gif_n ho c6
      refine lv_iconst (v := 1) hx hcd dX7_isPlace_17 (by decide) ?_
      refine lv_goto (tgt := 22) hx hcd dX7_isPlace_18 (by decide) ?_
      obtain rfl := Option.some.inj ho
      exact g_zret (r := 1) hC hr hlk hsz hW (by decide) dX7_isPlace_22
noncomputable def X7_doPlace (σ : gS) (x1 : Int32) (x2 : Int32) (x3 : Int32) : Option (Int32 × gS) :=
  (X7_isPlace σ x1 x2 x3).bind fun r2 => if r2 = 0 then (some (1, σ)) else ((X7_why σ (((2 : Int32) * x1) + x2) x3).bind fun q5 => if q5.1 ≤ 0 then ((X7_put q5.2 (((2 : Int32) * x1) + x2) x3).bind fun σ8 => some (0, σ8)) else (lt_ (g_up q5.2 132 7 q5.1) fun σ9 => some (2, σ9)))
set_option maxHeartbeats 4000000 in
set_option maxRecDepth 100000 in
theorem c_X7_doPlace (l : Launch) (D : va_G) (y : ClassId × ClassId × ClassId) (ad : Nat → Nat) (x1 : Int32) (x2 : Int32) (x3 : Int32) (σ : gS) (sz : Nat) {q : Int32 × gS} (h : X7_doPlace σ x1 x2 x3 = some q) : Met l yX7_doPlace (Cond.code yX7_doPlace cX7_doPlace 5 (some .int) :: gl) ({ frames := 7, cells := 0, slots := 0, locals := 156 }) (g_Pc D y ad σ sz [.ref (ad 132), .int x1, .int x2, .int x3]) (g_Qi D y ad q.2 sz q.1) 0 0 (g_A ad sz) := by
  have ho := h
  unfold X7_doPlace at ho
  refine g_start (by decide) (Nat.le_of_ble_eq_true rfl) (fun p e s m below meth c ls hC hr hlk hsz hW hl => ?_)
  have hx := hC.1
  have hcd := hC.2.1
  have hl : lv_has ls 5 [(0, .ref (ad 132)), (1, .int x1), (2, .int x2), (3, .int x3)] := hl
  refine lv_aload_n hx hcd dX7_doPlace_0 rfl (lv_at hl 0 rfl) ?_
  refine lv_iload_n hx hcd dX7_doPlace_1 rfl (lv_at hl 1 rfl) ?_
  refine lv_iload_n hx hcd dX7_doPlace_2 rfl (lv_at hl 2 rfl) ?_
  refine lv_iload_n hx hcd dX7_doPlace_3 rfl (lv_at hl 3 rfl) ?_
  obtain ⟨r2, h1, ho⟩ := gb_some ho
  refine g_calli hW (g_runV (As := [.int x1, .int x2, .int x3]) (rest := []) (i := 132) hC hW (c_X7_isPlace l D y ad x1 x2 x3 _ _ h1) ok_X7_145 ⟨rfl, rfl, Nat.le_of_ble_eq_true rfl, Nat.le_of_ble_eq_true rfl⟩ (by decide) rfl rfl rfl rfl hl.1 rfl (Nat.le_of_ble_eq_true rfl) dX7_doPlace_4 ⟨Nat.zero_le _, Nat.zero_le _⟩) (fun H locs hW => ?_)
  refine lv_if_ne (tgt := 12) hx hcd dX7_doPlace_7 (by decide) (fun c3 => ?_) (fun c3 => ?_)
  · have ho := gif_n ho c3
    refine lv_aload_n hx hcd dX7_doPlace_12 rfl (lv_at hl 0 rfl) ?_
    refine lv_iconst (v := 2) hx hcd dX7_doPlace_13 (by decide) ?_
    refine lv_iload_n hx hcd dX7_doPlace_14 rfl (lv_at hl 1 rfl) ?_
    refine lv_imul hx hcd dX7_doPlace_15 ?_
    refine lv_iload_n hx hcd dX7_doPlace_16 rfl (lv_at hl 2 rfl) ?_
    refine lv_iadd hx hcd dX7_doPlace_17 ?_
    refine lv_iload_n hx hcd dX7_doPlace_18 rfl (lv_at hl 3 rfl) ?_
    obtain ⟨q5, h4, ho⟩ := gb_some ho
    refine g_calli hW (g_runV (As := [.int (((2 : Int32) * x1) + x2), .int x3]) (rest := []) (i := 132) hC hW (c_X7_why l D y ad (((2 : Int32) * x1) + x2) x3 _ _ h4) ok_X7_148 ⟨rfl, rfl, Nat.le_of_ble_eq_true rfl, Nat.le_of_ble_eq_true rfl⟩ (by decide) rfl rfl rfl rfl hl.1 rfl (Nat.le_of_ble_eq_true rfl) dX7_doPlace_19 ⟨Nat.zero_le _, Nat.zero_le _⟩) (fun H locs hW => ?_)
    refine lv_istore (lv' := [(4, .int q5.1), (0, .ref (ad 132)), (1, .int x1), (2, .int x2), (3, .int x3)]) hx hcd dX7_doPlace_22 hl (by decide) rfl (fun ls hl => ?_)
    refine lv_iload hx hcd dX7_doPlace_24 (lv_at hl 0 rfl) ?_
    refine lv_if_le (tgt := 37) hx hcd dX7_doPlace_26 (by decide) (fun c6 => ?_) (fun c6 => ?_)
    · have ho := gif_p ho c6
      refine lv_aload_n hx hcd dX7_doPlace_37 rfl (lv_at hl 1 rfl) ?_
      refine lv_iconst (v := 2) hx hcd dX7_doPlace_38 (by decide) ?_
      refine lv_iload_n hx hcd dX7_doPlace_39 rfl (lv_at hl 2 rfl) ?_
      refine lv_imul hx hcd dX7_doPlace_40 ?_
      refine lv_iload_n hx hcd dX7_doPlace_41 rfl (lv_at hl 3 rfl) ?_
      refine lv_iadd hx hcd dX7_doPlace_42 ?_
      refine lv_iload_n hx hcd dX7_doPlace_43 rfl (lv_at hl 4 rfl) ?_
      obtain ⟨σ8, h7, ho⟩ := gb_some ho
      refine g_callv hW (g_runV (As := [.int (((2 : Int32) * x1) + x2), .int x3]) (rest := []) (i := 132) hC hW (c_X7_put l D y ad (((2 : Int32) * x1) + x2) x3 _ _ h7) ok_X7_141 ⟨rfl, rfl, Nat.le_of_ble_eq_true rfl, Nat.le_of_ble_eq_true rfl⟩ (by decide) rfl rfl rfl rfl hl.1 rfl (Nat.le_of_ble_eq_true rfl) dX7_doPlace_44 ⟨Nat.zero_le _, Nat.zero_le _⟩) (fun H locs hW => ?_)
      refine lv_iconst (v := 0) hx hcd dX7_doPlace_47 (by decide) ?_
      obtain rfl := Option.some.inj ho
      exact g_iret hC hr hlk hsz hW dX7_doPlace_48
    · have ho := gif_n ho c6
      refine lv_aload_n hx hcd dX7_doPlace_29 rfl (lv_at hl 1 rfl) ?_
      refine lv_iload hx hcd dX7_doPlace_30 (lv_at hl 0 rfl) ?_
      obtain ⟨σ9, eσ9, ho⟩ := lt_ex ho
      refine g_puti hC hW (C := RX7) (T := TX7) (N := 19) (ci := 9) (k := 7) (index := 151) (i := 132) inGX7 tyX7 tyX7_ok nmX7 rfl (by decide) fl_X7_151 rfl (by decide) rfl rfl rfl rfl dX7_doPlace_32 (fun H locs hW => ?_)
      rw [← eσ9] at hW
      refine lv_iconst (v := 2) hx hcd dX7_doPlace_35 (by decide) ?_
      obtain rfl := Option.some.inj ho
      exact g_iret hC hr hlk hsz hW dX7_doPlace_36
  · have ho := gif_p ho c3
    refine lv_iconst (v := 1) hx hcd dX7_doPlace_10 (by decide) ?_
    obtain rfl := Option.some.inj ho
    exact g_iret hC hr hlk hsz hW dX7_doPlace_11
noncomputable def X7_place (σ : gS) (x1 : Int32) (x2 : Int32) (x3 : Int32) : Option (Int32 × gS) :=
  (X7_isPlace σ x1 x2 x3).bind fun r2 => if r2 = 0 then ((X7_keepState σ).bind fun σ5 => (X7_doPlace σ5 x1 x2 x3).bind fun q7 => lt_ (g_up q7.2 132 8 q7.1) fun σ8 => if (σ8 132 8) ≤ 0 then ((X7_change σ8).bind fun σ11 => some (0, σ11)) else (some (0, σ8))) else ((X7_on σ (((2 : Int32) * x1) + x2)).bind fun r13 => (X7_keepState σ).bind fun σ15 => (X7_doPlace σ15 x1 x2 x3).bind fun q17 => lt_ (g_up q17.2 132 8 q17.1) fun σ18 => if (σ18 132 8) ≤ 0 then ((X7_change σ18).bind fun σ21 => some (r13, σ21)) else (some (0, σ18)))
set_option maxHeartbeats 4000000 in
set_option maxRecDepth 100000 in
theorem c_X7_place (l : Launch) (D : va_G) (y : ClassId × ClassId × ClassId) (ad : Nat → Nat) (x1 : Int32) (x2 : Int32) (x3 : Int32) (σ : gS) (sz : Nat) {q : Int32 × gS} (h : X7_place σ x1 x2 x3 = some q) : Met l yX7_place (Cond.code yX7_place cX7_place 5 (some .int) :: gl) ({ frames := 8, cells := 0, slots := 0, locals := 180 }) (g_Pc D y ad σ sz [.ref (ad 132), .int x1, .int x2, .int x3]) (g_Qi D y ad q.2 sz q.1) 0 0 (g_A ad sz) := by
  have ho := h
  unfold X7_place at ho
  refine g_start (by decide) (Nat.le_of_ble_eq_true rfl) (fun p e s m below meth c ls hC hr hlk hsz hW hl => ?_)
  have hx := hC.1
  have hcd := hC.2.1
  have hl : lv_has ls 5 [(0, .ref (ad 132)), (1, .int x1), (2, .int x2), (3, .int x3)] := hl
  refine lv_aload_n hx hcd dX7_place_0 rfl (lv_at hl 0 rfl) ?_
  refine lv_iload_n hx hcd dX7_place_1 rfl (lv_at hl 1 rfl) ?_
  refine lv_iload_n hx hcd dX7_place_2 rfl (lv_at hl 2 rfl) ?_
  refine lv_iload_n hx hcd dX7_place_3 rfl (lv_at hl 3 rfl) ?_
  obtain ⟨r2, h1, ho⟩ := gb_some ho
  refine g_calli hW (g_runV (As := [.int x1, .int x2, .int x3]) (rest := []) (i := 132) hC hW (c_X7_isPlace l D y ad x1 x2 x3 _ _ h1) ok_X7_145 ⟨rfl, rfl, Nat.le_of_ble_eq_true rfl, Nat.le_of_ble_eq_true rfl⟩ (by decide) rfl rfl rfl rfl hl.1 rfl (Nat.le_of_ble_eq_true rfl) dX7_place_4 ⟨Nat.zero_le _, Nat.zero_le _⟩) (fun H locs hW => ?_)
  refine lv_if_eq (tgt := 22) hx hcd dX7_place_7 (by decide) (fun c3 => ?_) (fun c3 => ?_)
  · have ho := gif_p ho c3
    refine lv_iconst (v := 0) hx hcd dX7_place_22 (by decide) ?_
    refine lv_istore (lv' := [(4, .int 0), (0, .ref (ad 132)), (1, .int x1), (2, .int x2), (3, .int x3)]) hx hcd dX7_place_23 hl (by decide) rfl (fun ls hl => ?_)
    refine lv_aload_n hx hcd dX7_place_25 rfl (lv_at hl 1 rfl) ?_
    obtain ⟨σ5, h4, ho⟩ := gb_some ho
    refine g_callv hW (g_runV (As := []) (rest := []) (i := 132) hC hW (c_X7_keepState l D y ad _ _ h4) ok_X7_64 ⟨rfl, rfl, Nat.le_of_ble_eq_true rfl, Nat.le_of_ble_eq_true rfl⟩ (by decide) rfl rfl rfl rfl hl.1 rfl (Nat.le_of_ble_eq_true rfl) dX7_place_26 ⟨Nat.zero_le _, Nat.zero_le _⟩) (fun H locs hW => ?_)
    refine lv_aload_n hx hcd dX7_place_29 rfl (lv_at hl 1 rfl) ?_
    refine lv_aload_n hx hcd dX7_place_30 rfl (lv_at hl 1 rfl) ?_
    refine lv_iload_n hx hcd dX7_place_31 rfl (lv_at hl 2 rfl) ?_
    refine lv_iload_n hx hcd dX7_place_32 rfl (lv_at hl 3 rfl) ?_
    refine lv_iload_n hx hcd dX7_place_33 rfl (lv_at hl 4 rfl) ?_
    obtain ⟨q7, h6, ho⟩ := gb_some ho
    refine g_calli hW (g_runV (As := [.int x1, .int x2, .int x3]) (rest := [.ref (ad 132)]) (i := 132) hC hW (c_X7_doPlace l D y ad x1 x2 x3 _ _ h6) ok_X7_154 ⟨rfl, rfl, Nat.le_of_ble_eq_true rfl, Nat.le_of_ble_eq_true rfl⟩ (by decide) rfl rfl rfl rfl hl.1 rfl (Nat.le_of_ble_eq_true rfl) dX7_place_34 ⟨Nat.zero_le _, Nat.zero_le _⟩) (fun H locs hW => ?_)
    obtain ⟨σ8, eσ8, ho⟩ := lt_ex ho
    refine g_puti hC hW (C := RX7) (T := TX7) (N := 19) (ci := 9) (k := 8) (index := 48) (i := 132) inGX7 tyX7 tyX7_ok nmX7 rfl (by decide) fl_X7_48 rfl (by decide) rfl rfl rfl rfl dX7_place_37 (fun H locs hW => ?_)
    rw [← eσ8] at hW
    refine lv_aload_n hx hcd dX7_place_40 rfl (lv_at hl 1 rfl) ?_
    refine g_geti hC hW (C := RX7) (T := TX7) (N := 19) (ci := 9) (k := 8) (index := 48) (i := 132) inGX7 rfl (by decide) fl_X7_48 (by decide) rfl rfl dX7_place_41 ?_
    refine lv_if_le (tgt := 49) hx hcd dX7_place_44 (by decide) (fun c9 => ?_) (fun c9 => ?_)
    · have ho := gif_p ho c9
      refine lv_aload_n hx hcd dX7_place_49 rfl (lv_at hl 1 rfl) ?_
      obtain ⟨σ11, h10, ho⟩ := gb_some ho
      refine g_callv hW (g_runV (As := []) (rest := []) (i := 132) hC hW (c_X7_change l D y ad _ _ h10) ok_X7_67 ⟨rfl, rfl, Nat.le_of_ble_eq_true rfl, Nat.le_of_ble_eq_true rfl⟩ (by decide) rfl rfl rfl rfl hl.1 rfl (Nat.le_of_ble_eq_true rfl) dX7_place_50 ⟨Nat.zero_le _, Nat.zero_le _⟩) (fun H locs hW => ?_)
      refine lv_iload hx hcd dX7_place_53 (lv_at hl 0 rfl) ?_
      obtain rfl := Option.some.inj ho
      exact g_iret hC hr hlk hsz hW dX7_place_55
    · have ho := gif_n ho c9
      refine lv_iconst (v := 0) hx hcd dX7_place_47 (by decide) ?_
      obtain rfl := Option.some.inj ho
      exact g_iret hC hr hlk hsz hW dX7_place_48
  · have ho := gif_n ho c3
    refine lv_aload_n hx hcd dX7_place_10 rfl (lv_at hl 0 rfl) ?_
    refine lv_iconst (v := 2) hx hcd dX7_place_11 (by decide) ?_
    refine lv_iload_n hx hcd dX7_place_12 rfl (lv_at hl 1 rfl) ?_
    refine lv_imul hx hcd dX7_place_13 ?_
    refine lv_iload_n hx hcd dX7_place_14 rfl (lv_at hl 2 rfl) ?_
    refine lv_iadd hx hcd dX7_place_15 ?_
    obtain ⟨r13, h12, ho⟩ := gb_some ho
    refine g_calli hW (g_runV (As := [.int (((2 : Int32) * x1) + x2)]) (rest := []) (i := 132) hC hW (c_X7_on l D y ad (((2 : Int32) * x1) + x2) _ _ h12) ok_X7_94 ⟨rfl, rfl, Nat.le_of_ble_eq_true rfl, Nat.le_of_ble_eq_true rfl⟩ (by decide) rfl rfl rfl rfl hl.1 rfl (Nat.le_of_ble_eq_true rfl) dX7_place_16 ⟨Nat.zero_le _, Nat.zero_le _⟩) (fun H locs hW => ?_)
    refine lv_goto (tgt := 23) hx hcd dX7_place_19 (by decide) ?_
    refine lv_istore (lv' := [(4, .int r13), (0, .ref (ad 132)), (1, .int x1), (2, .int x2), (3, .int x3)]) hx hcd dX7_place_23 hl (by decide) rfl (fun ls hl => ?_)
    refine lv_aload_n hx hcd dX7_place_25 rfl (lv_at hl 1 rfl) ?_
    obtain ⟨σ15, h14, ho⟩ := gb_some ho
    refine g_callv hW (g_runV (As := []) (rest := []) (i := 132) hC hW (c_X7_keepState l D y ad _ _ h14) ok_X7_64 ⟨rfl, rfl, Nat.le_of_ble_eq_true rfl, Nat.le_of_ble_eq_true rfl⟩ (by decide) rfl rfl rfl rfl hl.1 rfl (Nat.le_of_ble_eq_true rfl) dX7_place_26 ⟨Nat.zero_le _, Nat.zero_le _⟩) (fun H locs hW => ?_)
    refine lv_aload_n hx hcd dX7_place_29 rfl (lv_at hl 1 rfl) ?_
    refine lv_aload_n hx hcd dX7_place_30 rfl (lv_at hl 1 rfl) ?_
    refine lv_iload_n hx hcd dX7_place_31 rfl (lv_at hl 2 rfl) ?_
    refine lv_iload_n hx hcd dX7_place_32 rfl (lv_at hl 3 rfl) ?_
    refine lv_iload_n hx hcd dX7_place_33 rfl (lv_at hl 4 rfl) ?_
    obtain ⟨q17, h16, ho⟩ := gb_some ho
    refine g_calli hW (g_runV (As := [.int x1, .int x2, .int x3]) (rest := [.ref (ad 132)]) (i := 132) hC hW (c_X7_doPlace l D y ad x1 x2 x3 _ _ h16) ok_X7_154 ⟨rfl, rfl, Nat.le_of_ble_eq_true rfl, Nat.le_of_ble_eq_true rfl⟩ (by decide) rfl rfl rfl rfl hl.1 rfl (Nat.le_of_ble_eq_true rfl) dX7_place_34 ⟨Nat.zero_le _, Nat.zero_le _⟩) (fun H locs hW => ?_)
    obtain ⟨σ18, eσ18, ho⟩ := lt_ex ho
    refine g_puti hC hW (C := RX7) (T := TX7) (N := 19) (ci := 9) (k := 8) (index := 48) (i := 132) inGX7 tyX7 tyX7_ok nmX7 rfl (by decide) fl_X7_48 rfl (by decide) rfl rfl rfl rfl dX7_place_37 (fun H locs hW => ?_)
    rw [← eσ18] at hW
    refine lv_aload_n hx hcd dX7_place_40 rfl (lv_at hl 1 rfl) ?_
    refine g_geti hC hW (C := RX7) (T := TX7) (N := 19) (ci := 9) (k := 8) (index := 48) (i := 132) inGX7 rfl (by decide) fl_X7_48 (by decide) rfl rfl dX7_place_41 ?_
    refine lv_if_le (tgt := 49) hx hcd dX7_place_44 (by decide) (fun c19 => ?_) (fun c19 => ?_)
    · have ho := gif_p ho c19
      refine lv_aload_n hx hcd dX7_place_49 rfl (lv_at hl 1 rfl) ?_
      obtain ⟨σ21, h20, ho⟩ := gb_some ho
      refine g_callv hW (g_runV (As := []) (rest := []) (i := 132) hC hW (c_X7_change l D y ad _ _ h20) ok_X7_67 ⟨rfl, rfl, Nat.le_of_ble_eq_true rfl, Nat.le_of_ble_eq_true rfl⟩ (by decide) rfl rfl rfl rfl hl.1 rfl (Nat.le_of_ble_eq_true rfl) dX7_place_50 ⟨Nat.zero_le _, Nat.zero_le _⟩) (fun H locs hW => ?_)
      refine lv_iload hx hcd dX7_place_53 (lv_at hl 0 rfl) ?_
      obtain rfl := Option.some.inj ho
      exact g_iret hC hr hlk hsz hW dX7_place_55
    · have ho := gif_n ho c19
      refine lv_iconst (v := 0) hx hcd dX7_place_47 (by decide) ?_
      obtain rfl := Option.some.inj ho
      exact g_iret hC hr hlk hsz hW dX7_place_48
noncomputable def X7_whyNot (σ : gS) (x1 : Int32) (x2 : Int32) (x3 : Int32) : Option (Int32 × gS) :=
  (X7_isPlace σ x1 x2 x3).bind fun r2 => if r2 = 0 then (lt_ (g_up σ 132 8 1) fun σ4 => if (σ4 132 8) ≤ 0 then ((X7_why σ4 (((2 : Int32) * x1) + x2) x3).bind fun q7 => some (q7.1, q7.2)) else (some (0, σ4))) else (lt_ (g_up σ 132 8 0) fun σ8 => if (σ8 132 8) ≤ 0 then ((X7_why σ8 (((2 : Int32) * x1) + x2) x3).bind fun q11 => some (q11.1, q11.2)) else (some (0, σ8)))
set_option maxHeartbeats 4000000 in
set_option maxRecDepth 100000 in
theorem c_X7_whyNot (l : Launch) (D : va_G) (y : ClassId × ClassId × ClassId) (ad : Nat → Nat) (x1 : Int32) (x2 : Int32) (x3 : Int32) (σ : gS) (sz : Nat) {q : Int32 × gS} (h : X7_whyNot σ x1 x2 x3 = some q) : Met l yX7_whyNot (Cond.code yX7_whyNot cX7_whyNot 4 (some .int) :: gl) ({ frames := 7, cells := 0, slots := 0, locals := 156 }) (g_Pc D y ad σ sz [.ref (ad 132), .int x1, .int x2, .int x3]) (g_Qi D y ad q.2 sz q.1) 0 0 (g_A ad sz) := by
  have ho := h
  unfold X7_whyNot at ho
  refine g_start (by decide) (Nat.le_of_ble_eq_true rfl) (fun p e s m below meth c ls hC hr hlk hsz hW hl => ?_)
  have hx := hC.1
  have hcd := hC.2.1
  have hl : lv_has ls 4 [(0, .ref (ad 132)), (1, .int x1), (2, .int x2), (3, .int x3)] := hl
  refine lv_aload_n hx hcd dX7_whyNot_0 rfl (lv_at hl 0 rfl) ?_
  refine lv_aload_n hx hcd dX7_whyNot_1 rfl (lv_at hl 0 rfl) ?_
  refine lv_iload_n hx hcd dX7_whyNot_2 rfl (lv_at hl 1 rfl) ?_
  refine lv_iload_n hx hcd dX7_whyNot_3 rfl (lv_at hl 2 rfl) ?_
  refine lv_iload_n hx hcd dX7_whyNot_4 rfl (lv_at hl 3 rfl) ?_
  obtain ⟨r2, h1, ho⟩ := gb_some ho
  refine g_calli hW (g_runV (As := [.int x1, .int x2, .int x3]) (rest := [.ref (ad 132)]) (i := 132) hC hW (c_X7_isPlace l D y ad x1 x2 x3 _ _ h1) ok_X7_145 ⟨rfl, rfl, Nat.le_of_ble_eq_true rfl, Nat.le_of_ble_eq_true rfl⟩ (by decide) rfl rfl rfl rfl hl.1 rfl (Nat.le_of_ble_eq_true rfl) dX7_whyNot_5 ⟨Nat.zero_le _, Nat.zero_le _⟩) (fun H locs hW => ?_)
  refine lv_if_eq (tgt := 15) hx hcd dX7_whyNot_8 (by decide) (fun c3 => ?_) (fun c3 => ?_)
  · have ho := gif_p ho c3
    refine lv_iconst (v := 1) hx hcd dX7_whyNot_15 (by decide) ?_
    obtain ⟨σ4, eσ4, ho⟩ := lt_ex ho
    refine g_puti hC hW (C := RX7) (T := TX7) (N := 19) (ci := 9) (k := 8) (index := 48) (i := 132) inGX7 tyX7 tyX7_ok nmX7 rfl (by decide) fl_X7_48 rfl (by decide) rfl rfl rfl rfl dX7_whyNot_16 (fun H locs hW => ?_)
    rw [← eσ4] at hW
    refine lv_aload_n hx hcd dX7_whyNot_19 rfl (lv_at hl 0 rfl) ?_
    refine g_geti hC hW (C := RX7) (T := TX7) (N := 19) (ci := 9) (k := 8) (index := 48) (i := 132) inGX7 rfl (by decide) fl_X7_48 (by decide) rfl rfl dX7_whyNot_20 ?_
    refine lv_if_le (tgt := 30) hx hcd dX7_whyNot_23 (by decide) (fun c5 => ?_) (fun c5 => ?_)
    · have ho := gif_p ho c5
      refine lv_aload_n hx hcd dX7_whyNot_30 rfl (lv_at hl 0 rfl) ?_
      refine lv_iconst (v := 2) hx hcd dX7_whyNot_31 (by decide) ?_
      refine lv_iload_n hx hcd dX7_whyNot_32 rfl (lv_at hl 1 rfl) ?_
      refine lv_imul hx hcd dX7_whyNot_33 ?_
      refine lv_iload_n hx hcd dX7_whyNot_34 rfl (lv_at hl 2 rfl) ?_
      refine lv_iadd hx hcd dX7_whyNot_35 ?_
      refine lv_iload_n hx hcd dX7_whyNot_36 rfl (lv_at hl 3 rfl) ?_
      obtain ⟨q7, h6, ho⟩ := gb_some ho
      refine g_calli hW (g_runV (As := [.int (((2 : Int32) * x1) + x2), .int x3]) (rest := []) (i := 132) hC hW (c_X7_why l D y ad (((2 : Int32) * x1) + x2) x3 _ _ h6) ok_X7_148 ⟨rfl, rfl, Nat.le_of_ble_eq_true rfl, Nat.le_of_ble_eq_true rfl⟩ (by decide) rfl rfl rfl rfl hl.1 rfl (Nat.le_of_ble_eq_true rfl) dX7_whyNot_37 ⟨Nat.zero_le _, Nat.zero_le _⟩) (fun H locs hW => ?_)
      obtain rfl := Option.some.inj ho
      exact g_iret hC hr hlk hsz hW dX7_whyNot_40
    · have ho := gif_n ho c5
      refine lv_iconst (v := 0) hx hcd dX7_whyNot_26 (by decide) ?_
      refine lv_goto (tgt := 40) hx hcd dX7_whyNot_27 (by decide) ?_
      obtain rfl := Option.some.inj ho
      exact g_iret hC hr hlk hsz hW dX7_whyNot_40
  · have ho := gif_n ho c3
    refine lv_iconst (v := 0) hx hcd dX7_whyNot_11 (by decide) ?_
    refine lv_goto (tgt := 16) hx hcd dX7_whyNot_12 (by decide) ?_
    obtain ⟨σ8, eσ8, ho⟩ := lt_ex ho
    refine g_puti hC hW (C := RX7) (T := TX7) (N := 19) (ci := 9) (k := 8) (index := 48) (i := 132) inGX7 tyX7 tyX7_ok nmX7 rfl (by decide) fl_X7_48 rfl (by decide) rfl rfl rfl rfl dX7_whyNot_16 (fun H locs hW => ?_)
    rw [← eσ8] at hW
    refine lv_aload_n hx hcd dX7_whyNot_19 rfl (lv_at hl 0 rfl) ?_
    refine g_geti hC hW (C := RX7) (T := TX7) (N := 19) (ci := 9) (k := 8) (index := 48) (i := 132) inGX7 rfl (by decide) fl_X7_48 (by decide) rfl rfl dX7_whyNot_20 ?_
    refine lv_if_le (tgt := 30) hx hcd dX7_whyNot_23 (by decide) (fun c9 => ?_) (fun c9 => ?_)
    · have ho := gif_p ho c9
      refine lv_aload_n hx hcd dX7_whyNot_30 rfl (lv_at hl 0 rfl) ?_
      refine lv_iconst (v := 2) hx hcd dX7_whyNot_31 (by decide) ?_
      refine lv_iload_n hx hcd dX7_whyNot_32 rfl (lv_at hl 1 rfl) ?_
      refine lv_imul hx hcd dX7_whyNot_33 ?_
      refine lv_iload_n hx hcd dX7_whyNot_34 rfl (lv_at hl 2 rfl) ?_
      refine lv_iadd hx hcd dX7_whyNot_35 ?_
      refine lv_iload_n hx hcd dX7_whyNot_36 rfl (lv_at hl 3 rfl) ?_
      obtain ⟨q11, h10, ho⟩ := gb_some ho
      refine g_calli hW (g_runV (As := [.int (((2 : Int32) * x1) + x2), .int x3]) (rest := []) (i := 132) hC hW (c_X7_why l D y ad (((2 : Int32) * x1) + x2) x3 _ _ h10) ok_X7_148 ⟨rfl, rfl, Nat.le_of_ble_eq_true rfl, Nat.le_of_ble_eq_true rfl⟩ (by decide) rfl rfl rfl rfl hl.1 rfl (Nat.le_of_ble_eq_true rfl) dX7_whyNot_37 ⟨Nat.zero_le _, Nat.zero_le _⟩) (fun H locs hW => ?_)
      obtain rfl := Option.some.inj ho
      exact g_iret hC hr hlk hsz hW dX7_whyNot_40
    · have ho := gif_n ho c9
      refine lv_iconst (v := 0) hx hcd dX7_whyNot_26 (by decide) ?_
      refine lv_goto (tgt := 40) hx hcd dX7_whyNot_27 (by decide) ?_
      obtain rfl := Option.some.inj ho
      exact g_iret hC hr hlk hsz hW dX7_whyNot_40
noncomputable def X7_optionsOf_k0 (σ : gS) (x1 : Int32) (x2 : Int32) (x3 : Int32) : Option ((Int32 × Int32 × Int32 × gS) ⊕ (Int32 × gS)) :=
  if (σ 133 (0 : Int32).toNatClampNeg) ≤ x3 then (some (.inr (x2, σ))) else ((X7_why σ x1 x3).bind fun q3 => if q3.1 = 0 then (some (.inl (x1, (x2 ||| ((1 : Int32) <<< (x3 &&& 31))), (x3 + 1), q3.2))) else (some (.inl (x1, (x2 ||| (0 : Int32)), (x3 + 1), q3.2))))
noncomputable def X7_optionsOf_s (a : Int32 × Int32 × Int32 × gS) : Option ((Int32 × Int32 × Int32 × gS) ⊕ (Int32 × gS)) :=
  X7_optionsOf_k0 a.2.2.2 a.1 a.2.1 a.2.2.1
noncomputable def X7_optionsOf (σ : gS) (x1 : Int32) : Option (Int32 × gS) :=
  gr (X7_optionsOf_s) (x1, 0, 0, σ)
set_option maxHeartbeats 4000000 in
set_option maxRecDepth 100000 in
theorem l_X7_optionsOf {p : Program} {e : Env} {s : State} {m : MethodId} {args : Array Value} {below : List Frame} {meth : Method} {c : Code} (l : Launch) (D : va_G) (y : ClassId × ClassId × ClassId) (ad : Nat → Nat) (sz : Nat) (hC : g_C p s m args c cX7_optionsOf 4 RX7 D y) (hr : meth.sig.returnType = (some .int)) (hlk : meth.locks = false) (hsz : s.heap.size = sz) {r0 : Int32 × gS} : ∀ a : Int32 × Int32 × Int32 × gS, gr (X7_optionsOf_s) a = some r0 → ∀ (H : Heap) (locs : List Loc) (ls : Array Slot), g_W (g_A ad sz) s.heap D y ad [] a.2.2.2 H locs → lv_has ls 4 [(0, .ref (ad 132)), (1, .int a.1), (2, .int a.2.1), (3, .int a.2.2.1)] → W p l e ({ frames := 7, cells := 0, slots := 0, locals := 156 }) s m args below meth c H locs 0 0 (MQ below (g_Qi D y ad r0.2 sz r0.1) args s 0 0 (g_A ad sz)) (F0 m 4 ls []) := by
  have hx := hC.1
  have hcd := hC.2.1
  refine gr_all (fun a o ho hret hjmp => ?_)
  obtain ⟨x1, x2, x3, σ⟩ := a
  intro H locs ls hW hl
  have ho : X7_optionsOf_k0 σ x1 x2 x3 = some o := ho
  unfold X7_optionsOf_k0 at ho
  refine lv_iload_n hx hcd dX7_optionsOf_4 rfl (lv_at hl 3 rfl) ?_
  refine lv_aload_n hx hcd dX7_optionsOf_5 rfl (lv_at hl 0 rfl) ?_
  refine g_getr hC hW (C := RX7) (T := TX7) (N := 19) (ci := 9) (k := 0) (index := 9) (i := 132) (r := 133) inGX7 rfl (by decide) fl_X7_9 (by decide) rfl rfl dX7_optionsOf_6 ?_
  refine lv_iconst (v := 0) hx hcd dX7_optionsOf_9 (by decide) ?_
  refine g_iald hC hW (i := 133) (by decide) rfl (by decide) dX7_optionsOf_10 ?_
  refine lv_icmp_ge (tgt := 39) hx hcd dX7_optionsOf_11 (by decide) (fun c1 => ?_) (fun c1 => ?_)
  · have ho := gif_p ho c1
    refine lv_iload_n hx hcd dX7_optionsOf_39 rfl (lv_at hl 2 rfl) ?_
    obtain rfl := hret _ (Option.some.inj ho).symm
    exact g_iret hC hr hlk hsz hW dX7_optionsOf_40
  · have ho := gif_n ho c1
    refine lv_iload_n hx hcd dX7_optionsOf_14 rfl (lv_at hl 2 rfl) ?_
    refine lv_aload_n hx hcd dX7_optionsOf_15 rfl (lv_at hl 0 rfl) ?_
    refine lv_iload_n hx hcd dX7_optionsOf_16 rfl (lv_at hl 1 rfl) ?_
    refine lv_iload_n hx hcd dX7_optionsOf_17 rfl (lv_at hl 3 rfl) ?_
    obtain ⟨q3, h2, ho⟩ := gb_some ho
    refine g_calli hW (g_runV (As := [.int x1, .int x3]) (rest := [.int x2]) (i := 132) hC hW (c_X7_why l D y ad x1 x3 _ _ h2) ok_X7_148 ⟨rfl, rfl, Nat.le_of_ble_eq_true rfl, Nat.le_of_ble_eq_true rfl⟩ (by decide) rfl rfl rfl rfl hl.1 rfl (Nat.le_of_ble_eq_true rfl) dX7_optionsOf_18 ⟨Nat.zero_le _, Nat.zero_le _⟩) (fun H locs hW => ?_)
    refine lv_if_ne (tgt := 30) hx hcd dX7_optionsOf_21 (by decide) (fun c4 => ?_) (fun c4 => ?_)
    · have ho := gif_n ho c4
      refine lv_iconst (v := 0) hx hcd dX7_optionsOf_30 (by decide) ?_
      refine lv_ior hx hcd dX7_optionsOf_31 ?_
      refine lv_istore_n (lv' := [(2, .int (x2 ||| (0 : Int32))), (0, .ref (ad 132)), (1, .int x1), (3, .int x3)]) hx hcd dX7_optionsOf_32 rfl hl (by decide) rfl (fun ls hl => ?_)
      refine lv_iinc (v := x3 + 1) (lv' := [(3, .int (x3 + 1)), (2, .int (x2 ||| (0 : Int32))), (0, .ref (ad 132)), (1, .int x1)]) hx hcd dX7_optionsOf_33 hl (k := 3) rfl rfl (by decide) rfl (fun ls hl => ?_)
      refine lv_goto (tgt := 4) hx hcd dX7_optionsOf_36 (by decide) ?_
      exact hjmp _ (Option.some.inj ho).symm _ _ _ hW (lv_sub hl [2, 3, 1, 0] rfl)
    · have ho := gif_p ho c4
      refine lv_iconst (v := 1) hx hcd dX7_optionsOf_24 (by decide) ?_
      refine lv_iload_n hx hcd dX7_optionsOf_25 rfl (lv_at hl 3 rfl) ?_
      refine lv_ishl hx hcd dX7_optionsOf_26 ?_
      refine lv_goto (tgt := 31) hx hcd dX7_optionsOf_27 (by decide) ?_
      refine lv_ior hx hcd dX7_optionsOf_31 ?_
      refine lv_istore_n (lv' := [(2, .int (x2 ||| ((1 : Int32) <<< (x3 &&& 31)))), (0, .ref (ad 132)), (1, .int x1), (3, .int x3)]) hx hcd dX7_optionsOf_32 rfl hl (by decide) rfl (fun ls hl => ?_)
      refine lv_iinc (v := x3 + 1) (lv' := [(3, .int (x3 + 1)), (2, .int (x2 ||| ((1 : Int32) <<< (x3 &&& 31)))), (0, .ref (ad 132)), (1, .int x1)]) hx hcd dX7_optionsOf_33 hl (k := 3) rfl rfl (by decide) rfl (fun ls hl => ?_)
      refine lv_goto (tgt := 4) hx hcd dX7_optionsOf_36 (by decide) ?_
      exact hjmp _ (Option.some.inj ho).symm _ _ _ hW (lv_sub hl [2, 3, 1, 0] rfl)
set_option maxHeartbeats 4000000 in
set_option maxRecDepth 100000 in
theorem c_X7_optionsOf (l : Launch) (D : va_G) (y : ClassId × ClassId × ClassId) (ad : Nat → Nat) (x1 : Int32) (σ : gS) (sz : Nat) {q : Int32 × gS} (h : X7_optionsOf σ x1 = some q) : Met l yX7_optionsOf (Cond.code yX7_optionsOf cX7_optionsOf 4 (some .int) :: gl) ({ frames := 7, cells := 0, slots := 0, locals := 156 }) (g_Pc D y ad σ sz [.ref (ad 132), .int x1]) (g_Qi D y ad q.2 sz q.1) 0 0 (g_A ad sz) := by
  have ho := h
  unfold X7_optionsOf at ho
  refine g_start (by decide) (Nat.le_of_ble_eq_true rfl) (fun p e s m below meth c ls hC hr hlk hsz hW hl => ?_)
  have hx := hC.1
  have hcd := hC.2.1
  have hl : lv_has ls 4 [(0, .ref (ad 132)), (1, .int x1)] := hl
  refine lv_iconst (v := 0) hx hcd dX7_optionsOf_0 (by decide) ?_
  refine lv_istore_n (lv' := [(2, .int 0), (0, .ref (ad 132)), (1, .int x1)]) hx hcd dX7_optionsOf_1 rfl hl (by decide) rfl (fun ls hl => ?_)
  refine lv_iconst (v := 0) hx hcd dX7_optionsOf_2 (by decide) ?_
  refine lv_istore_n (lv' := [(3, .int 0), (2, .int 0), (0, .ref (ad 132)), (1, .int x1)]) hx hcd dX7_optionsOf_3 rfl hl (by decide) rfl (fun ls hl => ?_)
  exact l_X7_optionsOf l D y ad sz hC hr hlk hsz _ ho _ _ _ hW (lv_sub hl [2, 3, 1, 0] rfl)
noncomputable def X7_cheapestOf_k0 (σ : gS) (x2 : Int32) (x3 : Int32) : Option ((Nat × Int32 × Int32 × Int32 × gS) ⊕ (Int32 × gS)) :=
  if 3 ≤ x3 then (some (.inr ((-1), σ))) else (some (.inl (1, x2, x3, 0, σ)))
noncomputable def X7_cheapestOf_k1 (σ : gS) (x2 : Int32) (x3 : Int32) (x4 : Int32) : Option ((Nat × Int32 × Int32 × Int32 × gS) ⊕ (Int32 × gS)) :=
  if (σ 133 (0 : Int32).toNatClampNeg) ≤ x4 then (some (.inl (0, x2, (x3 + 1), 0, σ))) else (if ((x2 >>> (x4 &&& 31)) &&& (1 : Int32)) = 1 then (gd (ib ((4 : Int32) + x4) 162) <| if (σ 133 ((4 : Int32) + x4).toNatClampNeg) = x3 then (some (.inr (x4, σ))) else (some (.inl (1, x2, x3, (x4 + 1), σ)))) else (some (.inl (1, x2, x3, (x4 + 1), σ))))
noncomputable def X7_cheapestOf_s (a : Nat × Int32 × Int32 × Int32 × gS) : Option ((Nat × Int32 × Int32 × Int32 × gS) ⊕ (Int32 × gS)) :=
  if a.1 = 0 then X7_cheapestOf_k0 a.2.2.2.2 a.2.1 a.2.2.1 else if a.1 = 1 then X7_cheapestOf_k1 a.2.2.2.2 a.2.1 a.2.2.1 a.2.2.2.1 else none
noncomputable def X7_cheapestOf (σ : gS) (x1 : Int32) : Option (Int32 × gS) :=
  (X7_optionsOf σ x1).bind fun q2 => gr (X7_cheapestOf_s) (0, q2.1, 0, 0, q2.2)
set_option maxHeartbeats 4000000 in
set_option maxRecDepth 100000 in
theorem l_X7_cheapestOf {p : Program} {e : Env} {s : State} {m : MethodId} {args : Array Value} {below : List Frame} {meth : Method} {c : Code} (l : Launch) (D : va_G) (y : ClassId × ClassId × ClassId) (ad : Nat → Nat) (sz : Nat) (hC : g_C p s m args c cX7_cheapestOf 5 RX7 D y) (hr : meth.sig.returnType = (some .int)) (hlk : meth.locks = false) (hsz : s.heap.size = sz) {r0 : Int32 × gS} : ∀ a : Nat × Int32 × Int32 × Int32 × gS, gr (X7_cheapestOf_s) a = some r0 → ∀ (H : Heap) (locs : List Loc) (ls : Array Slot), g_W (g_A ad sz) s.heap D y ad [] a.2.2.2.2 H locs → (a.1 = 0 → lv_has ls 5 [(0, .ref (ad 132)), (2, .int a.2.1), (3, .int a.2.2.1)] → W p l e ({ frames := 8, cells := 0, slots := 0, locals := 179 }) s m args below meth c H locs 0 0 (MQ below (g_Qi D y ad r0.2 sz r0.1) args s 0 0 (g_A ad sz)) (F0 m 8 ls [])) ∧ (a.1 = 1 → lv_has ls 5 [(0, .ref (ad 132)), (2, .int a.2.1), (3, .int a.2.2.1), (4, .int a.2.2.2.1)] → W p l e ({ frames := 8, cells := 0, slots := 0, locals := 179 }) s m args below meth c H locs 0 0 (MQ below (g_Qi D y ad r0.2 sz r0.1) args s 0 0 (g_A ad sz)) (F0 m 16 ls [])) := by
  have hx := hC.1
  have hcd := hC.2.1
  refine gr_all (fun a o ho hret hjmp => ?_)
  obtain ⟨lb, y0, y1, y2, σ⟩ := a
  intro H locs ls hW
  refine ⟨?_, ?_⟩
  · intro hlb hl
    have hlb : lb = 0 := hlb
    subst hlb
    have ho : X7_cheapestOf_k0 σ y0 y1 = some o := ho
    unfold X7_cheapestOf_k0 at ho
    have hl : lv_has ls 5 [(0, .ref (ad 132)), (2, .int y0), (3, .int y1)] := hl
    have hW : g_W (g_A ad sz) s.heap D y ad [] σ H locs := hW
    refine lv_iload_n hx hcd dX7_cheapestOf_8 rfl (lv_at hl 2 rfl) ?_
    refine lv_iconst (v := 3) hx hcd dX7_cheapestOf_9 (by decide) ?_
    refine lv_icmp_ge (tgt := 65) hx hcd dX7_cheapestOf_10 (by decide) (fun c3 => ?_) (fun c3 => ?_)
    · have ho := gif_p ho c3
      refine lv_iconst (v := (-1)) hx hcd dX7_cheapestOf_65 (by decide) ?_
      obtain rfl := hret _ (Option.some.inj ho).symm
      exact g_iret hC hr hlk hsz hW dX7_cheapestOf_66
    · have ho := gif_n ho c3
      refine lv_iconst (v := 0) hx hcd dX7_cheapestOf_13 (by decide) ?_
      refine lv_istore (lv' := [(4, .int 0), (0, .ref (ad 132)), (2, .int y0), (3, .int y1)]) hx hcd dX7_cheapestOf_14 hl (by decide) rfl (fun ls hl => ?_)
      exact (hjmp _ (Option.some.inj ho).symm _ _ _ hW).2 rfl (lv_sub hl [1, 2, 3, 0] rfl)
  · intro hlb hl
    have hlb : lb = 1 := hlb
    subst hlb
    have ho : X7_cheapestOf_k1 σ y0 y1 y2 = some o := ho
    unfold X7_cheapestOf_k1 at ho
    have hl : lv_has ls 5 [(0, .ref (ad 132)), (2, .int y0), (3, .int y1), (4, .int y2)] := hl
    have hW : g_W (g_A ad sz) s.heap D y ad [] σ H locs := hW
    refine lv_iload hx hcd dX7_cheapestOf_16 (lv_at hl 3 rfl) ?_
    refine lv_aload_n hx hcd dX7_cheapestOf_18 rfl (lv_at hl 0 rfl) ?_
    refine g_getr hC hW (C := RX7) (T := TX7) (N := 19) (ci := 9) (k := 0) (index := 9) (i := 132) (r := 133) inGX7 rfl (by decide) fl_X7_9 (by decide) rfl rfl dX7_cheapestOf_19 ?_
    refine lv_iconst (v := 0) hx hcd dX7_cheapestOf_22 (by decide) ?_
    refine g_iald hC hW (i := 133) (by decide) rfl (by decide) dX7_cheapestOf_23 ?_
    refine lv_icmp_ge (tgt := 59) hx hcd dX7_cheapestOf_24 (by decide) (fun c4 => ?_) (fun c4 => ?_)
    · have ho := gif_p ho c4
      refine lv_iinc (v := y1 + 1) (lv' := [(3, .int (y1 + 1)), (0, .ref (ad 132)), (2, .int y0), (4, .int y2)]) hx hcd dX7_cheapestOf_59 hl (k := 2) rfl rfl (by decide) rfl (fun ls hl => ?_)
      refine lv_goto (tgt := 8) hx hcd dX7_cheapestOf_62 (by decide) ?_
      exact (hjmp _ (Option.some.inj ho).symm _ _ _ hW).1 rfl (lv_sub hl [1, 2, 0] rfl)
    · have ho := gif_n ho c4
      refine lv_iload_n hx hcd dX7_cheapestOf_27 rfl (lv_at hl 1 rfl) ?_
      refine lv_iload hx hcd dX7_cheapestOf_28 (lv_at hl 3 rfl) ?_
      refine lv_ishr hx hcd dX7_cheapestOf_30 ?_
      refine lv_iconst (v := 1) hx hcd dX7_cheapestOf_31 (by decide) ?_
      refine lv_iand hx hcd dX7_cheapestOf_32 ?_
      refine lv_iconst (v := 1) hx hcd dX7_cheapestOf_33 (by decide) ?_
      refine lv_icmp_ne (tgt := 53) hx hcd dX7_cheapestOf_34 (by decide) (fun c5 => ?_) (fun c5 => ?_)
      · have ho := gif_n ho c5
        refine lv_iinc (v := y2 + 1) (lv' := [(4, .int (y2 + 1)), (0, .ref (ad 132)), (2, .int y0), (3, .int y1)]) hx hcd dX7_cheapestOf_53 hl (k := 3) rfl rfl (by decide) rfl (fun ls hl => ?_)
        refine lv_goto (tgt := 16) hx hcd dX7_cheapestOf_56 (by decide) ?_
        exact (hjmp _ (Option.some.inj ho).symm _ _ _ hW).2 rfl (lv_sub hl [1, 2, 3, 0] rfl)
      · have ho := gif_p ho c5
        refine lv_aload_n hx hcd dX7_cheapestOf_37 rfl (lv_at hl 0 rfl) ?_
        refine g_getr hC hW (C := RX7) (T := TX7) (N := 19) (ci := 9) (k := 0) (index := 9) (i := 132) (r := 133) inGX7 rfl (by decide) fl_X7_9 (by decide) rfl rfl dX7_cheapestOf_38 ?_
        refine lv_iconst (v := 4) hx hcd dX7_cheapestOf_41 (by decide) ?_
        refine lv_iload hx hcd dX7_cheapestOf_42 (lv_at hl 3 rfl) ?_
        refine lv_iadd hx hcd dX7_cheapestOf_44 ?_
        obtain ⟨i6, ho⟩ := gd_some ho
        refine g_iald hC hW (i := 133) (by decide) rfl i6 dX7_cheapestOf_45 ?_
        refine lv_iload_n hx hcd dX7_cheapestOf_46 rfl (lv_at hl 2 rfl) ?_
        refine lv_icmp_ne (tgt := 53) hx hcd dX7_cheapestOf_47 (by decide) (fun c7 => ?_) (fun c7 => ?_)
        · have ho := gif_n ho c7
          refine lv_iinc (v := y2 + 1) (lv' := [(4, .int (y2 + 1)), (0, .ref (ad 132)), (2, .int y0), (3, .int y1)]) hx hcd dX7_cheapestOf_53 hl (k := 3) rfl rfl (by decide) rfl (fun ls hl => ?_)
          refine lv_goto (tgt := 16) hx hcd dX7_cheapestOf_56 (by decide) ?_
          exact (hjmp _ (Option.some.inj ho).symm _ _ _ hW).2 rfl (lv_sub hl [1, 2, 3, 0] rfl)
        · have ho := gif_p ho c7
          refine lv_iload hx hcd dX7_cheapestOf_50 (lv_at hl 3 rfl) ?_
          obtain rfl := hret _ (Option.some.inj ho).symm
          exact g_iret hC hr hlk hsz hW dX7_cheapestOf_52
set_option maxHeartbeats 4000000 in
set_option maxRecDepth 100000 in
theorem c_X7_cheapestOf (l : Launch) (D : va_G) (y : ClassId × ClassId × ClassId) (ad : Nat → Nat) (x1 : Int32) (σ : gS) (sz : Nat) {q : Int32 × gS} (h : X7_cheapestOf σ x1 = some q) : Met l yX7_cheapestOf (Cond.code yX7_cheapestOf cX7_cheapestOf 5 (some .int) :: gl) ({ frames := 8, cells := 0, slots := 0, locals := 179 }) (g_Pc D y ad σ sz [.ref (ad 132), .int x1]) (g_Qi D y ad q.2 sz q.1) 0 0 (g_A ad sz) := by
  have ho := h
  unfold X7_cheapestOf at ho
  refine g_start (by decide) (Nat.le_of_ble_eq_true rfl) (fun p e s m below meth c ls hC hr hlk hsz hW hl => ?_)
  have hx := hC.1
  have hcd := hC.2.1
  have hl : lv_has ls 5 [(0, .ref (ad 132)), (1, .int x1)] := hl
  refine lv_aload_n hx hcd dX7_cheapestOf_0 rfl (lv_at hl 0 rfl) ?_
  refine lv_iload_n hx hcd dX7_cheapestOf_1 rfl (lv_at hl 1 rfl) ?_
  obtain ⟨q2, h1, ho⟩ := gb_some ho
  refine g_calli hW (g_runV (As := [.int x1]) (rest := []) (i := 132) hC hW (c_X7_optionsOf l D y ad x1 _ _ h1) ok_X7_158 ⟨rfl, rfl, Nat.le_of_ble_eq_true rfl, Nat.le_of_ble_eq_true rfl⟩ (by decide) rfl rfl rfl rfl hl.1 rfl (Nat.le_of_ble_eq_true rfl) dX7_cheapestOf_2 ⟨Nat.zero_le _, Nat.zero_le _⟩) (fun H locs hW => ?_)
  refine lv_istore_n (lv' := [(2, .int q2.1), (0, .ref (ad 132)), (1, .int x1)]) hx hcd dX7_cheapestOf_5 rfl hl (by decide) rfl (fun ls hl => ?_)
  refine lv_iconst (v := 0) hx hcd dX7_cheapestOf_6 (by decide) ?_
  refine lv_istore_n (lv' := [(3, .int 0), (2, .int q2.1), (0, .ref (ad 132)), (1, .int x1)]) hx hcd dX7_cheapestOf_7 rfl hl (by decide) rfl (fun ls hl => ?_)
  exact (l_X7_cheapestOf l D y ad sz hC hr hlk hsz _ ho _ _ _ hW).1 rfl (lv_sub hl [2, 1, 0] rfl)
noncomputable def X7_options (σ : gS) (x1 : Int32) (x2 : Int32) : Option (Int32 × gS) :=
  (X7_isStay_ σ x1 x2).bind fun r2 => if r2 = 0 then (lt_ (g_up σ 132 8 1) fun σ4 => if (σ4 132 8) ≤ 0 then ((X7_optionsOf σ4 (((2 : Int32) * x1) + x2)).bind fun q7 => some (q7.1, q7.2)) else (some (0, σ4))) else (lt_ (g_up σ 132 8 0) fun σ8 => if (σ8 132 8) ≤ 0 then ((X7_optionsOf σ8 (((2 : Int32) * x1) + x2)).bind fun q11 => some (q11.1, q11.2)) else (some (0, σ8)))
set_option maxHeartbeats 4000000 in
set_option maxRecDepth 100000 in
theorem c_X7_options (l : Launch) (D : va_G) (y : ClassId × ClassId × ClassId) (ad : Nat → Nat) (x1 : Int32) (x2 : Int32) (σ : gS) (sz : Nat) {q : Int32 × gS} (h : X7_options σ x1 x2 = some q) : Met l yX7_options (Cond.code yX7_options cX7_options 3 (some .int) :: gl) ({ frames := 8, cells := 0, slots := 0, locals := 179 }) (g_Pc D y ad σ sz [.ref (ad 132), .int x1, .int x2]) (g_Qi D y ad q.2 sz q.1) 0 0 (g_A ad sz) := by
  have ho := h
  unfold X7_options at ho
  refine g_start (by decide) (Nat.le_of_ble_eq_true rfl) (fun p e s m below meth c ls hC hr hlk hsz hW hl => ?_)
  have hx := hC.1
  have hcd := hC.2.1
  have hl : lv_has ls 3 [(0, .ref (ad 132)), (1, .int x1), (2, .int x2)] := hl
  refine lv_aload_n hx hcd dX7_options_0 rfl (lv_at hl 0 rfl) ?_
  refine lv_aload_n hx hcd dX7_options_1 rfl (lv_at hl 0 rfl) ?_
  refine lv_iload_n hx hcd dX7_options_2 rfl (lv_at hl 1 rfl) ?_
  refine lv_iload_n hx hcd dX7_options_3 rfl (lv_at hl 2 rfl) ?_
  obtain ⟨r2, h1, ho⟩ := gb_some ho
  refine g_calli hW (g_runV (As := [.int x1, .int x2]) (rest := [.ref (ad 132)]) (i := 132) hC hW (c_X7_isStay_ l D y ad x1 x2 _ _ h1) ok_X7_139 ⟨rfl, rfl, Nat.le_of_ble_eq_true rfl, Nat.le_of_ble_eq_true rfl⟩ (by decide) rfl rfl rfl rfl hl.1 rfl (Nat.le_of_ble_eq_true rfl) dX7_options_4 ⟨Nat.zero_le _, Nat.zero_le _⟩) (fun H locs hW => ?_)
  refine lv_if_eq (tgt := 14) hx hcd dX7_options_7 (by decide) (fun c3 => ?_) (fun c3 => ?_)
  · have ho := gif_p ho c3
    refine lv_iconst (v := 1) hx hcd dX7_options_14 (by decide) ?_
    obtain ⟨σ4, eσ4, ho⟩ := lt_ex ho
    refine g_puti hC hW (C := RX7) (T := TX7) (N := 19) (ci := 9) (k := 8) (index := 48) (i := 132) inGX7 tyX7 tyX7_ok nmX7 rfl (by decide) fl_X7_48 rfl (by decide) rfl rfl rfl rfl dX7_options_15 (fun H locs hW => ?_)
    rw [← eσ4] at hW
    refine lv_aload_n hx hcd dX7_options_18 rfl (lv_at hl 0 rfl) ?_
    refine g_geti hC hW (C := RX7) (T := TX7) (N := 19) (ci := 9) (k := 8) (index := 48) (i := 132) inGX7 rfl (by decide) fl_X7_48 (by decide) rfl rfl dX7_options_19 ?_
    refine lv_if_le (tgt := 29) hx hcd dX7_options_22 (by decide) (fun c5 => ?_) (fun c5 => ?_)
    · have ho := gif_p ho c5
      refine lv_aload_n hx hcd dX7_options_29 rfl (lv_at hl 0 rfl) ?_
      refine lv_iconst (v := 2) hx hcd dX7_options_30 (by decide) ?_
      refine lv_iload_n hx hcd dX7_options_31 rfl (lv_at hl 1 rfl) ?_
      refine lv_imul hx hcd dX7_options_32 ?_
      refine lv_iload_n hx hcd dX7_options_33 rfl (lv_at hl 2 rfl) ?_
      refine lv_iadd hx hcd dX7_options_34 ?_
      obtain ⟨q7, h6, ho⟩ := gb_some ho
      refine g_calli hW (g_runV (As := [.int (((2 : Int32) * x1) + x2)]) (rest := []) (i := 132) hC hW (c_X7_optionsOf l D y ad (((2 : Int32) * x1) + x2) _ _ h6) ok_X7_158 ⟨rfl, rfl, Nat.le_of_ble_eq_true rfl, Nat.le_of_ble_eq_true rfl⟩ (by decide) rfl rfl rfl rfl hl.1 rfl (Nat.le_of_ble_eq_true rfl) dX7_options_35 ⟨Nat.zero_le _, Nat.zero_le _⟩) (fun H locs hW => ?_)
      obtain rfl := Option.some.inj ho
      exact g_iret hC hr hlk hsz hW dX7_options_38
    · have ho := gif_n ho c5
      refine lv_iconst (v := 0) hx hcd dX7_options_25 (by decide) ?_
      refine lv_goto (tgt := 38) hx hcd dX7_options_26 (by decide) ?_
      obtain rfl := Option.some.inj ho
      exact g_iret hC hr hlk hsz hW dX7_options_38
  · have ho := gif_n ho c3
    refine lv_iconst (v := 0) hx hcd dX7_options_10 (by decide) ?_
    refine lv_goto (tgt := 15) hx hcd dX7_options_11 (by decide) ?_
    obtain ⟨σ8, eσ8, ho⟩ := lt_ex ho
    refine g_puti hC hW (C := RX7) (T := TX7) (N := 19) (ci := 9) (k := 8) (index := 48) (i := 132) inGX7 tyX7 tyX7_ok nmX7 rfl (by decide) fl_X7_48 rfl (by decide) rfl rfl rfl rfl dX7_options_15 (fun H locs hW => ?_)
    rw [← eσ8] at hW
    refine lv_aload_n hx hcd dX7_options_18 rfl (lv_at hl 0 rfl) ?_
    refine g_geti hC hW (C := RX7) (T := TX7) (N := 19) (ci := 9) (k := 8) (index := 48) (i := 132) inGX7 rfl (by decide) fl_X7_48 (by decide) rfl rfl dX7_options_19 ?_
    refine lv_if_le (tgt := 29) hx hcd dX7_options_22 (by decide) (fun c9 => ?_) (fun c9 => ?_)
    · have ho := gif_p ho c9
      refine lv_aload_n hx hcd dX7_options_29 rfl (lv_at hl 0 rfl) ?_
      refine lv_iconst (v := 2) hx hcd dX7_options_30 (by decide) ?_
      refine lv_iload_n hx hcd dX7_options_31 rfl (lv_at hl 1 rfl) ?_
      refine lv_imul hx hcd dX7_options_32 ?_
      refine lv_iload_n hx hcd dX7_options_33 rfl (lv_at hl 2 rfl) ?_
      refine lv_iadd hx hcd dX7_options_34 ?_
      obtain ⟨q11, h10, ho⟩ := gb_some ho
      refine g_calli hW (g_runV (As := [.int (((2 : Int32) * x1) + x2)]) (rest := []) (i := 132) hC hW (c_X7_optionsOf l D y ad (((2 : Int32) * x1) + x2) _ _ h10) ok_X7_158 ⟨rfl, rfl, Nat.le_of_ble_eq_true rfl, Nat.le_of_ble_eq_true rfl⟩ (by decide) rfl rfl rfl rfl hl.1 rfl (Nat.le_of_ble_eq_true rfl) dX7_options_35 ⟨Nat.zero_le _, Nat.zero_le _⟩) (fun H locs hW => ?_)
      obtain rfl := Option.some.inj ho
      exact g_iret hC hr hlk hsz hW dX7_options_38
    · have ho := gif_n ho c9
      refine lv_iconst (v := 0) hx hcd dX7_options_25 (by decide) ?_
      refine lv_goto (tgt := 38) hx hcd dX7_options_26 (by decide) ?_
      obtain rfl := Option.some.inj ho
      exact g_iret hC hr hlk hsz hW dX7_options_38
noncomputable def X7_cheapest (σ : gS) (x1 : Int32) (x2 : Int32) : Option (Int32 × gS) :=
  (X7_isStay_ σ x1 x2).bind fun r2 => if r2 = 0 then (lt_ (g_up σ 132 8 1) fun σ15 => if (σ15 132 8) ≤ 0 then ((X7_cheapestOf σ15 (((2 : Int32) * x1) + x2)).bind fun q18 => some (q18.1, q18.2)) else (some (0, σ15))) else ((X7_cheapestOf σ (((2 : Int32) * x1) + x2)).bind fun q5 => if 0 ≤ q5.1 then (lt_ (g_up q5.2 132 8 0) fun σ7 => if (σ7 132 8) ≤ 0 then ((X7_cheapestOf σ7 (((2 : Int32) * x1) + x2)).bind fun q10 => some (q10.1, q10.2)) else (some (0, σ7))) else (lt_ (g_up q5.2 132 8 2) fun σ11 => if (σ11 132 8) ≤ 0 then ((X7_cheapestOf σ11 (((2 : Int32) * x1) + x2)).bind fun q14 => some (q14.1, q14.2)) else (some (0, σ11))))
set_option maxHeartbeats 4000000 in
set_option maxRecDepth 100000 in
theorem c_X7_cheapest (l : Launch) (D : va_G) (y : ClassId × ClassId × ClassId) (ad : Nat → Nat) (x1 : Int32) (x2 : Int32) (σ : gS) (sz : Nat) {q : Int32 × gS} (h : X7_cheapest σ x1 x2 = some q) : Met l yX7_cheapest (Cond.code yX7_cheapest cX7_cheapest 3 (some .int) :: gl) ({ frames := 9, cells := 0, slots := 0, locals := 203 }) (g_Pc D y ad σ sz [.ref (ad 132), .int x1, .int x2]) (g_Qi D y ad q.2 sz q.1) 0 0 (g_A ad sz) := by
  have ho := h
  unfold X7_cheapest at ho
  refine g_start (by decide) (Nat.le_of_ble_eq_true rfl) (fun p e s m below meth c ls hC hr hlk hsz hW hl => ?_)
  have hx := hC.1
  have hcd := hC.2.1
  have hl : lv_has ls 3 [(0, .ref (ad 132)), (1, .int x1), (2, .int x2)] := hl
  refine lv_aload_n hx hcd dX7_cheapest_0 rfl (lv_at hl 0 rfl) ?_
  refine lv_aload_n hx hcd dX7_cheapest_1 rfl (lv_at hl 0 rfl) ?_
  refine lv_iload_n hx hcd dX7_cheapest_2 rfl (lv_at hl 1 rfl) ?_
  refine lv_iload_n hx hcd dX7_cheapest_3 rfl (lv_at hl 2 rfl) ?_
  obtain ⟨r2, h1, ho⟩ := gb_some ho
  refine g_calli hW (g_runV (As := [.int x1, .int x2]) (rest := [.ref (ad 132)]) (i := 132) hC hW (c_X7_isStay_ l D y ad x1 x2 _ _ h1) ok_X7_139 ⟨rfl, rfl, Nat.le_of_ble_eq_true rfl, Nat.le_of_ble_eq_true rfl⟩ (by decide) rfl rfl rfl rfl hl.1 rfl (Nat.le_of_ble_eq_true rfl) dX7_cheapest_4 ⟨Nat.zero_le _, Nat.zero_le _⟩) (fun H locs hW => ?_)
  refine lv_if_ne (tgt := 14) hx hcd dX7_cheapest_7 (by decide) (fun c3 => ?_) (fun c3 => ?_)
  · have ho := gif_n ho c3
    refine lv_aload_n hx hcd dX7_cheapest_14 rfl (lv_at hl 0 rfl) ?_
    refine lv_iconst (v := 2) hx hcd dX7_cheapest_15 (by decide) ?_
    refine lv_iload_n hx hcd dX7_cheapest_16 rfl (lv_at hl 1 rfl) ?_
    refine lv_imul hx hcd dX7_cheapest_17 ?_
    refine lv_iload_n hx hcd dX7_cheapest_18 rfl (lv_at hl 2 rfl) ?_
    refine lv_iadd hx hcd dX7_cheapest_19 ?_
    obtain ⟨q5, h4, ho⟩ := gb_some ho
    refine g_calli hW (g_runV (As := [.int (((2 : Int32) * x1) + x2)]) (rest := [.ref (ad 132)]) (i := 132) hC hW (c_X7_cheapestOf l D y ad (((2 : Int32) * x1) + x2) _ _ h4) ok_X7_161 ⟨rfl, rfl, Nat.le_of_ble_eq_true rfl, Nat.le_of_ble_eq_true rfl⟩ (by decide) rfl rfl rfl rfl hl.1 rfl (Nat.le_of_ble_eq_true rfl) dX7_cheapest_20 ⟨Nat.zero_le _, Nat.zero_le _⟩) (fun H locs hW => ?_)
    refine lv_if_ge (tgt := 30) hx hcd dX7_cheapest_23 (by decide) (fun c6 => ?_) (fun c6 => ?_)
    · have ho := gif_p ho c6
      refine lv_iconst (v := 0) hx hcd dX7_cheapest_30 (by decide) ?_
      obtain ⟨σ7, eσ7, ho⟩ := lt_ex ho
      refine g_puti hC hW (C := RX7) (T := TX7) (N := 19) (ci := 9) (k := 8) (index := 48) (i := 132) inGX7 tyX7 tyX7_ok nmX7 rfl (by decide) fl_X7_48 rfl (by decide) rfl rfl rfl rfl dX7_cheapest_31 (fun H locs hW => ?_)
      rw [← eσ7] at hW
      refine lv_aload_n hx hcd dX7_cheapest_34 rfl (lv_at hl 0 rfl) ?_
      refine g_geti hC hW (C := RX7) (T := TX7) (N := 19) (ci := 9) (k := 8) (index := 48) (i := 132) inGX7 rfl (by decide) fl_X7_48 (by decide) rfl rfl dX7_cheapest_35 ?_
      refine lv_if_le (tgt := 45) hx hcd dX7_cheapest_38 (by decide) (fun c8 => ?_) (fun c8 => ?_)
      · have ho := gif_p ho c8
        refine lv_aload_n hx hcd dX7_cheapest_45 rfl (lv_at hl 0 rfl) ?_
        refine lv_iconst (v := 2) hx hcd dX7_cheapest_46 (by decide) ?_
        refine lv_iload_n hx hcd dX7_cheapest_47 rfl (lv_at hl 1 rfl) ?_
        refine lv_imul hx hcd dX7_cheapest_48 ?_
        refine lv_iload_n hx hcd dX7_cheapest_49 rfl (lv_at hl 2 rfl) ?_
        refine lv_iadd hx hcd dX7_cheapest_50 ?_
        obtain ⟨q10, h9, ho⟩ := gb_some ho
        refine g_calli hW (g_runV (As := [.int (((2 : Int32) * x1) + x2)]) (rest := []) (i := 132) hC hW (c_X7_cheapestOf l D y ad (((2 : Int32) * x1) + x2) _ _ h9) ok_X7_161 ⟨rfl, rfl, Nat.le_of_ble_eq_true rfl, Nat.le_of_ble_eq_true rfl⟩ (by decide) rfl rfl rfl rfl hl.1 rfl (Nat.le_of_ble_eq_true rfl) dX7_cheapest_51 ⟨Nat.zero_le _, Nat.zero_le _⟩) (fun H locs hW => ?_)
        obtain rfl := Option.some.inj ho
        exact g_iret hC hr hlk hsz hW dX7_cheapest_54
      · have ho := gif_n ho c8
        refine lv_iconst (v := 0) hx hcd dX7_cheapest_41 (by decide) ?_
        refine lv_goto (tgt := 54) hx hcd dX7_cheapest_42 (by decide) ?_
        obtain rfl := Option.some.inj ho
        exact g_iret hC hr hlk hsz hW dX7_cheapest_54
    · have ho := gif_n ho c6
      refine lv_iconst (v := 2) hx hcd dX7_cheapest_26 (by decide) ?_
      refine lv_goto (tgt := 31) hx hcd dX7_cheapest_27 (by decide) ?_
      obtain ⟨σ11, eσ11, ho⟩ := lt_ex ho
      refine g_puti hC hW (C := RX7) (T := TX7) (N := 19) (ci := 9) (k := 8) (index := 48) (i := 132) inGX7 tyX7 tyX7_ok nmX7 rfl (by decide) fl_X7_48 rfl (by decide) rfl rfl rfl rfl dX7_cheapest_31 (fun H locs hW => ?_)
      rw [← eσ11] at hW
      refine lv_aload_n hx hcd dX7_cheapest_34 rfl (lv_at hl 0 rfl) ?_
      refine g_geti hC hW (C := RX7) (T := TX7) (N := 19) (ci := 9) (k := 8) (index := 48) (i := 132) inGX7 rfl (by decide) fl_X7_48 (by decide) rfl rfl dX7_cheapest_35 ?_
      refine lv_if_le (tgt := 45) hx hcd dX7_cheapest_38 (by decide) (fun c12 => ?_) (fun c12 => ?_)
      · have ho := gif_p ho c12
        refine lv_aload_n hx hcd dX7_cheapest_45 rfl (lv_at hl 0 rfl) ?_
        refine lv_iconst (v := 2) hx hcd dX7_cheapest_46 (by decide) ?_
        refine lv_iload_n hx hcd dX7_cheapest_47 rfl (lv_at hl 1 rfl) ?_
        refine lv_imul hx hcd dX7_cheapest_48 ?_
        refine lv_iload_n hx hcd dX7_cheapest_49 rfl (lv_at hl 2 rfl) ?_
        refine lv_iadd hx hcd dX7_cheapest_50 ?_
        obtain ⟨q14, h13, ho⟩ := gb_some ho
        refine g_calli hW (g_runV (As := [.int (((2 : Int32) * x1) + x2)]) (rest := []) (i := 132) hC hW (c_X7_cheapestOf l D y ad (((2 : Int32) * x1) + x2) _ _ h13) ok_X7_161 ⟨rfl, rfl, Nat.le_of_ble_eq_true rfl, Nat.le_of_ble_eq_true rfl⟩ (by decide) rfl rfl rfl rfl hl.1 rfl (Nat.le_of_ble_eq_true rfl) dX7_cheapest_51 ⟨Nat.zero_le _, Nat.zero_le _⟩) (fun H locs hW => ?_)
        obtain rfl := Option.some.inj ho
        exact g_iret hC hr hlk hsz hW dX7_cheapest_54
      · have ho := gif_n ho c12
        refine lv_iconst (v := 0) hx hcd dX7_cheapest_41 (by decide) ?_
        refine lv_goto (tgt := 54) hx hcd dX7_cheapest_42 (by decide) ?_
        obtain rfl := Option.some.inj ho
        exact g_iret hC hr hlk hsz hW dX7_cheapest_54
  · have ho := gif_p ho c3
    refine lv_iconst (v := 1) hx hcd dX7_cheapest_10 (by decide) ?_
    refine lv_goto (tgt := 31) hx hcd dX7_cheapest_11 (by decide) ?_
    obtain ⟨σ15, eσ15, ho⟩ := lt_ex ho
    refine g_puti hC hW (C := RX7) (T := TX7) (N := 19) (ci := 9) (k := 8) (index := 48) (i := 132) inGX7 tyX7 tyX7_ok nmX7 rfl (by decide) fl_X7_48 rfl (by decide) rfl rfl rfl rfl dX7_cheapest_31 (fun H locs hW => ?_)
    rw [← eσ15] at hW
    refine lv_aload_n hx hcd dX7_cheapest_34 rfl (lv_at hl 0 rfl) ?_
    refine g_geti hC hW (C := RX7) (T := TX7) (N := 19) (ci := 9) (k := 8) (index := 48) (i := 132) inGX7 rfl (by decide) fl_X7_48 (by decide) rfl rfl dX7_cheapest_35 ?_
    refine lv_if_le (tgt := 45) hx hcd dX7_cheapest_38 (by decide) (fun c16 => ?_) (fun c16 => ?_)
    · have ho := gif_p ho c16
      refine lv_aload_n hx hcd dX7_cheapest_45 rfl (lv_at hl 0 rfl) ?_
      refine lv_iconst (v := 2) hx hcd dX7_cheapest_46 (by decide) ?_
      refine lv_iload_n hx hcd dX7_cheapest_47 rfl (lv_at hl 1 rfl) ?_
      refine lv_imul hx hcd dX7_cheapest_48 ?_
      refine lv_iload_n hx hcd dX7_cheapest_49 rfl (lv_at hl 2 rfl) ?_
      refine lv_iadd hx hcd dX7_cheapest_50 ?_
      obtain ⟨q18, h17, ho⟩ := gb_some ho
      refine g_calli hW (g_runV (As := [.int (((2 : Int32) * x1) + x2)]) (rest := []) (i := 132) hC hW (c_X7_cheapestOf l D y ad (((2 : Int32) * x1) + x2) _ _ h17) ok_X7_161 ⟨rfl, rfl, Nat.le_of_ble_eq_true rfl, Nat.le_of_ble_eq_true rfl⟩ (by decide) rfl rfl rfl rfl hl.1 rfl (Nat.le_of_ble_eq_true rfl) dX7_cheapest_51 ⟨Nat.zero_le _, Nat.zero_le _⟩) (fun H locs hW => ?_)
      obtain rfl := Option.some.inj ho
      exact g_iret hC hr hlk hsz hW dX7_cheapest_54
    · have ho := gif_n ho c16
      refine lv_iconst (v := 0) hx hcd dX7_cheapest_41 (by decide) ?_
      refine lv_goto (tgt := 54) hx hcd dX7_cheapest_42 (by decide) ?_
      obtain rfl := Option.some.inj ho
      exact g_iret hC hr hlk hsz hW dX7_cheapest_54
noncomputable def X7_doLift (σ : gS) (x1 : Int32) (x2 : Int32) : Option (Int32 × gS) :=
  (X7_isStay_ σ x1 x2).bind fun r2 => if r2 = 0 then (some (1, σ)) else ((X7_on σ (((2 : Int32) * x1) + x2)).bind fun r5 => if 0 ≤ r5 then ((X7_put σ (((2 : Int32) * x1) + x2) (-1)).bind fun σ8 => some (0, σ8)) else (some (2, σ)))
set_option maxHeartbeats 4000000 in
set_option maxRecDepth 100000 in
theorem c_X7_doLift (l : Launch) (D : va_G) (y : ClassId × ClassId × ClassId) (ad : Nat → Nat) (x1 : Int32) (x2 : Int32) (σ : gS) (sz : Nat) {q : Int32 × gS} (h : X7_doLift σ x1 x2 = some q) : Met l yX7_doLift (Cond.code yX7_doLift cX7_doLift 3 (some .int) :: gl) ({ frames := 4, cells := 0, slots := 0, locals := 86 }) (g_Pc D y ad σ sz [.ref (ad 132), .int x1, .int x2]) (g_Qi D y ad q.2 sz q.1) 0 0 (g_A ad sz) := by
  have ho := h
  unfold X7_doLift at ho
  refine g_start (by decide) (Nat.le_of_ble_eq_true rfl) (fun p e s m below meth c ls hC hr hlk hsz hW hl => ?_)
  have hx := hC.1
  have hcd := hC.2.1
  have hl : lv_has ls 3 [(0, .ref (ad 132)), (1, .int x1), (2, .int x2)] := hl
  refine lv_aload_n hx hcd dX7_doLift_0 rfl (lv_at hl 0 rfl) ?_
  refine lv_iload_n hx hcd dX7_doLift_1 rfl (lv_at hl 1 rfl) ?_
  refine lv_iload_n hx hcd dX7_doLift_2 rfl (lv_at hl 2 rfl) ?_
  obtain ⟨r2, h1, ho⟩ := gb_some ho
  refine g_calli hW (g_runV (As := [.int x1, .int x2]) (rest := []) (i := 132) hC hW (c_X7_isStay_ l D y ad x1 x2 _ _ h1) ok_X7_139 ⟨rfl, rfl, Nat.le_of_ble_eq_true rfl, Nat.le_of_ble_eq_true rfl⟩ (by decide) rfl rfl rfl rfl hl.1 rfl (Nat.le_of_ble_eq_true rfl) dX7_doLift_3 ⟨Nat.zero_le _, Nat.zero_le _⟩) (fun H locs hW => ?_)
  refine lv_if_ne (tgt := 11) hx hcd dX7_doLift_6 (by decide) (fun c3 => ?_) (fun c3 => ?_)
  · have ho := gif_n ho c3
    refine lv_aload_n hx hcd dX7_doLift_11 rfl (lv_at hl 0 rfl) ?_
    refine lv_iconst (v := 2) hx hcd dX7_doLift_12 (by decide) ?_
    refine lv_iload_n hx hcd dX7_doLift_13 rfl (lv_at hl 1 rfl) ?_
    refine lv_imul hx hcd dX7_doLift_14 ?_
    refine lv_iload_n hx hcd dX7_doLift_15 rfl (lv_at hl 2 rfl) ?_
    refine lv_iadd hx hcd dX7_doLift_16 ?_
    obtain ⟨r5, h4, ho⟩ := gb_some ho
    refine g_calli hW (g_runV (As := [.int (((2 : Int32) * x1) + x2)]) (rest := []) (i := 132) hC hW (c_X7_on l D y ad (((2 : Int32) * x1) + x2) _ _ h4) ok_X7_94 ⟨rfl, rfl, Nat.le_of_ble_eq_true rfl, Nat.le_of_ble_eq_true rfl⟩ (by decide) rfl rfl rfl rfl hl.1 rfl (Nat.le_of_ble_eq_true rfl) dX7_doLift_17 ⟨Nat.zero_le _, Nat.zero_le _⟩) (fun H locs hW => ?_)
    refine lv_if_ge (tgt := 25) hx hcd dX7_doLift_20 (by decide) (fun c6 => ?_) (fun c6 => ?_)
    · have ho := gif_p ho c6
      refine lv_aload_n hx hcd dX7_doLift_25 rfl (lv_at hl 0 rfl) ?_
      refine lv_iconst (v := 2) hx hcd dX7_doLift_26 (by decide) ?_
      refine lv_iload_n hx hcd dX7_doLift_27 rfl (lv_at hl 1 rfl) ?_
      refine lv_imul hx hcd dX7_doLift_28 ?_
      refine lv_iload_n hx hcd dX7_doLift_29 rfl (lv_at hl 2 rfl) ?_
      refine lv_iadd hx hcd dX7_doLift_30 ?_
      refine lv_iconst (v := (-1)) hx hcd dX7_doLift_31 (by decide) ?_
      obtain ⟨σ8, h7, ho⟩ := gb_some ho
      refine g_callv hW (g_runV (As := [.int (((2 : Int32) * x1) + x2), .int (-1)]) (rest := []) (i := 132) hC hW (c_X7_put l D y ad (((2 : Int32) * x1) + x2) (-1) _ _ h7) ok_X7_141 ⟨rfl, rfl, Nat.le_of_ble_eq_true rfl, Nat.le_of_ble_eq_true rfl⟩ (by decide) rfl rfl rfl rfl hl.1 rfl (Nat.le_of_ble_eq_true rfl) dX7_doLift_32 ⟨Nat.zero_le _, Nat.zero_le _⟩) (fun H locs hW => ?_)
      refine lv_iconst (v := 0) hx hcd dX7_doLift_35 (by decide) ?_
      obtain rfl := Option.some.inj ho
      exact g_iret hC hr hlk hsz hW dX7_doLift_36
    · have ho := gif_n ho c6
      refine lv_iconst (v := 2) hx hcd dX7_doLift_23 (by decide) ?_
      obtain rfl := Option.some.inj ho
      exact g_iret hC hr hlk hsz hW dX7_doLift_24
  · have ho := gif_p ho c3
    refine lv_iconst (v := 1) hx hcd dX7_doLift_9 (by decide) ?_
    obtain rfl := Option.some.inj ho
    exact g_iret hC hr hlk hsz hW dX7_doLift_10
noncomputable def X7_lift (σ : gS) (x1 : Int32) (x2 : Int32) : Option (Int32 × gS) :=
  (X7_isStay_ σ x1 x2).bind fun r2 => if r2 = 0 then ((X7_keepState σ).bind fun σ5 => (X7_doLift σ5 x1 x2).bind fun q7 => lt_ (g_up q7.2 132 8 q7.1) fun σ8 => if (σ8 132 8) ≤ 0 then ((X7_change σ8).bind fun σ11 => some (0, σ11)) else (some (0, σ8))) else ((X7_on σ (((2 : Int32) * x1) + x2)).bind fun r13 => (X7_keepState σ).bind fun σ15 => (X7_doLift σ15 x1 x2).bind fun q17 => lt_ (g_up q17.2 132 8 q17.1) fun σ18 => if (σ18 132 8) ≤ 0 then ((X7_change σ18).bind fun σ21 => some (r13, σ21)) else (some (0, σ18)))
set_option maxHeartbeats 4000000 in
set_option maxRecDepth 100000 in
theorem c_X7_lift (l : Launch) (D : va_G) (y : ClassId × ClassId × ClassId) (ad : Nat → Nat) (x1 : Int32) (x2 : Int32) (σ : gS) (sz : Nat) {q : Int32 × gS} (h : X7_lift σ x1 x2 = some q) : Met l yX7_lift (Cond.code yX7_lift cX7_lift 4 (some .int) :: gl) ({ frames := 5, cells := 0, slots := 0, locals := 108 }) (g_Pc D y ad σ sz [.ref (ad 132), .int x1, .int x2]) (g_Qi D y ad q.2 sz q.1) 0 0 (g_A ad sz) := by
  have ho := h
  unfold X7_lift at ho
  refine g_start (by decide) (Nat.le_of_ble_eq_true rfl) (fun p e s m below meth c ls hC hr hlk hsz hW hl => ?_)
  have hx := hC.1
  have hcd := hC.2.1
  have hl : lv_has ls 4 [(0, .ref (ad 132)), (1, .int x1), (2, .int x2)] := hl
  refine lv_aload_n hx hcd dX7_lift_0 rfl (lv_at hl 0 rfl) ?_
  refine lv_iload_n hx hcd dX7_lift_1 rfl (lv_at hl 1 rfl) ?_
  refine lv_iload_n hx hcd dX7_lift_2 rfl (lv_at hl 2 rfl) ?_
  obtain ⟨r2, h1, ho⟩ := gb_some ho
  refine g_calli hW (g_runV (As := [.int x1, .int x2]) (rest := []) (i := 132) hC hW (c_X7_isStay_ l D y ad x1 x2 _ _ h1) ok_X7_139 ⟨rfl, rfl, Nat.le_of_ble_eq_true rfl, Nat.le_of_ble_eq_true rfl⟩ (by decide) rfl rfl rfl rfl hl.1 rfl (Nat.le_of_ble_eq_true rfl) dX7_lift_3 ⟨Nat.zero_le _, Nat.zero_le _⟩) (fun H locs hW => ?_)
  refine lv_if_eq (tgt := 21) hx hcd dX7_lift_6 (by decide) (fun c3 => ?_) (fun c3 => ?_)
  · have ho := gif_p ho c3
    refine lv_iconst (v := 0) hx hcd dX7_lift_21 (by decide) ?_
    refine lv_istore_n (lv' := [(3, .int 0), (0, .ref (ad 132)), (1, .int x1), (2, .int x2)]) hx hcd dX7_lift_22 rfl hl (by decide) rfl (fun ls hl => ?_)
    refine lv_aload_n hx hcd dX7_lift_23 rfl (lv_at hl 1 rfl) ?_
    obtain ⟨σ5, h4, ho⟩ := gb_some ho
    refine g_callv hW (g_runV (As := []) (rest := []) (i := 132) hC hW (c_X7_keepState l D y ad _ _ h4) ok_X7_64 ⟨rfl, rfl, Nat.le_of_ble_eq_true rfl, Nat.le_of_ble_eq_true rfl⟩ (by decide) rfl rfl rfl rfl hl.1 rfl (Nat.le_of_ble_eq_true rfl) dX7_lift_24 ⟨Nat.zero_le _, Nat.zero_le _⟩) (fun H locs hW => ?_)
    refine lv_aload_n hx hcd dX7_lift_27 rfl (lv_at hl 1 rfl) ?_
    refine lv_aload_n hx hcd dX7_lift_28 rfl (lv_at hl 1 rfl) ?_
    refine lv_iload_n hx hcd dX7_lift_29 rfl (lv_at hl 2 rfl) ?_
    refine lv_iload_n hx hcd dX7_lift_30 rfl (lv_at hl 3 rfl) ?_
    obtain ⟨q7, h6, ho⟩ := gb_some ho
    refine g_calli hW (g_runV (As := [.int x1, .int x2]) (rest := [.ref (ad 132)]) (i := 132) hC hW (c_X7_doLift l D y ad x1 x2 _ _ h6) ok_X7_164 ⟨rfl, rfl, Nat.le_of_ble_eq_true rfl, Nat.le_of_ble_eq_true rfl⟩ (by decide) rfl rfl rfl rfl hl.1 rfl (Nat.le_of_ble_eq_true rfl) dX7_lift_31 ⟨Nat.zero_le _, Nat.zero_le _⟩) (fun H locs hW => ?_)
    obtain ⟨σ8, eσ8, ho⟩ := lt_ex ho
    refine g_puti hC hW (C := RX7) (T := TX7) (N := 19) (ci := 9) (k := 8) (index := 48) (i := 132) inGX7 tyX7 tyX7_ok nmX7 rfl (by decide) fl_X7_48 rfl (by decide) rfl rfl rfl rfl dX7_lift_34 (fun H locs hW => ?_)
    rw [← eσ8] at hW
    refine lv_aload_n hx hcd dX7_lift_37 rfl (lv_at hl 1 rfl) ?_
    refine g_geti hC hW (C := RX7) (T := TX7) (N := 19) (ci := 9) (k := 8) (index := 48) (i := 132) inGX7 rfl (by decide) fl_X7_48 (by decide) rfl rfl dX7_lift_38 ?_
    refine lv_if_le (tgt := 46) hx hcd dX7_lift_41 (by decide) (fun c9 => ?_) (fun c9 => ?_)
    · have ho := gif_p ho c9
      refine lv_aload_n hx hcd dX7_lift_46 rfl (lv_at hl 1 rfl) ?_
      obtain ⟨σ11, h10, ho⟩ := gb_some ho
      refine g_callv hW (g_runV (As := []) (rest := []) (i := 132) hC hW (c_X7_change l D y ad _ _ h10) ok_X7_67 ⟨rfl, rfl, Nat.le_of_ble_eq_true rfl, Nat.le_of_ble_eq_true rfl⟩ (by decide) rfl rfl rfl rfl hl.1 rfl (Nat.le_of_ble_eq_true rfl) dX7_lift_47 ⟨Nat.zero_le _, Nat.zero_le _⟩) (fun H locs hW => ?_)
      refine lv_iload_n hx hcd dX7_lift_50 rfl (lv_at hl 0 rfl) ?_
      obtain rfl := Option.some.inj ho
      exact g_iret hC hr hlk hsz hW dX7_lift_51
    · have ho := gif_n ho c9
      refine lv_iconst (v := 0) hx hcd dX7_lift_44 (by decide) ?_
      obtain rfl := Option.some.inj ho
      exact g_iret hC hr hlk hsz hW dX7_lift_45
  · have ho := gif_n ho c3
    refine lv_aload_n hx hcd dX7_lift_9 rfl (lv_at hl 0 rfl) ?_
    refine lv_iconst (v := 2) hx hcd dX7_lift_10 (by decide) ?_
    refine lv_iload_n hx hcd dX7_lift_11 rfl (lv_at hl 1 rfl) ?_
    refine lv_imul hx hcd dX7_lift_12 ?_
    refine lv_iload_n hx hcd dX7_lift_13 rfl (lv_at hl 2 rfl) ?_
    refine lv_iadd hx hcd dX7_lift_14 ?_
    obtain ⟨r13, h12, ho⟩ := gb_some ho
    refine g_calli hW (g_runV (As := [.int (((2 : Int32) * x1) + x2)]) (rest := []) (i := 132) hC hW (c_X7_on l D y ad (((2 : Int32) * x1) + x2) _ _ h12) ok_X7_94 ⟨rfl, rfl, Nat.le_of_ble_eq_true rfl, Nat.le_of_ble_eq_true rfl⟩ (by decide) rfl rfl rfl rfl hl.1 rfl (Nat.le_of_ble_eq_true rfl) dX7_lift_15 ⟨Nat.zero_le _, Nat.zero_le _⟩) (fun H locs hW => ?_)
    refine lv_goto (tgt := 22) hx hcd dX7_lift_18 (by decide) ?_
    refine lv_istore_n (lv' := [(3, .int r13), (0, .ref (ad 132)), (1, .int x1), (2, .int x2)]) hx hcd dX7_lift_22 rfl hl (by decide) rfl (fun ls hl => ?_)
    refine lv_aload_n hx hcd dX7_lift_23 rfl (lv_at hl 1 rfl) ?_
    obtain ⟨σ15, h14, ho⟩ := gb_some ho
    refine g_callv hW (g_runV (As := []) (rest := []) (i := 132) hC hW (c_X7_keepState l D y ad _ _ h14) ok_X7_64 ⟨rfl, rfl, Nat.le_of_ble_eq_true rfl, Nat.le_of_ble_eq_true rfl⟩ (by decide) rfl rfl rfl rfl hl.1 rfl (Nat.le_of_ble_eq_true rfl) dX7_lift_24 ⟨Nat.zero_le _, Nat.zero_le _⟩) (fun H locs hW => ?_)
    refine lv_aload_n hx hcd dX7_lift_27 rfl (lv_at hl 1 rfl) ?_
    refine lv_aload_n hx hcd dX7_lift_28 rfl (lv_at hl 1 rfl) ?_
    refine lv_iload_n hx hcd dX7_lift_29 rfl (lv_at hl 2 rfl) ?_
    refine lv_iload_n hx hcd dX7_lift_30 rfl (lv_at hl 3 rfl) ?_
    obtain ⟨q17, h16, ho⟩ := gb_some ho
    refine g_calli hW (g_runV (As := [.int x1, .int x2]) (rest := [.ref (ad 132)]) (i := 132) hC hW (c_X7_doLift l D y ad x1 x2 _ _ h16) ok_X7_164 ⟨rfl, rfl, Nat.le_of_ble_eq_true rfl, Nat.le_of_ble_eq_true rfl⟩ (by decide) rfl rfl rfl rfl hl.1 rfl (Nat.le_of_ble_eq_true rfl) dX7_lift_31 ⟨Nat.zero_le _, Nat.zero_le _⟩) (fun H locs hW => ?_)
    obtain ⟨σ18, eσ18, ho⟩ := lt_ex ho
    refine g_puti hC hW (C := RX7) (T := TX7) (N := 19) (ci := 9) (k := 8) (index := 48) (i := 132) inGX7 tyX7 tyX7_ok nmX7 rfl (by decide) fl_X7_48 rfl (by decide) rfl rfl rfl rfl dX7_lift_34 (fun H locs hW => ?_)
    rw [← eσ18] at hW
    refine lv_aload_n hx hcd dX7_lift_37 rfl (lv_at hl 1 rfl) ?_
    refine g_geti hC hW (C := RX7) (T := TX7) (N := 19) (ci := 9) (k := 8) (index := 48) (i := 132) inGX7 rfl (by decide) fl_X7_48 (by decide) rfl rfl dX7_lift_38 ?_
    refine lv_if_le (tgt := 46) hx hcd dX7_lift_41 (by decide) (fun c19 => ?_) (fun c19 => ?_)
    · have ho := gif_p ho c19
      refine lv_aload_n hx hcd dX7_lift_46 rfl (lv_at hl 1 rfl) ?_
      obtain ⟨σ21, h20, ho⟩ := gb_some ho
      refine g_callv hW (g_runV (As := []) (rest := []) (i := 132) hC hW (c_X7_change l D y ad _ _ h20) ok_X7_67 ⟨rfl, rfl, Nat.le_of_ble_eq_true rfl, Nat.le_of_ble_eq_true rfl⟩ (by decide) rfl rfl rfl rfl hl.1 rfl (Nat.le_of_ble_eq_true rfl) dX7_lift_47 ⟨Nat.zero_le _, Nat.zero_le _⟩) (fun H locs hW => ?_)
      refine lv_iload_n hx hcd dX7_lift_50 rfl (lv_at hl 0 rfl) ?_
      obtain rfl := Option.some.inj ho
      exact g_iret hC hr hlk hsz hW dX7_lift_51
    · have ho := gif_n ho c19
      refine lv_iconst (v := 0) hx hcd dX7_lift_44 (by decide) ?_
      obtain rfl := Option.some.inj ho
      exact g_iret hC hr hlk hsz hW dX7_lift_45
noncomputable def X7_reason (σ : gS) : Option (Int32 × gS) :=
  if (σ 132 7) = 0 then (lt_ (g_up σ 132 8 1) fun σ3 => some ((σ3 132 7), σ3)) else (lt_ (g_up σ 132 8 0) fun σ2 => some ((σ2 132 7), σ2))
set_option maxHeartbeats 4000000 in
set_option maxRecDepth 100000 in
theorem c_X7_reason (l : Launch) (D : va_G) (y : ClassId × ClassId × ClassId) (ad : Nat → Nat) (σ : gS) (sz : Nat) {q : Int32 × gS} (h : X7_reason σ = some q) : Met l yX7_reason (Cond.code yX7_reason cX7_reason 1 (some .int) :: gl) ({ frames := 0, cells := 0, slots := 0, locals := 0 }) (g_Pc D y ad σ sz [.ref (ad 132)]) (g_Qi D y ad q.2 sz q.1) 0 0 (g_A ad sz) := by
  have ho := h
  unfold X7_reason at ho
  refine g_start (by decide) (Nat.le_of_ble_eq_true rfl) (fun p e s m below meth c ls hC hr hlk hsz hW hl => ?_)
  have hx := hC.1
  have hcd := hC.2.1
  have hl : lv_has ls 1 [(0, .ref (ad 132))] := hl
  refine lv_aload_n hx hcd dX7_reason_0 rfl (lv_at hl 0 rfl) ?_
  refine lv_aload_n hx hcd dX7_reason_1 rfl (lv_at hl 0 rfl) ?_
  refine g_geti hC hW (C := RX7) (T := TX7) (N := 19) (ci := 9) (k := 7) (index := 151) (i := 132) inGX7 rfl (by decide) fl_X7_151 (by decide) rfl rfl dX7_reason_2 ?_
  refine lv_if_ne (tgt := 12) hx hcd dX7_reason_5 (by decide) (fun c1 => ?_) (fun c1 => ?_)
  · have ho := gif_n ho c1
    refine lv_iconst (v := 0) hx hcd dX7_reason_12 (by decide) ?_
    obtain ⟨σ2, eσ2, ho⟩ := lt_ex ho
    refine g_puti hC hW (C := RX7) (T := TX7) (N := 19) (ci := 9) (k := 8) (index := 48) (i := 132) inGX7 tyX7 tyX7_ok nmX7 rfl (by decide) fl_X7_48 rfl (by decide) rfl rfl rfl rfl dX7_reason_13 (fun H locs hW => ?_)
    rw [← eσ2] at hW
    refine lv_aload_n hx hcd dX7_reason_16 rfl (lv_at hl 0 rfl) ?_
    refine g_geti hC hW (C := RX7) (T := TX7) (N := 19) (ci := 9) (k := 7) (index := 151) (i := 132) inGX7 rfl (by decide) fl_X7_151 (by decide) rfl rfl dX7_reason_17 ?_
    obtain rfl := Option.some.inj ho
    exact g_iret hC hr hlk hsz hW dX7_reason_20
  · have ho := gif_p ho c1
    refine lv_iconst (v := 1) hx hcd dX7_reason_8 (by decide) ?_
    refine lv_goto (tgt := 13) hx hcd dX7_reason_9 (by decide) ?_
    obtain ⟨σ3, eσ3, ho⟩ := lt_ex ho
    refine g_puti hC hW (C := RX7) (T := TX7) (N := 19) (ci := 9) (k := 8) (index := 48) (i := 132) inGX7 tyX7 tyX7_ok nmX7 rfl (by decide) fl_X7_48 rfl (by decide) rfl rfl rfl rfl dX7_reason_13 (fun H locs hW => ?_)
    rw [← eσ3] at hW
    refine lv_aload_n hx hcd dX7_reason_16 rfl (lv_at hl 0 rfl) ?_
    refine g_geti hC hW (C := RX7) (T := TX7) (N := 19) (ci := 9) (k := 7) (index := 151) (i := 132) inGX7 rfl (by decide) fl_X7_151 (by decide) rfl rfl dX7_reason_17 ?_
    obtain rfl := Option.some.inj ho
    exact g_iret hC hr hlk hsz hW dX7_reason_20
