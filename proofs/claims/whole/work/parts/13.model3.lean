noncomputable def X7_account_k0 (σ : gS) (x2 : Int32) (x3 : Int32) : Option ((Int32 × Int32 × gS) ⊕ (Int32 × gS)) :=
  if (σ 133 (1 : Int32).toNatClampNeg) ≤ x3 then (some (.inr (x2, σ))) else ((X7_isRemote σ ((2 : Int32) * x3)).bind fun r64 => if r64 = 0 then ((X7_isRemote σ (((2 : Int32) * x3) + (1 : Int32))).bind fun r70 => if r70 = 0 then (some (.inl ((x2 + (0 : Int32)), (x3 + 1), σ))) else ((X7_at σ x3).bind fun r73 => gd (ib (r73 + (3 : Int32)) 162) <| some (.inl ((x2 + (σ 133 (r73 + (3 : Int32)).toNatClampNeg)), (x3 + 1), σ)))) else ((X7_at σ x3).bind fun r67 => gd (ib (r67 + (3 : Int32)) 162) <| some (.inl ((x2 + (σ 133 (r67 + (3 : Int32)).toNatClampNeg)), (x3 + 1), σ))))
noncomputable def X7_account_s (a : Int32 × Int32 × gS) : Option ((Int32 × Int32 × gS) ⊕ (Int32 × gS)) :=
  X7_account_k0 a.2.2 a.1 a.2.1
noncomputable def X7_account (σ : gS) (x1 : Int32) : Option (Int32 × gS) :=
  (X7_in σ x1 0 10).bind fun r2 => if r2 = 0 then (lt_ (g_up σ 132 8 1) fun σ4 => if (σ4 132 8) ≤ 0 then (if x1 = 0 then (some ((σ4 133 (0 : Int32).toNatClampNeg), σ4)) else (if x1 = 1 then (some ((σ4 133 (1 : Int32).toNatClampNeg), σ4)) else (if x1 = 2 then ((X7_tows σ4).bind fun r10 => some (((σ4 133 (1 : Int32).toNatClampNeg) + r10), σ4)) else (if x1 = 3 then ((X7_overStays σ4 x1).bind fun r13 => some (r13, σ4)) else (if x1 = 4 then ((X7_cost σ4).bind fun r16 => some (r16, σ4)) else (if x1 = 5 then ((X7_tows σ4).bind fun r19 => some (r19, σ4)) else (if x1 = 6 then ((X7_overStays σ4 x1).bind fun r22 => some (r22, σ4)) else (if x1 = 7 then ((X7_overStays σ4 x1).bind fun r25 => some (r25, σ4)) else (if x1 = 8 then ((X7_overStays σ4 x1).bind fun r28 => some (r28, σ4)) else (if x1 = 9 then (some ((σ4 133 (3 : Int32).toNatClampNeg), σ4)) else (if x1 = 10 then (gr (X7_account_s) (0, 0, σ4)) else ((X7_overStays σ4 x1).bind fun r32 => some (r32, σ4))))))))))))) else (some (0, σ4))) else (lt_ (g_up σ 132 8 0) fun σ33 => if (σ33 132 8) ≤ 0 then (if x1 = 0 then (some ((σ33 133 (0 : Int32).toNatClampNeg), σ33)) else (if x1 = 1 then (some ((σ33 133 (1 : Int32).toNatClampNeg), σ33)) else (if x1 = 2 then ((X7_tows σ33).bind fun r39 => some (((σ33 133 (1 : Int32).toNatClampNeg) + r39), σ33)) else (if x1 = 3 then ((X7_overStays σ33 x1).bind fun r42 => some (r42, σ33)) else (if x1 = 4 then ((X7_cost σ33).bind fun r45 => some (r45, σ33)) else (if x1 = 5 then ((X7_tows σ33).bind fun r48 => some (r48, σ33)) else (if x1 = 6 then ((X7_overStays σ33 x1).bind fun r51 => some (r51, σ33)) else (if x1 = 7 then ((X7_overStays σ33 x1).bind fun r54 => some (r54, σ33)) else (if x1 = 8 then ((X7_overStays σ33 x1).bind fun r57 => some (r57, σ33)) else (if x1 = 9 then (some ((σ33 133 (3 : Int32).toNatClampNeg), σ33)) else (if x1 = 10 then (gr (X7_account_s) (0, 0, σ33)) else ((X7_overStays σ33 x1).bind fun r61 => some (r61, σ33))))))))))))) else (some (0, σ33)))
set_option maxHeartbeats 4000000 in
set_option maxRecDepth 100000 in
theorem l_X7_account {p : Program} {e : Env} {s : State} {m : MethodId} {args : Array Value} {below : List Frame} {meth : Method} {c : Code} (l : Launch) (D : va_G) (y : ClassId × ClassId × ClassId) (ad : Nat → Nat) (sz : Nat) (hC : g_C p s m args c cX7_account 4 RX7 D y) (hr : meth.sig.returnType = (some .int)) (hlk : meth.locks = false) (hsz : s.heap.size = sz) {r0 : Int32 × gS} : ∀ a : Int32 × Int32 × gS, gr (X7_account_s) a = some r0 → ∀ (H : Heap) (locs : List Loc) (ls : Array Slot), g_W (g_A ad sz) s.heap D y ad [] a.2.2 H locs → lv_has ls 4 [(0, .ref (ad 132)), (2, .int a.1), (3, .int a.2.1)] → W p l e ({ frames := 6, cells := 0, slots := 0, locals := 130 }) s m args below meth c H locs 0 0 (MQ below (g_Qi D y ad r0.2 sz r0.1) args s 0 0 (g_A ad sz)) (F0 m 135 ls []) := by
  have hx := hC.1
  have hcd := hC.2.1
  refine gr_all (fun a o ho hret hjmp => ?_)
  obtain ⟨x2, x3, σ⟩ := a
  intro H locs ls hW hl
  have ho : X7_account_k0 σ x2 x3 = some o := ho
  unfold X7_account_k0 at ho
  refine lv_iload_n hx hcd dX7_account_135 rfl (lv_at hl 2 rfl) ?_
  refine lv_aload_n hx hcd dX7_account_136 rfl (lv_at hl 0 rfl) ?_
  refine g_getr hC hW (C := RX7) (T := TX7) (N := 19) (ci := 9) (k := 0) (index := 9) (i := 132) (r := 133) inGX7 rfl (by decide) fl_X7_9 (by decide) rfl rfl dX7_account_137 ?_
  refine lv_iconst (v := 1) hx hcd dX7_account_140 (by decide) ?_
  refine g_iald hC hW (i := 133) (by decide) rfl (by decide) dX7_account_141 ?_
  refine lv_icmp_ge (tgt := 191) hx hcd dX7_account_142 (by decide) (fun c62 => ?_) (fun c62 => ?_)
  · have ho := gif_p ho c62
    refine lv_iload_n hx hcd dX7_account_191 rfl (lv_at hl 1 rfl) ?_
    obtain rfl := hret _ (Option.some.inj ho).symm
    exact g_iret hC hr hlk hsz hW dX7_account_192
  · have ho := gif_n ho c62
    refine lv_iload_n hx hcd dX7_account_145 rfl (lv_at hl 1 rfl) ?_
    refine lv_aload_n hx hcd dX7_account_146 rfl (lv_at hl 0 rfl) ?_
    refine lv_iconst (v := 2) hx hcd dX7_account_147 (by decide) ?_
    refine lv_iload_n hx hcd dX7_account_148 rfl (lv_at hl 2 rfl) ?_
    refine lv_imul hx hcd dX7_account_149 ?_
    obtain ⟨r64, h63, ho⟩ := gb_some ho
    refine g_calli hW (g_runV (As := [.int ((2 : Int32) * x3)]) (rest := [.int x2]) (i := 132) hC hW (c_X7_isRemote l D y ad ((2 : Int32) * x3) _ _ h63) ok_X7_216 ⟨rfl, rfl, Nat.le_of_ble_eq_true rfl, Nat.le_of_ble_eq_true rfl⟩ (by decide) rfl rfl rfl rfl hl.1 rfl (Nat.le_of_ble_eq_true rfl) dX7_account_150 ⟨Nat.zero_le _, Nat.zero_le _⟩) (fun H locs hW => ?_)
    refine lv_if_ne (tgt := 168) hx hcd dX7_account_153 (by decide) (fun c65 => ?_) (fun c65 => ?_)
    · have ho := gif_n ho c65
      refine lv_aload_n hx hcd dX7_account_168 rfl (lv_at hl 0 rfl) ?_
      refine g_getr hC hW (C := RX7) (T := TX7) (N := 19) (ci := 9) (k := 0) (index := 9) (i := 132) (r := 133) inGX7 rfl (by decide) fl_X7_9 (by decide) rfl rfl dX7_account_169 ?_
      refine lv_iload_n hx hcd dX7_account_172 rfl (lv_at hl 2 rfl) ?_
      obtain ⟨r67, h66, ho⟩ := gb_some ho
      refine g_calli hW (g_runS (As := [.int x3]) (rest := [.ref (ad 133), .int x2]) hC hW (c_X7_at l D y ad x3 _ _ h66) ok_X7_81 ⟨rfl, rfl, Nat.le_of_ble_eq_true rfl, Nat.le_of_ble_eq_true rfl⟩ rfl hl.1 rfl (Nat.le_of_ble_eq_true rfl) dX7_account_173 ⟨Nat.zero_le _, Nat.zero_le _⟩) (fun H locs hW => ?_)
      refine lv_iconst (v := 3) hx hcd dX7_account_176 (by decide) ?_
      refine lv_iadd hx hcd dX7_account_177 ?_
      obtain ⟨i68, ho⟩ := gd_some ho
      refine g_iald hC hW (i := 133) (by decide) rfl i68 dX7_account_178 ?_
      refine lv_goto (tgt := 183) hx hcd dX7_account_179 (by decide) ?_
      refine lv_iadd hx hcd dX7_account_183 ?_
      refine lv_istore_n (lv' := [(2, .int (x2 + (σ 133 (r67 + (3 : Int32)).toNatClampNeg))), (0, .ref (ad 132)), (3, .int x3)]) hx hcd dX7_account_184 rfl hl (by decide) rfl (fun ls hl => ?_)
      refine lv_iinc (v := x3 + 1) (lv' := [(3, .int (x3 + 1)), (2, .int (x2 + (σ 133 (r67 + (3 : Int32)).toNatClampNeg))), (0, .ref (ad 132))]) hx hcd dX7_account_185 hl (k := 2) rfl rfl (by decide) rfl (fun ls hl => ?_)
      refine lv_goto (tgt := 135) hx hcd dX7_account_188 (by decide) ?_
      exact hjmp _ (Option.some.inj ho).symm _ _ _ hW (lv_sub hl [2, 1, 0] rfl)
    · have ho := gif_p ho c65
      refine lv_aload_n hx hcd dX7_account_156 rfl (lv_at hl 0 rfl) ?_
      refine lv_iconst (v := 2) hx hcd dX7_account_157 (by decide) ?_
      refine lv_iload_n hx hcd dX7_account_158 rfl (lv_at hl 2 rfl) ?_
      refine lv_imul hx hcd dX7_account_159 ?_
      refine lv_iconst (v := 1) hx hcd dX7_account_160 (by decide) ?_
      refine lv_iadd hx hcd dX7_account_161 ?_
      obtain ⟨r70, h69, ho⟩ := gb_some ho
      refine g_calli hW (g_runV (As := [.int (((2 : Int32) * x3) + (1 : Int32))]) (rest := [.int x2]) (i := 132) hC hW (c_X7_isRemote l D y ad (((2 : Int32) * x3) + (1 : Int32)) _ _ h69) ok_X7_216 ⟨rfl, rfl, Nat.le_of_ble_eq_true rfl, Nat.le_of_ble_eq_true rfl⟩ (by decide) rfl rfl rfl rfl hl.1 rfl (Nat.le_of_ble_eq_true rfl) dX7_account_162 ⟨Nat.zero_le _, Nat.zero_le _⟩) (fun H locs hW => ?_)
      refine lv_if_eq (tgt := 182) hx hcd dX7_account_165 (by decide) (fun c71 => ?_) (fun c71 => ?_)
      · have ho := gif_p ho c71
        refine lv_iconst (v := 0) hx hcd dX7_account_182 (by decide) ?_
        refine lv_iadd hx hcd dX7_account_183 ?_
        refine lv_istore_n (lv' := [(2, .int (x2 + (0 : Int32))), (0, .ref (ad 132)), (3, .int x3)]) hx hcd dX7_account_184 rfl hl (by decide) rfl (fun ls hl => ?_)
        refine lv_iinc (v := x3 + 1) (lv' := [(3, .int (x3 + 1)), (2, .int (x2 + (0 : Int32))), (0, .ref (ad 132))]) hx hcd dX7_account_185 hl (k := 2) rfl rfl (by decide) rfl (fun ls hl => ?_)
        refine lv_goto (tgt := 135) hx hcd dX7_account_188 (by decide) ?_
        exact hjmp _ (Option.some.inj ho).symm _ _ _ hW (lv_sub hl [2, 1, 0] rfl)
      · have ho := gif_n ho c71
        refine lv_aload_n hx hcd dX7_account_168 rfl (lv_at hl 0 rfl) ?_
        refine g_getr hC hW (C := RX7) (T := TX7) (N := 19) (ci := 9) (k := 0) (index := 9) (i := 132) (r := 133) inGX7 rfl (by decide) fl_X7_9 (by decide) rfl rfl dX7_account_169 ?_
        refine lv_iload_n hx hcd dX7_account_172 rfl (lv_at hl 2 rfl) ?_
        obtain ⟨r73, h72, ho⟩ := gb_some ho
        refine g_calli hW (g_runS (As := [.int x3]) (rest := [.ref (ad 133), .int x2]) hC hW (c_X7_at l D y ad x3 _ _ h72) ok_X7_81 ⟨rfl, rfl, Nat.le_of_ble_eq_true rfl, Nat.le_of_ble_eq_true rfl⟩ rfl hl.1 rfl (Nat.le_of_ble_eq_true rfl) dX7_account_173 ⟨Nat.zero_le _, Nat.zero_le _⟩) (fun H locs hW => ?_)
        refine lv_iconst (v := 3) hx hcd dX7_account_176 (by decide) ?_
        refine lv_iadd hx hcd dX7_account_177 ?_
        obtain ⟨i74, ho⟩ := gd_some ho
        refine g_iald hC hW (i := 133) (by decide) rfl i74 dX7_account_178 ?_
        refine lv_goto (tgt := 183) hx hcd dX7_account_179 (by decide) ?_
        refine lv_iadd hx hcd dX7_account_183 ?_
        refine lv_istore_n (lv' := [(2, .int (x2 + (σ 133 (r73 + (3 : Int32)).toNatClampNeg))), (0, .ref (ad 132)), (3, .int x3)]) hx hcd dX7_account_184 rfl hl (by decide) rfl (fun ls hl => ?_)
        refine lv_iinc (v := x3 + 1) (lv' := [(3, .int (x3 + 1)), (2, .int (x2 + (σ 133 (r73 + (3 : Int32)).toNatClampNeg))), (0, .ref (ad 132))]) hx hcd dX7_account_185 hl (k := 2) rfl rfl (by decide) rfl (fun ls hl => ?_)
        refine lv_goto (tgt := 135) hx hcd dX7_account_188 (by decide) ?_
        exact hjmp _ (Option.some.inj ho).symm _ _ _ hW (lv_sub hl [2, 1, 0] rfl)
set_option maxHeartbeats 4000000 in
set_option maxRecDepth 100000 in
theorem c_X7_account (l : Launch) (D : va_G) (y : ClassId × ClassId × ClassId) (ad : Nat → Nat) (x1 : Int32) (σ : gS) (sz : Nat) {q : Int32 × gS} (h : X7_account σ x1 = some q) : Met l yX7_account (Cond.code yX7_account cX7_account 4 (some .int) :: gl) ({ frames := 6, cells := 0, slots := 0, locals := 130 }) (g_Pc D y ad σ sz [.ref (ad 132), .int x1]) (g_Qi D y ad q.2 sz q.1) 0 0 (g_A ad sz) := by
  have ho := h
  unfold X7_account at ho
  refine g_start (by decide) (Nat.le_of_ble_eq_true rfl) (fun p e s m below meth c ls hC hr hlk hsz hW hl => ?_)
  have hx := hC.1
  have hcd := hC.2.1
  have hl : lv_has ls 4 [(0, .ref (ad 132)), (1, .int x1)] := hl
  refine lv_aload_n hx hcd dX7_account_0 rfl (lv_at hl 0 rfl) ?_
  refine lv_iload_n hx hcd dX7_account_1 rfl (lv_at hl 1 rfl) ?_
  refine lv_iconst (v := 0) hx hcd dX7_account_2 (by decide) ?_
  refine lv_bipush (v := 10) hx hcd dX7_account_3 (by decide) ?_
  obtain ⟨r2, h1, ho⟩ := gb_some ho
  refine g_calli hW (g_runS (As := [.int x1, .int 0, .int 10]) (rest := [.ref (ad 132)]) hC hW (c_X7_in l D y ad x1 0 10 _ _ h1) ok_X7_51 ⟨rfl, rfl, Nat.le_of_ble_eq_true rfl, Nat.le_of_ble_eq_true rfl⟩ rfl hl.1 rfl (Nat.le_of_ble_eq_true rfl) dX7_account_5 ⟨Nat.zero_le _, Nat.zero_le _⟩) (fun H locs hW => ?_)
  refine lv_if_eq (tgt := 15) hx hcd dX7_account_8 (by decide) (fun c3 => ?_) (fun c3 => ?_)
  · have ho := gif_p ho c3
    refine lv_iconst (v := 1) hx hcd dX7_account_15 (by decide) ?_
    obtain ⟨σ4, eσ4, ho⟩ := lt_ex ho
    refine g_puti hC hW (C := RX7) (T := TX7) (N := 19) (ci := 9) (k := 8) (index := 48) (i := 132) inGX7 tyX7 tyX7_ok nmX7 rfl (by decide) fl_X7_48 rfl (by decide) rfl rfl rfl rfl dX7_account_16 (fun H locs hW => ?_)
    rw [← eσ4] at hW
    refine lv_aload_n hx hcd dX7_account_19 rfl (lv_at hl 0 rfl) ?_
    refine g_geti hC hW (C := RX7) (T := TX7) (N := 19) (ci := 9) (k := 8) (index := 48) (i := 132) inGX7 rfl (by decide) fl_X7_48 (by decide) rfl rfl dX7_account_20 ?_
    refine lv_if_le (tgt := 28) hx hcd dX7_account_23 (by decide) (fun c5 => ?_) (fun c5 => ?_)
    · have ho := gif_p ho c5
      refine lv_iload_n hx hcd dX7_account_28 rfl (lv_at hl 1 rfl) ?_
      by_cases c6 : x1 = 0
      · have ho := gif_p ho c6
        refine lv_tableIn (tgt := 88) hx hcd dX7_account_29 (by rw [c6]; decide) (by rw [c6]; decide) (by rw [c6]; rfl) (by decide) ?_
        refine lv_aload_n hx hcd dX7_account_88 rfl (lv_at hl 0 rfl) ?_
        refine g_getr hC hW (C := RX7) (T := TX7) (N := 19) (ci := 9) (k := 0) (index := 9) (i := 132) (r := 133) inGX7 rfl (by decide) fl_X7_9 (by decide) rfl rfl dX7_account_89 ?_
        refine lv_iconst (v := 0) hx hcd dX7_account_92 (by decide) ?_
        refine g_iald hC hW (i := 133) (by decide) rfl (by decide) dX7_account_93 ?_
        obtain rfl := Option.some.inj ho
        exact g_iret hC hr hlk hsz hW dX7_account_94
      have ho := gif_n ho c6
      by_cases c7 : x1 = 1
      · have ho := gif_p ho c7
        refine lv_tableIn (tgt := 95) hx hcd dX7_account_29 (by rw [c7]; decide) (by rw [c7]; decide) (by rw [c7]; rfl) (by decide) ?_
        refine lv_aload_n hx hcd dX7_account_95 rfl (lv_at hl 0 rfl) ?_
        refine g_getr hC hW (C := RX7) (T := TX7) (N := 19) (ci := 9) (k := 0) (index := 9) (i := 132) (r := 133) inGX7 rfl (by decide) fl_X7_9 (by decide) rfl rfl dX7_account_96 ?_
        refine lv_iconst (v := 1) hx hcd dX7_account_99 (by decide) ?_
        refine g_iald hC hW (i := 133) (by decide) rfl (by decide) dX7_account_100 ?_
        obtain rfl := Option.some.inj ho
        exact g_iret hC hr hlk hsz hW dX7_account_101
      have ho := gif_n ho c7
      by_cases c8 : x1 = 2
      · have ho := gif_p ho c8
        refine lv_tableIn (tgt := 102) hx hcd dX7_account_29 (by rw [c8]; decide) (by rw [c8]; decide) (by rw [c8]; rfl) (by decide) ?_
        refine lv_aload_n hx hcd dX7_account_102 rfl (lv_at hl 0 rfl) ?_
        refine g_getr hC hW (C := RX7) (T := TX7) (N := 19) (ci := 9) (k := 0) (index := 9) (i := 132) (r := 133) inGX7 rfl (by decide) fl_X7_9 (by decide) rfl rfl dX7_account_103 ?_
        refine lv_iconst (v := 1) hx hcd dX7_account_106 (by decide) ?_
        refine g_iald hC hW (i := 133) (by decide) rfl (by decide) dX7_account_107 ?_
        refine lv_aload_n hx hcd dX7_account_108 rfl (lv_at hl 0 rfl) ?_
        obtain ⟨r10, h9, ho⟩ := gb_some ho
        refine g_calli hW (g_runV (As := []) (rest := [.int (σ4 133 (1 : Int32).toNatClampNeg)]) (i := 132) hC hW (c_X7_tows l D y ad _ _ h9) ok_X7_213 ⟨rfl, rfl, Nat.le_of_ble_eq_true rfl, Nat.le_of_ble_eq_true rfl⟩ (by decide) rfl rfl rfl rfl hl.1 rfl (Nat.le_of_ble_eq_true rfl) dX7_account_109 ⟨Nat.zero_le _, Nat.zero_le _⟩) (fun H locs hW => ?_)
        refine lv_iadd hx hcd dX7_account_112 ?_
        obtain rfl := Option.some.inj ho
        exact g_iret hC hr hlk hsz hW dX7_account_113
      have ho := gif_n ho c8
      by_cases c11 : x1 = 3
      · have ho := gif_p ho c11
        refine lv_tableIn (tgt := 193) hx hcd dX7_account_29 (by rw [c11]; decide) (by rw [c11]; decide) (by rw [c11]; rfl) (by decide) ?_
        refine lv_aload_n hx hcd dX7_account_193 rfl (lv_at hl 0 rfl) ?_
        refine lv_iload_n hx hcd dX7_account_194 rfl (lv_at hl 1 rfl) ?_
        obtain ⟨r13, h12, ho⟩ := gb_some ho
        refine g_calli hW (g_runV (As := [.int x1]) (rest := []) (i := 132) hC hW (c_X7_overStays l D y ad x1 _ _ h12) ok_X7_219 ⟨rfl, rfl, Nat.le_of_ble_eq_true rfl, Nat.le_of_ble_eq_true rfl⟩ (by decide) rfl rfl rfl rfl hl.1 rfl (Nat.le_of_ble_eq_true rfl) dX7_account_195 ⟨Nat.zero_le _, Nat.zero_le _⟩) (fun H locs hW => ?_)
        obtain rfl := Option.some.inj ho
        exact g_iret hC hr hlk hsz hW dX7_account_198
      have ho := gif_n ho c11
      by_cases c14 : x1 = 4
      · have ho := gif_p ho c14
        refine lv_tableIn (tgt := 114) hx hcd dX7_account_29 (by rw [c14]; decide) (by rw [c14]; decide) (by rw [c14]; rfl) (by decide) ?_
        refine lv_aload_n hx hcd dX7_account_114 rfl (lv_at hl 0 rfl) ?_
        obtain ⟨r16, h15, ho⟩ := gb_some ho
        refine g_calli hW (g_runV (As := []) (rest := []) (i := 132) hC hW (c_X7_cost l D y ad _ _ h15) ok_X7_186 ⟨rfl, rfl, Nat.le_of_ble_eq_true rfl, Nat.le_of_ble_eq_true rfl⟩ (by decide) rfl rfl rfl rfl hl.1 rfl (Nat.le_of_ble_eq_true rfl) dX7_account_115 ⟨Nat.zero_le _, Nat.zero_le _⟩) (fun H locs hW => ?_)
        obtain rfl := Option.some.inj ho
        exact g_iret hC hr hlk hsz hW dX7_account_118
      have ho := gif_n ho c14
      by_cases c17 : x1 = 5
      · have ho := gif_p ho c17
        refine lv_tableIn (tgt := 119) hx hcd dX7_account_29 (by rw [c17]; decide) (by rw [c17]; decide) (by rw [c17]; rfl) (by decide) ?_
        refine lv_aload_n hx hcd dX7_account_119 rfl (lv_at hl 0 rfl) ?_
        obtain ⟨r19, h18, ho⟩ := gb_some ho
        refine g_calli hW (g_runV (As := []) (rest := []) (i := 132) hC hW (c_X7_tows l D y ad _ _ h18) ok_X7_213 ⟨rfl, rfl, Nat.le_of_ble_eq_true rfl, Nat.le_of_ble_eq_true rfl⟩ (by decide) rfl rfl rfl rfl hl.1 rfl (Nat.le_of_ble_eq_true rfl) dX7_account_120 ⟨Nat.zero_le _, Nat.zero_le _⟩) (fun H locs hW => ?_)
        obtain rfl := Option.some.inj ho
        exact g_iret hC hr hlk hsz hW dX7_account_123
      have ho := gif_n ho c17
      by_cases c20 : x1 = 6
      · have ho := gif_p ho c20
        refine lv_tableIn (tgt := 193) hx hcd dX7_account_29 (by rw [c20]; decide) (by rw [c20]; decide) (by rw [c20]; rfl) (by decide) ?_
        refine lv_aload_n hx hcd dX7_account_193 rfl (lv_at hl 0 rfl) ?_
        refine lv_iload_n hx hcd dX7_account_194 rfl (lv_at hl 1 rfl) ?_
        obtain ⟨r22, h21, ho⟩ := gb_some ho
        refine g_calli hW (g_runV (As := [.int x1]) (rest := []) (i := 132) hC hW (c_X7_overStays l D y ad x1 _ _ h21) ok_X7_219 ⟨rfl, rfl, Nat.le_of_ble_eq_true rfl, Nat.le_of_ble_eq_true rfl⟩ (by decide) rfl rfl rfl rfl hl.1 rfl (Nat.le_of_ble_eq_true rfl) dX7_account_195 ⟨Nat.zero_le _, Nat.zero_le _⟩) (fun H locs hW => ?_)
        obtain rfl := Option.some.inj ho
        exact g_iret hC hr hlk hsz hW dX7_account_198
      have ho := gif_n ho c20
      by_cases c23 : x1 = 7
      · have ho := gif_p ho c23
        refine lv_tableIn (tgt := 193) hx hcd dX7_account_29 (by rw [c23]; decide) (by rw [c23]; decide) (by rw [c23]; rfl) (by decide) ?_
        refine lv_aload_n hx hcd dX7_account_193 rfl (lv_at hl 0 rfl) ?_
        refine lv_iload_n hx hcd dX7_account_194 rfl (lv_at hl 1 rfl) ?_
        obtain ⟨r25, h24, ho⟩ := gb_some ho
        refine g_calli hW (g_runV (As := [.int x1]) (rest := []) (i := 132) hC hW (c_X7_overStays l D y ad x1 _ _ h24) ok_X7_219 ⟨rfl, rfl, Nat.le_of_ble_eq_true rfl, Nat.le_of_ble_eq_true rfl⟩ (by decide) rfl rfl rfl rfl hl.1 rfl (Nat.le_of_ble_eq_true rfl) dX7_account_195 ⟨Nat.zero_le _, Nat.zero_le _⟩) (fun H locs hW => ?_)
        obtain rfl := Option.some.inj ho
        exact g_iret hC hr hlk hsz hW dX7_account_198
      have ho := gif_n ho c23
      by_cases c26 : x1 = 8
      · have ho := gif_p ho c26
        refine lv_tableIn (tgt := 193) hx hcd dX7_account_29 (by rw [c26]; decide) (by rw [c26]; decide) (by rw [c26]; rfl) (by decide) ?_
        refine lv_aload_n hx hcd dX7_account_193 rfl (lv_at hl 0 rfl) ?_
        refine lv_iload_n hx hcd dX7_account_194 rfl (lv_at hl 1 rfl) ?_
        obtain ⟨r28, h27, ho⟩ := gb_some ho
        refine g_calli hW (g_runV (As := [.int x1]) (rest := []) (i := 132) hC hW (c_X7_overStays l D y ad x1 _ _ h27) ok_X7_219 ⟨rfl, rfl, Nat.le_of_ble_eq_true rfl, Nat.le_of_ble_eq_true rfl⟩ (by decide) rfl rfl rfl rfl hl.1 rfl (Nat.le_of_ble_eq_true rfl) dX7_account_195 ⟨Nat.zero_le _, Nat.zero_le _⟩) (fun H locs hW => ?_)
        obtain rfl := Option.some.inj ho
        exact g_iret hC hr hlk hsz hW dX7_account_198
      have ho := gif_n ho c26
      by_cases c29 : x1 = 9
      · have ho := gif_p ho c29
        refine lv_tableIn (tgt := 124) hx hcd dX7_account_29 (by rw [c29]; decide) (by rw [c29]; decide) (by rw [c29]; rfl) (by decide) ?_
        refine lv_aload_n hx hcd dX7_account_124 rfl (lv_at hl 0 rfl) ?_
        refine g_getr hC hW (C := RX7) (T := TX7) (N := 19) (ci := 9) (k := 0) (index := 9) (i := 132) (r := 133) inGX7 rfl (by decide) fl_X7_9 (by decide) rfl rfl dX7_account_125 ?_
        refine lv_iconst (v := 3) hx hcd dX7_account_128 (by decide) ?_
        refine g_iald hC hW (i := 133) (by decide) rfl (by decide) dX7_account_129 ?_
        obtain rfl := Option.some.inj ho
        exact g_iret hC hr hlk hsz hW dX7_account_130
      have ho := gif_n ho c29
      by_cases c30 : x1 = 10
      · have ho := gif_p ho c30
        refine lv_tableIn (tgt := 131) hx hcd dX7_account_29 (by rw [c30]; decide) (by rw [c30]; decide) (by rw [c30]; rfl) (by decide) ?_
        refine lv_iconst (v := 0) hx hcd dX7_account_131 (by decide) ?_
        refine lv_istore_n (lv' := [(2, .int 0), (0, .ref (ad 132)), (1, .int x1)]) hx hcd dX7_account_132 rfl hl (by decide) rfl (fun ls hl => ?_)
        refine lv_iconst (v := 0) hx hcd dX7_account_133 (by decide) ?_
        refine lv_istore_n (lv' := [(3, .int 0), (2, .int 0), (0, .ref (ad 132)), (1, .int x1)]) hx hcd dX7_account_134 rfl hl (by decide) rfl (fun ls hl => ?_)
        exact l_X7_account l D y ad sz hC hr hlk hsz _ ho _ _ _ hW (lv_sub hl [2, 1, 0] rfl)
      have ho := gif_n ho c30
      refine lv_tableOut (tgt := 193) hx hcd dX7_account_29 (by have zc6 := lv_neT c6 (a := 0) rfl; have zc7 := lv_neT c7 (a := 1) rfl; have zc8 := lv_neT c8 (a := 2) rfl; have zc11 := lv_neT c11 (a := 3) rfl; have zc14 := lv_neT c14 (a := 4) rfl; have zc17 := lv_neT c17 (a := 5) rfl; have zc20 := lv_neT c20 (a := 6) rfl; have zc23 := lv_neT c23 (a := 7) rfl; have zc26 := lv_neT c26 (a := 8) rfl; have zc29 := lv_neT c29 (a := 9) rfl; have zc30 := lv_neT c30 (a := 10) rfl; omega) (by decide) ?_
      refine lv_aload_n hx hcd dX7_account_193 rfl (lv_at hl 0 rfl) ?_
      refine lv_iload_n hx hcd dX7_account_194 rfl (lv_at hl 1 rfl) ?_
      obtain ⟨r32, h31, ho⟩ := gb_some ho
      refine g_calli hW (g_runV (As := [.int x1]) (rest := []) (i := 132) hC hW (c_X7_overStays l D y ad x1 _ _ h31) ok_X7_219 ⟨rfl, rfl, Nat.le_of_ble_eq_true rfl, Nat.le_of_ble_eq_true rfl⟩ (by decide) rfl rfl rfl rfl hl.1 rfl (Nat.le_of_ble_eq_true rfl) dX7_account_195 ⟨Nat.zero_le _, Nat.zero_le _⟩) (fun H locs hW => ?_)
      obtain rfl := Option.some.inj ho
      exact g_iret hC hr hlk hsz hW dX7_account_198
    · have ho := gif_n ho c5
      refine lv_iconst (v := 0) hx hcd dX7_account_26 (by decide) ?_
      obtain rfl := Option.some.inj ho
      exact g_iret hC hr hlk hsz hW dX7_account_27
  · have ho := gif_n ho c3
    refine lv_iconst (v := 0) hx hcd dX7_account_11 (by decide) ?_
    refine lv_goto (tgt := 16) hx hcd dX7_account_12 (by decide) ?_
    obtain ⟨σ33, eσ33, ho⟩ := lt_ex ho
    refine g_puti hC hW (C := RX7) (T := TX7) (N := 19) (ci := 9) (k := 8) (index := 48) (i := 132) inGX7 tyX7 tyX7_ok nmX7 rfl (by decide) fl_X7_48 rfl (by decide) rfl rfl rfl rfl dX7_account_16 (fun H locs hW => ?_)
    rw [← eσ33] at hW
    refine lv_aload_n hx hcd dX7_account_19 rfl (lv_at hl 0 rfl) ?_
    refine g_geti hC hW (C := RX7) (T := TX7) (N := 19) (ci := 9) (k := 8) (index := 48) (i := 132) inGX7 rfl (by decide) fl_X7_48 (by decide) rfl rfl dX7_account_20 ?_
    refine lv_if_le (tgt := 28) hx hcd dX7_account_23 (by decide) (fun c34 => ?_) (fun c34 => ?_)
    · have ho := gif_p ho c34
      refine lv_iload_n hx hcd dX7_account_28 rfl (lv_at hl 1 rfl) ?_
      by_cases c35 : x1 = 0
      · have ho := gif_p ho c35
        refine lv_tableIn (tgt := 88) hx hcd dX7_account_29 (by rw [c35]; decide) (by rw [c35]; decide) (by rw [c35]; rfl) (by decide) ?_
        refine lv_aload_n hx hcd dX7_account_88 rfl (lv_at hl 0 rfl) ?_
        refine g_getr hC hW (C := RX7) (T := TX7) (N := 19) (ci := 9) (k := 0) (index := 9) (i := 132) (r := 133) inGX7 rfl (by decide) fl_X7_9 (by decide) rfl rfl dX7_account_89 ?_
        refine lv_iconst (v := 0) hx hcd dX7_account_92 (by decide) ?_
        refine g_iald hC hW (i := 133) (by decide) rfl (by decide) dX7_account_93 ?_
        obtain rfl := Option.some.inj ho
        exact g_iret hC hr hlk hsz hW dX7_account_94
      have ho := gif_n ho c35
      by_cases c36 : x1 = 1
      · have ho := gif_p ho c36
        refine lv_tableIn (tgt := 95) hx hcd dX7_account_29 (by rw [c36]; decide) (by rw [c36]; decide) (by rw [c36]; rfl) (by decide) ?_
        refine lv_aload_n hx hcd dX7_account_95 rfl (lv_at hl 0 rfl) ?_
        refine g_getr hC hW (C := RX7) (T := TX7) (N := 19) (ci := 9) (k := 0) (index := 9) (i := 132) (r := 133) inGX7 rfl (by decide) fl_X7_9 (by decide) rfl rfl dX7_account_96 ?_
        refine lv_iconst (v := 1) hx hcd dX7_account_99 (by decide) ?_
        refine g_iald hC hW (i := 133) (by decide) rfl (by decide) dX7_account_100 ?_
        obtain rfl := Option.some.inj ho
        exact g_iret hC hr hlk hsz hW dX7_account_101
      have ho := gif_n ho c36
      by_cases c37 : x1 = 2
      · have ho := gif_p ho c37
        refine lv_tableIn (tgt := 102) hx hcd dX7_account_29 (by rw [c37]; decide) (by rw [c37]; decide) (by rw [c37]; rfl) (by decide) ?_
        refine lv_aload_n hx hcd dX7_account_102 rfl (lv_at hl 0 rfl) ?_
        refine g_getr hC hW (C := RX7) (T := TX7) (N := 19) (ci := 9) (k := 0) (index := 9) (i := 132) (r := 133) inGX7 rfl (by decide) fl_X7_9 (by decide) rfl rfl dX7_account_103 ?_
        refine lv_iconst (v := 1) hx hcd dX7_account_106 (by decide) ?_
        refine g_iald hC hW (i := 133) (by decide) rfl (by decide) dX7_account_107 ?_
        refine lv_aload_n hx hcd dX7_account_108 rfl (lv_at hl 0 rfl) ?_
        obtain ⟨r39, h38, ho⟩ := gb_some ho
        refine g_calli hW (g_runV (As := []) (rest := [.int (σ33 133 (1 : Int32).toNatClampNeg)]) (i := 132) hC hW (c_X7_tows l D y ad _ _ h38) ok_X7_213 ⟨rfl, rfl, Nat.le_of_ble_eq_true rfl, Nat.le_of_ble_eq_true rfl⟩ (by decide) rfl rfl rfl rfl hl.1 rfl (Nat.le_of_ble_eq_true rfl) dX7_account_109 ⟨Nat.zero_le _, Nat.zero_le _⟩) (fun H locs hW => ?_)
        refine lv_iadd hx hcd dX7_account_112 ?_
        obtain rfl := Option.some.inj ho
        exact g_iret hC hr hlk hsz hW dX7_account_113
      have ho := gif_n ho c37
      by_cases c40 : x1 = 3
      · have ho := gif_p ho c40
        refine lv_tableIn (tgt := 193) hx hcd dX7_account_29 (by rw [c40]; decide) (by rw [c40]; decide) (by rw [c40]; rfl) (by decide) ?_
        refine lv_aload_n hx hcd dX7_account_193 rfl (lv_at hl 0 rfl) ?_
        refine lv_iload_n hx hcd dX7_account_194 rfl (lv_at hl 1 rfl) ?_
        obtain ⟨r42, h41, ho⟩ := gb_some ho
        refine g_calli hW (g_runV (As := [.int x1]) (rest := []) (i := 132) hC hW (c_X7_overStays l D y ad x1 _ _ h41) ok_X7_219 ⟨rfl, rfl, Nat.le_of_ble_eq_true rfl, Nat.le_of_ble_eq_true rfl⟩ (by decide) rfl rfl rfl rfl hl.1 rfl (Nat.le_of_ble_eq_true rfl) dX7_account_195 ⟨Nat.zero_le _, Nat.zero_le _⟩) (fun H locs hW => ?_)
        obtain rfl := Option.some.inj ho
        exact g_iret hC hr hlk hsz hW dX7_account_198
      have ho := gif_n ho c40
      by_cases c43 : x1 = 4
      · have ho := gif_p ho c43
        refine lv_tableIn (tgt := 114) hx hcd dX7_account_29 (by rw [c43]; decide) (by rw [c43]; decide) (by rw [c43]; rfl) (by decide) ?_
        refine lv_aload_n hx hcd dX7_account_114 rfl (lv_at hl 0 rfl) ?_
        obtain ⟨r45, h44, ho⟩ := gb_some ho
        refine g_calli hW (g_runV (As := []) (rest := []) (i := 132) hC hW (c_X7_cost l D y ad _ _ h44) ok_X7_186 ⟨rfl, rfl, Nat.le_of_ble_eq_true rfl, Nat.le_of_ble_eq_true rfl⟩ (by decide) rfl rfl rfl rfl hl.1 rfl (Nat.le_of_ble_eq_true rfl) dX7_account_115 ⟨Nat.zero_le _, Nat.zero_le _⟩) (fun H locs hW => ?_)
        obtain rfl := Option.some.inj ho
        exact g_iret hC hr hlk hsz hW dX7_account_118
      have ho := gif_n ho c43
      by_cases c46 : x1 = 5
      · have ho := gif_p ho c46
        refine lv_tableIn (tgt := 119) hx hcd dX7_account_29 (by rw [c46]; decide) (by rw [c46]; decide) (by rw [c46]; rfl) (by decide) ?_
        refine lv_aload_n hx hcd dX7_account_119 rfl (lv_at hl 0 rfl) ?_
        obtain ⟨r48, h47, ho⟩ := gb_some ho
        refine g_calli hW (g_runV (As := []) (rest := []) (i := 132) hC hW (c_X7_tows l D y ad _ _ h47) ok_X7_213 ⟨rfl, rfl, Nat.le_of_ble_eq_true rfl, Nat.le_of_ble_eq_true rfl⟩ (by decide) rfl rfl rfl rfl hl.1 rfl (Nat.le_of_ble_eq_true rfl) dX7_account_120 ⟨Nat.zero_le _, Nat.zero_le _⟩) (fun H locs hW => ?_)
        obtain rfl := Option.some.inj ho
        exact g_iret hC hr hlk hsz hW dX7_account_123
      have ho := gif_n ho c46
      by_cases c49 : x1 = 6
      · have ho := gif_p ho c49
        refine lv_tableIn (tgt := 193) hx hcd dX7_account_29 (by rw [c49]; decide) (by rw [c49]; decide) (by rw [c49]; rfl) (by decide) ?_
        refine lv_aload_n hx hcd dX7_account_193 rfl (lv_at hl 0 rfl) ?_
        refine lv_iload_n hx hcd dX7_account_194 rfl (lv_at hl 1 rfl) ?_
        obtain ⟨r51, h50, ho⟩ := gb_some ho
        refine g_calli hW (g_runV (As := [.int x1]) (rest := []) (i := 132) hC hW (c_X7_overStays l D y ad x1 _ _ h50) ok_X7_219 ⟨rfl, rfl, Nat.le_of_ble_eq_true rfl, Nat.le_of_ble_eq_true rfl⟩ (by decide) rfl rfl rfl rfl hl.1 rfl (Nat.le_of_ble_eq_true rfl) dX7_account_195 ⟨Nat.zero_le _, Nat.zero_le _⟩) (fun H locs hW => ?_)
        obtain rfl := Option.some.inj ho
        exact g_iret hC hr hlk hsz hW dX7_account_198
      have ho := gif_n ho c49
      by_cases c52 : x1 = 7
      · have ho := gif_p ho c52
        refine lv_tableIn (tgt := 193) hx hcd dX7_account_29 (by rw [c52]; decide) (by rw [c52]; decide) (by rw [c52]; rfl) (by decide) ?_
        refine lv_aload_n hx hcd dX7_account_193 rfl (lv_at hl 0 rfl) ?_
        refine lv_iload_n hx hcd dX7_account_194 rfl (lv_at hl 1 rfl) ?_
        obtain ⟨r54, h53, ho⟩ := gb_some ho
        refine g_calli hW (g_runV (As := [.int x1]) (rest := []) (i := 132) hC hW (c_X7_overStays l D y ad x1 _ _ h53) ok_X7_219 ⟨rfl, rfl, Nat.le_of_ble_eq_true rfl, Nat.le_of_ble_eq_true rfl⟩ (by decide) rfl rfl rfl rfl hl.1 rfl (Nat.le_of_ble_eq_true rfl) dX7_account_195 ⟨Nat.zero_le _, Nat.zero_le _⟩) (fun H locs hW => ?_)
        obtain rfl := Option.some.inj ho
        exact g_iret hC hr hlk hsz hW dX7_account_198
      have ho := gif_n ho c52
      by_cases c55 : x1 = 8
      · have ho := gif_p ho c55
        refine lv_tableIn (tgt := 193) hx hcd dX7_account_29 (by rw [c55]; decide) (by rw [c55]; decide) (by rw [c55]; rfl) (by decide) ?_
        refine lv_aload_n hx hcd dX7_account_193 rfl (lv_at hl 0 rfl) ?_
        refine lv_iload_n hx hcd dX7_account_194 rfl (lv_at hl 1 rfl) ?_
        obtain ⟨r57, h56, ho⟩ := gb_some ho
        refine g_calli hW (g_runV (As := [.int x1]) (rest := []) (i := 132) hC hW (c_X7_overStays l D y ad x1 _ _ h56) ok_X7_219 ⟨rfl, rfl, Nat.le_of_ble_eq_true rfl, Nat.le_of_ble_eq_true rfl⟩ (by decide) rfl rfl rfl rfl hl.1 rfl (Nat.le_of_ble_eq_true rfl) dX7_account_195 ⟨Nat.zero_le _, Nat.zero_le _⟩) (fun H locs hW => ?_)
        obtain rfl := Option.some.inj ho
        exact g_iret hC hr hlk hsz hW dX7_account_198
      have ho := gif_n ho c55
      by_cases c58 : x1 = 9
      · have ho := gif_p ho c58
        refine lv_tableIn (tgt := 124) hx hcd dX7_account_29 (by rw [c58]; decide) (by rw [c58]; decide) (by rw [c58]; rfl) (by decide) ?_
        refine lv_aload_n hx hcd dX7_account_124 rfl (lv_at hl 0 rfl) ?_
        refine g_getr hC hW (C := RX7) (T := TX7) (N := 19) (ci := 9) (k := 0) (index := 9) (i := 132) (r := 133) inGX7 rfl (by decide) fl_X7_9 (by decide) rfl rfl dX7_account_125 ?_
        refine lv_iconst (v := 3) hx hcd dX7_account_128 (by decide) ?_
        refine g_iald hC hW (i := 133) (by decide) rfl (by decide) dX7_account_129 ?_
        obtain rfl := Option.some.inj ho
        exact g_iret hC hr hlk hsz hW dX7_account_130
      have ho := gif_n ho c58
      by_cases c59 : x1 = 10
      · have ho := gif_p ho c59
        refine lv_tableIn (tgt := 131) hx hcd dX7_account_29 (by rw [c59]; decide) (by rw [c59]; decide) (by rw [c59]; rfl) (by decide) ?_
        refine lv_iconst (v := 0) hx hcd dX7_account_131 (by decide) ?_
        refine lv_istore_n (lv' := [(2, .int 0), (0, .ref (ad 132)), (1, .int x1)]) hx hcd dX7_account_132 rfl hl (by decide) rfl (fun ls hl => ?_)
        refine lv_iconst (v := 0) hx hcd dX7_account_133 (by decide) ?_
        refine lv_istore_n (lv' := [(3, .int 0), (2, .int 0), (0, .ref (ad 132)), (1, .int x1)]) hx hcd dX7_account_134 rfl hl (by decide) rfl (fun ls hl => ?_)
        exact l_X7_account l D y ad sz hC hr hlk hsz _ ho _ _ _ hW (lv_sub hl [2, 1, 0] rfl)
      have ho := gif_n ho c59
      refine lv_tableOut (tgt := 193) hx hcd dX7_account_29 (by have zc35 := lv_neT c35 (a := 0) rfl; have zc36 := lv_neT c36 (a := 1) rfl; have zc37 := lv_neT c37 (a := 2) rfl; have zc40 := lv_neT c40 (a := 3) rfl; have zc43 := lv_neT c43 (a := 4) rfl; have zc46 := lv_neT c46 (a := 5) rfl; have zc49 := lv_neT c49 (a := 6) rfl; have zc52 := lv_neT c52 (a := 7) rfl; have zc55 := lv_neT c55 (a := 8) rfl; have zc58 := lv_neT c58 (a := 9) rfl; have zc59 := lv_neT c59 (a := 10) rfl; omega) (by decide) ?_
      refine lv_aload_n hx hcd dX7_account_193 rfl (lv_at hl 0 rfl) ?_
      refine lv_iload_n hx hcd dX7_account_194 rfl (lv_at hl 1 rfl) ?_
      obtain ⟨r61, h60, ho⟩ := gb_some ho
      refine g_calli hW (g_runV (As := [.int x1]) (rest := []) (i := 132) hC hW (c_X7_overStays l D y ad x1 _ _ h60) ok_X7_219 ⟨rfl, rfl, Nat.le_of_ble_eq_true rfl, Nat.le_of_ble_eq_true rfl⟩ (by decide) rfl rfl rfl rfl hl.1 rfl (Nat.le_of_ble_eq_true rfl) dX7_account_195 ⟨Nat.zero_le _, Nat.zero_le _⟩) (fun H locs hW => ?_)
      obtain rfl := Option.some.inj ho
      exact g_iret hC hr hlk hsz hW dX7_account_198
    · have ho := gif_n ho c34
      refine lv_iconst (v := 0) hx hcd dX7_account_26 (by decide) ?_
      obtain rfl := Option.some.inj ho
      exact g_iret hC hr hlk hsz hW dX7_account_27
noncomputable def X7_staysAt_k0 (σ : gS) (x1 : Int32) (x2 : Int32) (x3 : Int32) : Option ((Int32 × Int32 × Int32) ⊕ (Int32)) :=
  if 20 ≤ x3 then (some (.inr x2)) else ((X7_isOn σ x3).bind fun r3 => if r3 = 0 then (some (.inl (x1, (x2 + (0 : Int32)), (x3 + 1)))) else ((X7_from σ x3).bind fun r6 => (X7_to σ x3).bind fun r8 => (X7_in σ x1 r6 (r8 - (1 : Int32))).bind fun r10 => if r10 = 0 then (some (.inl (x1, (x2 + (0 : Int32)), (x3 + 1)))) else (some (.inl (x1, (x2 + (1 : Int32)), (x3 + 1))))))
noncomputable def X7_staysAt_s (σ : gS) (a : Int32 × Int32 × Int32) : Option ((Int32 × Int32 × Int32) ⊕ (Int32)) :=
  X7_staysAt_k0 σ a.1 a.2.1 a.2.2
noncomputable def X7_staysAt (σ : gS) (x1 : Int32) : Option (Int32) :=
  gr (X7_staysAt_s σ) (x1, 0, 0)
set_option maxHeartbeats 4000000 in
set_option maxRecDepth 100000 in
theorem l_X7_staysAt {p : Program} {e : Env} {s : State} {m : MethodId} {args : Array Value} {below : List Frame} {meth : Method} {c : Code} (l : Launch) (D : va_G) (y : ClassId × ClassId × ClassId) (ad : Nat → Nat) (σ : gS) (sz : Nat) (hC : g_C p s m args c cX7_staysAt 4 RX7 D y) (hr : meth.sig.returnType = (some .int)) (hlk : meth.locks = false) (hsz : s.heap.size = sz) {r0 : Int32} : ∀ a : Int32 × Int32 × Int32, gr (X7_staysAt_s σ) a = some r0 → ∀ (H : Heap) (locs : List Loc) (ls : Array Slot), g_W (g_A ad sz) s.heap D y ad [] σ H locs → lv_has ls 4 [(0, .ref (ad 132)), (1, .int a.1), (2, .int a.2.1), (3, .int a.2.2)] → W p l e ({ frames := 4, cells := 0, slots := 0, locals := 85 }) s m args below meth c H locs 0 0 (MQ below (g_Qi D y ad σ sz r0) args s 0 0 (g_A ad sz)) (F0 m 4 ls []) := by
  have hx := hC.1
  have hcd := hC.2.1
  refine gr_all (fun a o ho hret hjmp => ?_)
  obtain ⟨x1, x2, x3⟩ := a
  intro H locs ls hW hl
  have ho : X7_staysAt_k0 σ x1 x2 x3 = some o := ho
  unfold X7_staysAt_k0 at ho
  refine lv_iload_n hx hcd dX7_staysAt_4 rfl (lv_at hl 3 rfl) ?_
  refine lv_bipush (v := 20) hx hcd dX7_staysAt_5 (by decide) ?_
  refine lv_icmp_ge (tgt := 51) hx hcd dX7_staysAt_7 (by decide) (fun c1 => ?_) (fun c1 => ?_)
  · have ho := gif_p ho c1
    refine lv_iload_n hx hcd dX7_staysAt_51 rfl (lv_at hl 2 rfl) ?_
    obtain rfl := hret _ (Option.some.inj ho).symm
    exact g_iret hC hr hlk hsz hW dX7_staysAt_52
  · have ho := gif_n ho c1
    refine lv_iload_n hx hcd dX7_staysAt_10 rfl (lv_at hl 2 rfl) ?_
    refine lv_aload_n hx hcd dX7_staysAt_11 rfl (lv_at hl 0 rfl) ?_
    refine lv_iload_n hx hcd dX7_staysAt_12 rfl (lv_at hl 3 rfl) ?_
    obtain ⟨r3, h2, ho⟩ := gb_some ho
    refine g_calli hW (g_runV (As := [.int x3]) (rest := [.int x2]) (i := 132) hC hW (c_X7_isOn l D y ad x3 _ _ h2) ok_X7_97 ⟨rfl, rfl, Nat.le_of_ble_eq_true rfl, Nat.le_of_ble_eq_true rfl⟩ (by decide) rfl rfl rfl rfl hl.1 rfl (Nat.le_of_ble_eq_true rfl) dX7_staysAt_13 ⟨Nat.zero_le _, Nat.zero_le _⟩) (fun H locs hW => ?_)
    refine lv_if_eq (tgt := 42) hx hcd dX7_staysAt_16 (by decide) (fun c4 => ?_) (fun c4 => ?_)
    · have ho := gif_p ho c4
      refine lv_iconst (v := 0) hx hcd dX7_staysAt_42 (by decide) ?_
      refine lv_iadd hx hcd dX7_staysAt_43 ?_
      refine lv_istore_n (lv' := [(2, .int (x2 + (0 : Int32))), (0, .ref (ad 132)), (1, .int x1), (3, .int x3)]) hx hcd dX7_staysAt_44 rfl hl (by decide) rfl (fun ls hl => ?_)
      refine lv_iinc (v := x3 + 1) (lv' := [(3, .int (x3 + 1)), (2, .int (x2 + (0 : Int32))), (0, .ref (ad 132)), (1, .int x1)]) hx hcd dX7_staysAt_45 hl (k := 3) rfl rfl (by decide) rfl (fun ls hl => ?_)
      refine lv_goto (tgt := 4) hx hcd dX7_staysAt_48 (by decide) ?_
      exact hjmp _ (Option.some.inj ho).symm _ _ _ hW (lv_sub hl [2, 3, 1, 0] rfl)
    · have ho := gif_n ho c4
      refine lv_iload_n hx hcd dX7_staysAt_19 rfl (lv_at hl 1 rfl) ?_
      refine lv_aload_n hx hcd dX7_staysAt_20 rfl (lv_at hl 0 rfl) ?_
      refine lv_iload_n hx hcd dX7_staysAt_21 rfl (lv_at hl 3 rfl) ?_
      obtain ⟨r6, h5, ho⟩ := gb_some ho
      refine g_calli hW (g_runV (As := [.int x3]) (rest := [.int x1, .int x2]) (i := 132) hC hW (c_X7_from l D y ad x3 _ _ h5) ok_X7_103 ⟨rfl, rfl, Nat.le_of_ble_eq_true rfl, Nat.le_of_ble_eq_true rfl⟩ (by decide) rfl rfl rfl rfl hl.1 rfl (Nat.le_of_ble_eq_true rfl) dX7_staysAt_22 ⟨Nat.zero_le _, Nat.zero_le _⟩) (fun H locs hW => ?_)
      refine lv_aload_n hx hcd dX7_staysAt_25 rfl (lv_at hl 0 rfl) ?_
      refine lv_iload_n hx hcd dX7_staysAt_26 rfl (lv_at hl 3 rfl) ?_
      obtain ⟨r8, h7, ho⟩ := gb_some ho
      refine g_calli hW (g_runV (As := [.int x3]) (rest := [.int r6, .int x1, .int x2]) (i := 132) hC hW (c_X7_to l D y ad x3 _ _ h7) ok_X7_106 ⟨rfl, rfl, Nat.le_of_ble_eq_true rfl, Nat.le_of_ble_eq_true rfl⟩ (by decide) rfl rfl rfl rfl hl.1 rfl (Nat.le_of_ble_eq_true rfl) dX7_staysAt_27 ⟨Nat.zero_le _, Nat.zero_le _⟩) (fun H locs hW => ?_)
      refine lv_iconst (v := 1) hx hcd dX7_staysAt_30 (by decide) ?_
      refine lv_isub hx hcd dX7_staysAt_31 ?_
      obtain ⟨r10, h9, ho⟩ := gb_some ho
      refine g_calli hW (g_runS (As := [.int x1, .int r6, .int (r8 - (1 : Int32))]) (rest := [.int x2]) hC hW (c_X7_in l D y ad x1 r6 (r8 - (1 : Int32)) _ _ h9) ok_X7_51 ⟨rfl, rfl, Nat.le_of_ble_eq_true rfl, Nat.le_of_ble_eq_true rfl⟩ rfl hl.1 rfl (Nat.le_of_ble_eq_true rfl) dX7_staysAt_32 ⟨Nat.zero_le _, Nat.zero_le _⟩) (fun H locs hW => ?_)
      refine lv_if_eq (tgt := 42) hx hcd dX7_staysAt_35 (by decide) (fun c11 => ?_) (fun c11 => ?_)
      · have ho := gif_p ho c11
        refine lv_iconst (v := 0) hx hcd dX7_staysAt_42 (by decide) ?_
        refine lv_iadd hx hcd dX7_staysAt_43 ?_
        refine lv_istore_n (lv' := [(2, .int (x2 + (0 : Int32))), (0, .ref (ad 132)), (1, .int x1), (3, .int x3)]) hx hcd dX7_staysAt_44 rfl hl (by decide) rfl (fun ls hl => ?_)
        refine lv_iinc (v := x3 + 1) (lv' := [(3, .int (x3 + 1)), (2, .int (x2 + (0 : Int32))), (0, .ref (ad 132)), (1, .int x1)]) hx hcd dX7_staysAt_45 hl (k := 3) rfl rfl (by decide) rfl (fun ls hl => ?_)
        refine lv_goto (tgt := 4) hx hcd dX7_staysAt_48 (by decide) ?_
        exact hjmp _ (Option.some.inj ho).symm _ _ _ hW (lv_sub hl [2, 3, 1, 0] rfl)
      · have ho := gif_n ho c11
        refine lv_iconst (v := 1) hx hcd dX7_staysAt_38 (by decide) ?_
        refine lv_goto (tgt := 43) hx hcd dX7_staysAt_39 (by decide) ?_
        refine lv_iadd hx hcd dX7_staysAt_43 ?_
        refine lv_istore_n (lv' := [(2, .int (x2 + (1 : Int32))), (0, .ref (ad 132)), (1, .int x1), (3, .int x3)]) hx hcd dX7_staysAt_44 rfl hl (by decide) rfl (fun ls hl => ?_)
        refine lv_iinc (v := x3 + 1) (lv' := [(3, .int (x3 + 1)), (2, .int (x2 + (1 : Int32))), (0, .ref (ad 132)), (1, .int x1)]) hx hcd dX7_staysAt_45 hl (k := 3) rfl rfl (by decide) rfl (fun ls hl => ?_)
        refine lv_goto (tgt := 4) hx hcd dX7_staysAt_48 (by decide) ?_
        exact hjmp _ (Option.some.inj ho).symm _ _ _ hW (lv_sub hl [2, 3, 1, 0] rfl)
set_option maxHeartbeats 4000000 in
set_option maxRecDepth 100000 in
theorem c_X7_staysAt (l : Launch) (D : va_G) (y : ClassId × ClassId × ClassId) (ad : Nat → Nat) (x1 : Int32) (σ : gS) (sz : Nat) {q : Int32} (h : X7_staysAt σ x1 = some q) : Met l yX7_staysAt (Cond.code yX7_staysAt cX7_staysAt 4 (some .int) :: gl) ({ frames := 4, cells := 0, slots := 0, locals := 85 }) (g_Pc D y ad σ sz [.ref (ad 132), .int x1]) (g_Qi D y ad σ sz q) 0 0 (g_A ad sz) := by
  have ho := h
  unfold X7_staysAt at ho
  refine g_start (by decide) (Nat.le_of_ble_eq_true rfl) (fun p e s m below meth c ls hC hr hlk hsz hW hl => ?_)
  have hx := hC.1
  have hcd := hC.2.1
  have hl : lv_has ls 4 [(0, .ref (ad 132)), (1, .int x1)] := hl
  refine lv_iconst (v := 0) hx hcd dX7_staysAt_0 (by decide) ?_
  refine lv_istore_n (lv' := [(2, .int 0), (0, .ref (ad 132)), (1, .int x1)]) hx hcd dX7_staysAt_1 rfl hl (by decide) rfl (fun ls hl => ?_)
  refine lv_iconst (v := 0) hx hcd dX7_staysAt_2 (by decide) ?_
  refine lv_istore_n (lv' := [(3, .int 0), (2, .int 0), (0, .ref (ad 132)), (1, .int x1)]) hx hcd dX7_staysAt_3 rfl hl (by decide) rfl (fun ls hl => ?_)
  exact l_X7_staysAt l D y ad σ sz hC hr hlk hsz _ ho _ _ _ hW (lv_sub hl [2, 3, 1, 0] rfl)
noncomputable def X7_minutes_k0 (σ : gS) (x1 : Int32) (x2 : Int32) : Option ((Int32 × Int32 × gS) ⊕ (Int32 × gS)) :=
  if 1440 ≤ x2 then (some (.inr (x1, σ))) else ((X7_staysAt σ x2).bind fun r4 => some (.inl ((x1 + r4), (x2 + 1), σ)))
noncomputable def X7_minutes_s (a : Int32 × Int32 × gS) : Option ((Int32 × Int32 × gS) ⊕ (Int32 × gS)) :=
  X7_minutes_k0 a.2.2 a.1 a.2.1
noncomputable def X7_minutes (σ : gS) : Option (Int32 × gS) :=
  lt_ (g_up σ 132 8 0) fun σ1 => gr (X7_minutes_s) (0, 0, σ1)
set_option maxHeartbeats 4000000 in
set_option maxRecDepth 100000 in
theorem l_X7_minutes {p : Program} {e : Env} {s : State} {m : MethodId} {args : Array Value} {below : List Frame} {meth : Method} {c : Code} (l : Launch) (D : va_G) (y : ClassId × ClassId × ClassId) (ad : Nat → Nat) (sz : Nat) (hC : g_C p s m args c cX7_minutes 3 RX7 D y) (hr : meth.sig.returnType = (some .int)) (hlk : meth.locks = false) (hsz : s.heap.size = sz) {r0 : Int32 × gS} : ∀ a : Int32 × Int32 × gS, gr (X7_minutes_s) a = some r0 → ∀ (H : Heap) (locs : List Loc) (ls : Array Slot), g_W (g_A ad sz) s.heap D y ad [] a.2.2 H locs → lv_has ls 3 [(0, .ref (ad 132)), (1, .int a.1), (2, .int a.2.1)] → W p l e ({ frames := 5, cells := 0, slots := 0, locals := 108 }) s m args below meth c H locs 0 0 (MQ below (g_Qi D y ad r0.2 sz r0.1) args s 0 0 (g_A ad sz)) (F0 m 9 ls []) := by
  have hx := hC.1
  have hcd := hC.2.1
  refine gr_all (fun a o ho hret hjmp => ?_)
  obtain ⟨x1, x2, σ⟩ := a
  intro H locs ls hW hl
  have ho : X7_minutes_k0 σ x1 x2 = some o := ho
  unfold X7_minutes_k0 at ho
  refine lv_iload_n hx hcd dX7_minutes_9 rfl (lv_at hl 2 rfl) ?_
  refine lv_sipush (v := 1440) hx hcd dX7_minutes_10 (by decide) ?_
  refine lv_icmp_ge (tgt := 30) hx hcd dX7_minutes_13 (by decide) (fun c2 => ?_) (fun c2 => ?_)
  · have ho := gif_p ho c2
    refine lv_iload_n hx hcd dX7_minutes_30 rfl (lv_at hl 1 rfl) ?_
    obtain rfl := hret _ (Option.some.inj ho).symm
    exact g_iret hC hr hlk hsz hW dX7_minutes_31
  · have ho := gif_n ho c2
    refine lv_iload_n hx hcd dX7_minutes_16 rfl (lv_at hl 1 rfl) ?_
    refine lv_aload_n hx hcd dX7_minutes_17 rfl (lv_at hl 0 rfl) ?_
    refine lv_iload_n hx hcd dX7_minutes_18 rfl (lv_at hl 2 rfl) ?_
    obtain ⟨r4, h3, ho⟩ := gb_some ho
    refine g_calli hW (g_runV (As := [.int x2]) (rest := [.int x1]) (i := 132) hC hW (c_X7_staysAt l D y ad x2 _ _ h3) ok_X7_222 ⟨rfl, rfl, Nat.le_of_ble_eq_true rfl, Nat.le_of_ble_eq_true rfl⟩ (by decide) rfl rfl rfl rfl hl.1 rfl (Nat.le_of_ble_eq_true rfl) dX7_minutes_19 ⟨Nat.zero_le _, Nat.zero_le _⟩) (fun H locs hW => ?_)
    refine lv_iadd hx hcd dX7_minutes_22 ?_
    refine lv_istore_n (lv' := [(1, .int (x1 + r4)), (0, .ref (ad 132)), (2, .int x2)]) hx hcd dX7_minutes_23 rfl hl (by decide) rfl (fun ls hl => ?_)
    refine lv_iinc (v := x2 + 1) (lv' := [(2, .int (x2 + 1)), (1, .int (x1 + r4)), (0, .ref (ad 132))]) hx hcd dX7_minutes_24 hl (k := 2) rfl rfl (by decide) rfl (fun ls hl => ?_)
    refine lv_goto (tgt := 9) hx hcd dX7_minutes_27 (by decide) ?_
    exact hjmp _ (Option.some.inj ho).symm _ _ _ hW (lv_sub hl [2, 1, 0] rfl)
set_option maxHeartbeats 4000000 in
set_option maxRecDepth 100000 in
theorem c_X7_minutes (l : Launch) (D : va_G) (y : ClassId × ClassId × ClassId) (ad : Nat → Nat) (σ : gS) (sz : Nat) {q : Int32 × gS} (h : X7_minutes σ = some q) : Met l yX7_minutes (Cond.code yX7_minutes cX7_minutes 3 (some .int) :: gl) ({ frames := 5, cells := 0, slots := 0, locals := 108 }) (g_Pc D y ad σ sz [.ref (ad 132)]) (g_Qi D y ad q.2 sz q.1) 0 0 (g_A ad sz) := by
  have ho := h
  unfold X7_minutes at ho
  refine g_start (by decide) (Nat.le_of_ble_eq_true rfl) (fun p e s m below meth c ls hC hr hlk hsz hW hl => ?_)
  have hx := hC.1
  have hcd := hC.2.1
  have hl : lv_has ls 3 [(0, .ref (ad 132))] := hl
  refine lv_aload_n hx hcd dX7_minutes_0 rfl (lv_at hl 0 rfl) ?_
  refine lv_iconst (v := 0) hx hcd dX7_minutes_1 (by decide) ?_
  obtain ⟨σ1, eσ1, ho⟩ := lt_ex ho
  refine g_puti hC hW (C := RX7) (T := TX7) (N := 19) (ci := 9) (k := 8) (index := 48) (i := 132) inGX7 tyX7 tyX7_ok nmX7 rfl (by decide) fl_X7_48 rfl (by decide) rfl rfl rfl rfl dX7_minutes_2 (fun H locs hW => ?_)
  rw [← eσ1] at hW
  refine lv_iconst (v := 0) hx hcd dX7_minutes_5 (by decide) ?_
  refine lv_istore_n (lv' := [(1, .int 0), (0, .ref (ad 132))]) hx hcd dX7_minutes_6 rfl hl (by decide) rfl (fun ls hl => ?_)
  refine lv_iconst (v := 0) hx hcd dX7_minutes_7 (by decide) ?_
  refine lv_istore_n (lv' := [(2, .int 0), (1, .int 0), (0, .ref (ad 132))]) hx hcd dX7_minutes_8 rfl hl (by decide) rfl (fun ls hl => ?_)
  exact l_X7_minutes l D y ad sz hC hr hlk hsz _ ho _ _ _ hW (lv_sub hl [2, 1, 0] rfl)
noncomputable def X7_peak_k0 (σ : gS) (x1 : Int32) (x2 : Int32) (x3 : Int32) (x4 : Int32) : Option ((Int32 × Int32 × Int32 × Int32 × gS) ⊕ (Int32 × gS)) :=
  if 1440 ≤ x4 then (if x1 = 0 then (some (.inr (x2, σ))) else (some (.inr (x3, σ)))) else ((X7_staysAt σ x4).bind fun r5 => if r5 ≤ x2 then (some (.inl (x1, (if x2 < r5 then r5 else x2), x3, (x4 + 1), σ))) else (some (.inl (x1, (if x2 < r5 then r5 else x2), x4, (x4 + 1), σ))))
noncomputable def X7_peak_s (a : Int32 × Int32 × Int32 × Int32 × gS) : Option ((Int32 × Int32 × Int32 × Int32 × gS) ⊕ (Int32 × gS)) :=
  X7_peak_k0 a.2.2.2.2 a.1 a.2.1 a.2.2.1 a.2.2.2.1
noncomputable def X7_peak (σ : gS) (x1 : Int32) : Option (Int32 × gS) :=
  lt_ (g_up σ 132 8 0) fun σ1 => gr (X7_peak_s) (x1, 0, 0, 0, σ1)
set_option maxHeartbeats 4000000 in
set_option maxRecDepth 100000 in
theorem l_X7_peak {p : Program} {e : Env} {s : State} {m : MethodId} {args : Array Value} {below : List Frame} {meth : Method} {c : Code} (l : Launch) (D : va_G) (y : ClassId × ClassId × ClassId) (ad : Nat → Nat) (sz : Nat) (hC : g_C p s m args c cX7_peak 6 RX7 D y) (hr : meth.sig.returnType = (some .int)) (hlk : meth.locks = false) (hsz : s.heap.size = sz) {r0 : Int32 × gS} : ∀ a : Int32 × Int32 × Int32 × Int32 × gS, gr (X7_peak_s) a = some r0 → ∀ (H : Heap) (locs : List Loc) (ls : Array Slot), g_W (g_A ad sz) s.heap D y ad [] a.2.2.2.2 H locs → lv_has ls 6 [(0, .ref (ad 132)), (1, .int a.1), (2, .int a.2.1), (3, .int a.2.2.1), (4, .int a.2.2.2.1)] → W p l e ({ frames := 5, cells := 0, slots := 0, locals := 108 }) s m args below meth c H locs 0 0 (MQ below (g_Qi D y ad r0.2 sz r0.1) args s 0 0 (g_A ad sz)) (F0 m 12 ls []) := by
  have hx := hC.1
  have hcd := hC.2.1
  refine gr_all (fun a o ho hret hjmp => ?_)
  obtain ⟨x1, x2, x3, x4, σ⟩ := a
  intro H locs ls hW hl
  have ho : X7_peak_k0 σ x1 x2 x3 x4 = some o := ho
  unfold X7_peak_k0 at ho
  refine lv_iload hx hcd dX7_peak_12 (lv_at hl 4 rfl) ?_
  refine lv_sipush (v := 1440) hx hcd dX7_peak_14 (by decide) ?_
  refine lv_icmp_ge (tgt := 54) hx hcd dX7_peak_17 (by decide) (fun c2 => ?_) (fun c2 => ?_)
  · have ho := gif_p ho c2
    refine lv_iload_n hx hcd dX7_peak_54 rfl (lv_at hl 1 rfl) ?_
    refine lv_if_eq (tgt := 62) hx hcd dX7_peak_55 (by decide) (fun c3 => ?_) (fun c3 => ?_)
    · have ho := gif_p ho c3
      refine lv_iload_n hx hcd dX7_peak_62 rfl (lv_at hl 2 rfl) ?_
      obtain rfl := hret _ (Option.some.inj ho).symm
      exact g_iret hC hr hlk hsz hW dX7_peak_63
    · have ho := gif_n ho c3
      refine lv_iload_n hx hcd dX7_peak_58 rfl (lv_at hl 3 rfl) ?_
      refine lv_goto (tgt := 63) hx hcd dX7_peak_59 (by decide) ?_
      obtain rfl := hret _ (Option.some.inj ho).symm
      exact g_iret hC hr hlk hsz hW dX7_peak_63
  · have ho := gif_n ho c2
    refine lv_aload_n hx hcd dX7_peak_20 rfl (lv_at hl 0 rfl) ?_
    refine lv_iload hx hcd dX7_peak_21 (lv_at hl 4 rfl) ?_
    obtain ⟨r5, h4, ho⟩ := gb_some ho
    refine g_calli hW (g_runV (As := [.int x4]) (rest := []) (i := 132) hC hW (c_X7_staysAt l D y ad x4 _ _ h4) ok_X7_222 ⟨rfl, rfl, Nat.le_of_ble_eq_true rfl, Nat.le_of_ble_eq_true rfl⟩ (by decide) rfl rfl rfl rfl hl.1 rfl (Nat.le_of_ble_eq_true rfl) dX7_peak_23 ⟨Nat.zero_le _, Nat.zero_le _⟩) (fun H locs hW => ?_)
    refine lv_istore (lv' := [(5, .int r5), (0, .ref (ad 132)), (1, .int x1), (2, .int x2), (3, .int x3), (4, .int x4)]) hx hcd dX7_peak_26 hl (by decide) rfl (fun ls hl => ?_)
    refine lv_iload hx hcd dX7_peak_28 (lv_at hl 0 rfl) ?_
    refine lv_iload_n hx hcd dX7_peak_30 rfl (lv_at hl 3 rfl) ?_
    refine lv_icmp_le (tgt := 39) hx hcd dX7_peak_31 (by decide) (fun c6 => ?_) (fun c6 => ?_)
    · have ho := gif_p ho c6
      refine lv_iload_n hx hcd dX7_peak_39 rfl (lv_at hl 4 rfl) ?_
      refine lv_istore_n (lv' := [(3, .int x3), (5, .int r5), (0, .ref (ad 132)), (1, .int x1), (2, .int x2), (4, .int x4)]) hx hcd dX7_peak_40 rfl hl (by decide) rfl (fun ls hl => ?_)
      refine lv_iload_n hx hcd dX7_peak_41 rfl (lv_at hl 4 rfl) ?_
      refine lv_iload hx hcd dX7_peak_42 (lv_at hl 1 rfl) ?_
      refine va_mmax hx hcd (hC.2.2.1.trans hl.1.symm) hC.2.2.2.1 (hC.2.2.2.2.1 _ ml_X7_173) (hC.2.2.2.2.1 _ mt_J9_max_7cf53) (hC.2.2.2.2.1 _ ii_J9) (hC.2.2.2.2.1 _ mc_J9_max_7cf53) (Nat.le_of_ble_eq_true rfl) (Nat.le_of_ble_eq_true rfl) (Nat.zero_le _) (Nat.zero_le _) dX7_peak_44 ?_
      refine lv_istore_n (lv' := [(2, .int (if x2 < r5 then r5 else x2)), (3, .int x3), (5, .int r5), (0, .ref (ad 132)), (1, .int x1), (4, .int x4)]) hx hcd dX7_peak_47 rfl hl (by decide) rfl (fun ls hl => ?_)
      refine lv_iinc (v := x4 + 1) (lv' := [(4, .int (x4 + 1)), (2, .int (if x2 < r5 then r5 else x2)), (3, .int x3), (5, .int r5), (0, .ref (ad 132)), (1, .int x1)]) hx hcd dX7_peak_48 hl (k := 5) rfl rfl (by decide) rfl (fun ls hl => ?_)
      refine lv_goto (tgt := 12) hx hcd dX7_peak_51 (by decide) ?_
      exact hjmp _ (Option.some.inj ho).symm _ _ _ hW (lv_sub hl [4, 5, 1, 2, 0] rfl)
    · have ho := gif_n ho c6
      refine lv_iload hx hcd dX7_peak_34 (lv_at hl 5 rfl) ?_
      refine lv_goto (tgt := 40) hx hcd dX7_peak_36 (by decide) ?_
      refine lv_istore_n (lv' := [(3, .int x4), (5, .int r5), (0, .ref (ad 132)), (1, .int x1), (2, .int x2), (4, .int x4)]) hx hcd dX7_peak_40 rfl hl (by decide) rfl (fun ls hl => ?_)
      refine lv_iload_n hx hcd dX7_peak_41 rfl (lv_at hl 4 rfl) ?_
      refine lv_iload hx hcd dX7_peak_42 (lv_at hl 1 rfl) ?_
      refine va_mmax hx hcd (hC.2.2.1.trans hl.1.symm) hC.2.2.2.1 (hC.2.2.2.2.1 _ ml_X7_173) (hC.2.2.2.2.1 _ mt_J9_max_7cf53) (hC.2.2.2.2.1 _ ii_J9) (hC.2.2.2.2.1 _ mc_J9_max_7cf53) (Nat.le_of_ble_eq_true rfl) (Nat.le_of_ble_eq_true rfl) (Nat.zero_le _) (Nat.zero_le _) dX7_peak_44 ?_
      refine lv_istore_n (lv' := [(2, .int (if x2 < r5 then r5 else x2)), (3, .int x4), (5, .int r5), (0, .ref (ad 132)), (1, .int x1), (4, .int x4)]) hx hcd dX7_peak_47 rfl hl (by decide) rfl (fun ls hl => ?_)
      refine lv_iinc (v := x4 + 1) (lv' := [(4, .int (x4 + 1)), (2, .int (if x2 < r5 then r5 else x2)), (3, .int x4), (5, .int r5), (0, .ref (ad 132)), (1, .int x1)]) hx hcd dX7_peak_48 hl (k := 5) rfl rfl (by decide) rfl (fun ls hl => ?_)
      refine lv_goto (tgt := 12) hx hcd dX7_peak_51 (by decide) ?_
      exact hjmp _ (Option.some.inj ho).symm _ _ _ hW (lv_sub hl [4, 5, 1, 2, 0] rfl)
set_option maxHeartbeats 4000000 in
set_option maxRecDepth 100000 in
theorem c_X7_peak (l : Launch) (D : va_G) (y : ClassId × ClassId × ClassId) (ad : Nat → Nat) (x1 : Int32) (σ : gS) (sz : Nat) {q : Int32 × gS} (h : X7_peak σ x1 = some q) : Met l yX7_peak (Cond.code yX7_peak cX7_peak 6 (some .int) :: gl) ({ frames := 5, cells := 0, slots := 0, locals := 108 }) (g_Pc D y ad σ sz [.ref (ad 132), .int x1]) (g_Qi D y ad q.2 sz q.1) 0 0 (g_A ad sz) := by
  have ho := h
  unfold X7_peak at ho
  refine g_start (by decide) (Nat.le_of_ble_eq_true rfl) (fun p e s m below meth c ls hC hr hlk hsz hW hl => ?_)
  have hx := hC.1
  have hcd := hC.2.1
  have hl : lv_has ls 6 [(0, .ref (ad 132)), (1, .int x1)] := hl
  refine lv_aload_n hx hcd dX7_peak_0 rfl (lv_at hl 0 rfl) ?_
  refine lv_iconst (v := 0) hx hcd dX7_peak_1 (by decide) ?_
  obtain ⟨σ1, eσ1, ho⟩ := lt_ex ho
  refine g_puti hC hW (C := RX7) (T := TX7) (N := 19) (ci := 9) (k := 8) (index := 48) (i := 132) inGX7 tyX7 tyX7_ok nmX7 rfl (by decide) fl_X7_48 rfl (by decide) rfl rfl rfl rfl dX7_peak_2 (fun H locs hW => ?_)
  rw [← eσ1] at hW
  refine lv_iconst (v := 0) hx hcd dX7_peak_5 (by decide) ?_
  refine lv_istore_n (lv' := [(2, .int 0), (0, .ref (ad 132)), (1, .int x1)]) hx hcd dX7_peak_6 rfl hl (by decide) rfl (fun ls hl => ?_)
  refine lv_iconst (v := 0) hx hcd dX7_peak_7 (by decide) ?_
  refine lv_istore_n (lv' := [(3, .int 0), (2, .int 0), (0, .ref (ad 132)), (1, .int x1)]) hx hcd dX7_peak_8 rfl hl (by decide) rfl (fun ls hl => ?_)
  refine lv_iconst (v := 0) hx hcd dX7_peak_9 (by decide) ?_
  refine lv_istore (lv' := [(4, .int 0), (3, .int 0), (2, .int 0), (0, .ref (ad 132)), (1, .int x1)]) hx hcd dX7_peak_10 hl (by decide) rfl (fun ls hl => ?_)
  exact l_X7_peak l D y ad sz hC hr hlk hsz _ ho _ _ _ hW (lv_sub hl [3, 4, 2, 1, 0] rfl)
noncomputable def X7_meanCost (σ : gS) : Option (UInt32 × gS) :=
  if (σ 133 (1 : Int32).toNatClampNeg) = 0 then (lt_ (g_up σ 132 8 1) fun σ7 => if (σ7 132 8) ≤ 0 then ((X7_cost σ7).bind fun r10 => gd (n32 (FP.fdiv (FP.i2f r10) (FP.i2f (σ7 133 (1 : Int32).toNatClampNeg)))) <| some ((FP.fdiv (FP.i2f r10) (FP.i2f (σ7 133 (1 : Int32).toNatClampNeg))), σ7)) else (some ((0 : UInt32), σ7))) else (lt_ (g_up σ 132 8 0) fun σ2 => if (σ2 132 8) ≤ 0 then ((X7_cost σ2).bind fun r5 => gd (n32 (FP.fdiv (FP.i2f r5) (FP.i2f (σ2 133 (1 : Int32).toNatClampNeg)))) <| some ((FP.fdiv (FP.i2f r5) (FP.i2f (σ2 133 (1 : Int32).toNatClampNeg))), σ2)) else (some ((0 : UInt32), σ2)))
set_option maxHeartbeats 4000000 in
set_option maxRecDepth 100000 in
theorem c_X7_meanCost (l : Launch) (D : va_G) (y : ClassId × ClassId × ClassId) (ad : Nat → Nat) (σ : gS) (sz : Nat) {q : UInt32 × gS} (h : X7_meanCost σ = some q) : Met l yX7_meanCost (Cond.code yX7_meanCost cX7_meanCost 1 (some .float) :: gl) ({ frames := 5, cells := 0, slots := 0, locals := 107 }) (g_Pc D y ad σ sz [.ref (ad 132)]) (g_Qf D y ad q.2 sz q.1) 0 0 (g_A ad sz) := by
  have ho := h
  unfold X7_meanCost at ho
  refine g_start (by decide) (Nat.le_of_ble_eq_true rfl) (fun p e s m below meth c ls hC hr hlk hsz hW hl => ?_)
  have hx := hC.1
  have hcd := hC.2.1
  have hl : lv_has ls 1 [(0, .ref (ad 132))] := hl
  refine lv_aload_n hx hcd dX7_meanCost_0 rfl (lv_at hl 0 rfl) ?_
  refine lv_aload_n hx hcd dX7_meanCost_1 rfl (lv_at hl 0 rfl) ?_
  refine g_getr hC hW (C := RX7) (T := TX7) (N := 19) (ci := 9) (k := 0) (index := 9) (i := 132) (r := 133) inGX7 rfl (by decide) fl_X7_9 (by decide) rfl rfl dX7_meanCost_2 ?_
  refine lv_iconst (v := 1) hx hcd dX7_meanCost_5 (by decide) ?_
  refine g_iald hC hW (i := 133) (by decide) rfl (by decide) dX7_meanCost_6 ?_
  refine lv_if_ne (tgt := 14) hx hcd dX7_meanCost_7 (by decide) (fun c1 => ?_) (fun c1 => ?_)
  · have ho := gif_n ho c1
    refine lv_iconst (v := 0) hx hcd dX7_meanCost_14 (by decide) ?_
    obtain ⟨σ2, eσ2, ho⟩ := lt_ex ho
    refine g_puti hC hW (C := RX7) (T := TX7) (N := 19) (ci := 9) (k := 8) (index := 48) (i := 132) inGX7 tyX7 tyX7_ok nmX7 rfl (by decide) fl_X7_48 rfl (by decide) rfl rfl rfl rfl dX7_meanCost_15 (fun H locs hW => ?_)
    rw [← eσ2] at hW
    refine lv_aload_n hx hcd dX7_meanCost_18 rfl (lv_at hl 0 rfl) ?_
    refine g_geti hC hW (C := RX7) (T := TX7) (N := 19) (ci := 9) (k := 8) (index := 48) (i := 132) inGX7 rfl (by decide) fl_X7_48 (by decide) rfl rfl dX7_meanCost_19 ?_
    refine lv_if_le (tgt := 29) hx hcd dX7_meanCost_22 (by decide) (fun c3 => ?_) (fun c3 => ?_)
    · have ho := gif_p ho c3
      refine lv_aload_n hx hcd dX7_meanCost_29 rfl (lv_at hl 0 rfl) ?_
      obtain ⟨r5, h4, ho⟩ := gb_some ho
      refine g_calli hW (g_runV (As := []) (rest := []) (i := 132) hC hW (c_X7_cost l D y ad _ _ h4) ok_X7_186 ⟨rfl, rfl, Nat.le_of_ble_eq_true rfl, Nat.le_of_ble_eq_true rfl⟩ (by decide) rfl rfl rfl rfl hl.1 rfl (Nat.le_of_ble_eq_true rfl) dX7_meanCost_30 ⟨Nat.zero_le _, Nat.zero_le _⟩) (fun H locs hW => ?_)
      refine lv_i2f hx hcd dX7_meanCost_33 ?_
      refine lv_aload_n hx hcd dX7_meanCost_34 rfl (lv_at hl 0 rfl) ?_
      refine g_getr hC hW (C := RX7) (T := TX7) (N := 19) (ci := 9) (k := 0) (index := 9) (i := 132) (r := 133) inGX7 rfl (by decide) fl_X7_9 (by decide) rfl rfl dX7_meanCost_35 ?_
      refine lv_iconst (v := 1) hx hcd dX7_meanCost_38 (by decide) ?_
      refine g_iald hC hW (i := 133) (by decide) rfl (by decide) dX7_meanCost_39 ?_
      refine lv_i2f hx hcd dX7_meanCost_40 ?_
      obtain ⟨z6, ho⟩ := gd_some ho
      refine lv_fdiv hx hcd dX7_meanCost_41 (n32_v z6) ?_
      obtain rfl := Option.some.inj ho
      exact g_fret hC hr hlk hsz hW dX7_meanCost_42
    · have ho := gif_n ho c3
      refine lv_fconst0 hx hcd dX7_meanCost_25 ?_
      refine lv_goto (tgt := 42) hx hcd dX7_meanCost_26 (by decide) ?_
      obtain rfl := Option.some.inj ho
      exact g_fret hC hr hlk hsz hW dX7_meanCost_42
  · have ho := gif_p ho c1
    refine lv_iconst (v := 1) hx hcd dX7_meanCost_10 (by decide) ?_
    refine lv_goto (tgt := 15) hx hcd dX7_meanCost_11 (by decide) ?_
    obtain ⟨σ7, eσ7, ho⟩ := lt_ex ho
    refine g_puti hC hW (C := RX7) (T := TX7) (N := 19) (ci := 9) (k := 8) (index := 48) (i := 132) inGX7 tyX7 tyX7_ok nmX7 rfl (by decide) fl_X7_48 rfl (by decide) rfl rfl rfl rfl dX7_meanCost_15 (fun H locs hW => ?_)
    rw [← eσ7] at hW
    refine lv_aload_n hx hcd dX7_meanCost_18 rfl (lv_at hl 0 rfl) ?_
    refine g_geti hC hW (C := RX7) (T := TX7) (N := 19) (ci := 9) (k := 8) (index := 48) (i := 132) inGX7 rfl (by decide) fl_X7_48 (by decide) rfl rfl dX7_meanCost_19 ?_
    refine lv_if_le (tgt := 29) hx hcd dX7_meanCost_22 (by decide) (fun c8 => ?_) (fun c8 => ?_)
    · have ho := gif_p ho c8
      refine lv_aload_n hx hcd dX7_meanCost_29 rfl (lv_at hl 0 rfl) ?_
      obtain ⟨r10, h9, ho⟩ := gb_some ho
      refine g_calli hW (g_runV (As := []) (rest := []) (i := 132) hC hW (c_X7_cost l D y ad _ _ h9) ok_X7_186 ⟨rfl, rfl, Nat.le_of_ble_eq_true rfl, Nat.le_of_ble_eq_true rfl⟩ (by decide) rfl rfl rfl rfl hl.1 rfl (Nat.le_of_ble_eq_true rfl) dX7_meanCost_30 ⟨Nat.zero_le _, Nat.zero_le _⟩) (fun H locs hW => ?_)
      refine lv_i2f hx hcd dX7_meanCost_33 ?_
      refine lv_aload_n hx hcd dX7_meanCost_34 rfl (lv_at hl 0 rfl) ?_
      refine g_getr hC hW (C := RX7) (T := TX7) (N := 19) (ci := 9) (k := 0) (index := 9) (i := 132) (r := 133) inGX7 rfl (by decide) fl_X7_9 (by decide) rfl rfl dX7_meanCost_35 ?_
      refine lv_iconst (v := 1) hx hcd dX7_meanCost_38 (by decide) ?_
      refine g_iald hC hW (i := 133) (by decide) rfl (by decide) dX7_meanCost_39 ?_
      refine lv_i2f hx hcd dX7_meanCost_40 ?_
      obtain ⟨z11, ho⟩ := gd_some ho
      refine lv_fdiv hx hcd dX7_meanCost_41 (n32_v z11) ?_
      obtain rfl := Option.some.inj ho
      exact g_fret hC hr hlk hsz hW dX7_meanCost_42
    · have ho := gif_n ho c8
      refine lv_fconst0 hx hcd dX7_meanCost_25 ?_
      refine lv_goto (tgt := 42) hx hcd dX7_meanCost_26 (by decide) ?_
      obtain rfl := Option.some.inj ho
      exact g_fret hC hr hlk hsz hW dX7_meanCost_42
noncomputable def X7_append (σ : gS) (x1 : Int32) : Option (Int32 × gS) :=
  (X7_in σ x1 32 126).bind fun r2 => if r2 = 0 then (lt_ (g_up σ 132 8 1) fun σ15 => if (σ15 132 8) ≤ 0 then (gd (ib (σ15 132 12) 60) <| lt_ (g_up σ15 140 (σ15 132 12).toNatClampNeg (vp_nar .char x1)) fun σ18 => lt_ (g_up σ18 132 12 ((σ18 132 12) + (1 : Int32))) fun σ19 => some ((σ19 132 12), σ19)) else (some (0, σ15))) else (if (σ 132 12) = 60 then (lt_ (g_up σ 132 8 2) fun σ10 => if (σ10 132 8) ≤ 0 then (gd (ib (σ10 132 12) 60) <| lt_ (g_up σ10 140 (σ10 132 12).toNatClampNeg (vp_nar .char x1)) fun σ13 => lt_ (g_up σ13 132 12 ((σ13 132 12) + (1 : Int32))) fun σ14 => some ((σ14 132 12), σ14)) else (some (0, σ10))) else (lt_ (g_up σ 132 8 0) fun σ5 => if (σ5 132 8) ≤ 0 then (gd (ib (σ5 132 12) 60) <| lt_ (g_up σ5 140 (σ5 132 12).toNatClampNeg (vp_nar .char x1)) fun σ8 => lt_ (g_up σ8 132 12 ((σ8 132 12) + (1 : Int32))) fun σ9 => some ((σ9 132 12), σ9)) else (some (0, σ5))))
set_option maxHeartbeats 4000000 in
set_option maxRecDepth 100000 in
theorem c_X7_append (l : Launch) (D : va_G) (y : ClassId × ClassId × ClassId) (ad : Nat → Nat) (x1 : Int32) (σ : gS) (sz : Nat) {q : Int32 × gS} (h : X7_append σ x1 = some q) : Met l yX7_append (Cond.code yX7_append cX7_append 2 (some .int) :: gl) ({ frames := 1, cells := 0, slots := 0, locals := 22 }) (g_Pc D y ad σ sz [.ref (ad 132), .int x1]) (g_Qi D y ad q.2 sz q.1) 0 0 (g_A ad sz) := by
  have ho := h
  unfold X7_append at ho
  refine g_start (by decide) (Nat.le_of_ble_eq_true rfl) (fun p e s m below meth c ls hC hr hlk hsz hW hl => ?_)
  have hx := hC.1
  have hcd := hC.2.1
  have hl : lv_has ls 2 [(0, .ref (ad 132)), (1, .int x1)] := hl
  refine lv_aload_n hx hcd dX7_append_0 rfl (lv_at hl 0 rfl) ?_
  refine lv_iload_n hx hcd dX7_append_1 rfl (lv_at hl 1 rfl) ?_
  refine lv_bipush (v := 32) hx hcd dX7_append_2 (by decide) ?_
  refine lv_bipush (v := 126) hx hcd dX7_append_4 (by decide) ?_
  obtain ⟨r2, h1, ho⟩ := gb_some ho
  refine g_calli hW (g_runS (As := [.int x1, .int 32, .int 126]) (rest := [.ref (ad 132)]) hC hW (c_X7_in l D y ad x1 32 126 _ _ h1) ok_X7_51 ⟨rfl, rfl, Nat.le_of_ble_eq_true rfl, Nat.le_of_ble_eq_true rfl⟩ rfl hl.1 rfl (Nat.le_of_ble_eq_true rfl) dX7_append_6 ⟨Nat.zero_le _, Nat.zero_le _⟩) (fun H locs hW => ?_)
  refine lv_if_ne (tgt := 16) hx hcd dX7_append_9 (by decide) (fun c3 => ?_) (fun c3 => ?_)
  · have ho := gif_n ho c3
    refine lv_aload_n hx hcd dX7_append_16 rfl (lv_at hl 0 rfl) ?_
    refine g_geti hC hW (C := RX7) (T := TX7) (N := 19) (ci := 9) (k := 12) (index := 225) (i := 132) inGX7 rfl (by decide) fl_X7_225 (by decide) rfl rfl dX7_append_17 ?_
    refine lv_bipush (v := 60) hx hcd dX7_append_20 (by decide) ?_
    refine lv_icmp_ne (tgt := 29) hx hcd dX7_append_22 (by decide) (fun c4 => ?_) (fun c4 => ?_)
    · have ho := gif_n ho c4
      refine lv_iconst (v := 0) hx hcd dX7_append_29 (by decide) ?_
      obtain ⟨σ5, eσ5, ho⟩ := lt_ex ho
      refine g_puti hC hW (C := RX7) (T := TX7) (N := 19) (ci := 9) (k := 8) (index := 48) (i := 132) inGX7 tyX7 tyX7_ok nmX7 rfl (by decide) fl_X7_48 rfl (by decide) rfl rfl rfl rfl dX7_append_30 (fun H locs hW => ?_)
      rw [← eσ5] at hW
      refine lv_aload_n hx hcd dX7_append_33 rfl (lv_at hl 0 rfl) ?_
      refine g_geti hC hW (C := RX7) (T := TX7) (N := 19) (ci := 9) (k := 8) (index := 48) (i := 132) inGX7 rfl (by decide) fl_X7_48 (by decide) rfl rfl dX7_append_34 ?_
      refine lv_if_le (tgt := 42) hx hcd dX7_append_37 (by decide) (fun c6 => ?_) (fun c6 => ?_)
      · have ho := gif_p ho c6
        refine lv_aload_n hx hcd dX7_append_42 rfl (lv_at hl 0 rfl) ?_
        refine g_getr hC hW (C := RX7) (T := TX7) (N := 19) (ci := 9) (k := 11) (index := 31) (i := 132) (r := 140) inGX7 rfl (by decide) fl_X7_31 (by decide) rfl rfl dX7_append_43 ?_
        refine lv_aload_n hx hcd dX7_append_46 rfl (lv_at hl 0 rfl) ?_
        refine g_geti hC hW (C := RX7) (T := TX7) (N := 19) (ci := 9) (k := 12) (index := 225) (i := 132) inGX7 rfl (by decide) fl_X7_225 (by decide) rfl rfl dX7_append_47 ?_
        refine lv_iload_n hx hcd dX7_append_50 rfl (lv_at hl 1 rfl) ?_
        obtain ⟨i7, ho⟩ := gd_some ho
        obtain ⟨σ8, eσ8, ho⟩ := lt_ex ho
        refine g_cast hC hW (i := 140) (by decide) rfl i7 dX7_append_51 (fun H locs hW => ?_)
        rw [← eσ8] at hW
        refine lv_aload_n hx hcd dX7_append_52 rfl (lv_at hl 0 rfl) ?_
        refine lv_dup hx hcd dX7_append_53 rfl ?_
        refine g_geti hC hW (C := RX7) (T := TX7) (N := 19) (ci := 9) (k := 12) (index := 225) (i := 132) inGX7 rfl (by decide) fl_X7_225 (by decide) rfl rfl dX7_append_54 ?_
        refine lv_iconst (v := 1) hx hcd dX7_append_57 (by decide) ?_
        refine lv_iadd hx hcd dX7_append_58 ?_
        obtain ⟨σ9, eσ9, ho⟩ := lt_ex ho
        refine g_puti hC hW (C := RX7) (T := TX7) (N := 19) (ci := 9) (k := 12) (index := 225) (i := 132) inGX7 tyX7 tyX7_ok nmX7 rfl (by decide) fl_X7_225 rfl (by decide) rfl rfl rfl rfl dX7_append_59 (fun H locs hW => ?_)
        rw [← eσ9] at hW
        refine lv_aload_n hx hcd dX7_append_62 rfl (lv_at hl 0 rfl) ?_
        refine g_geti hC hW (C := RX7) (T := TX7) (N := 19) (ci := 9) (k := 12) (index := 225) (i := 132) inGX7 rfl (by decide) fl_X7_225 (by decide) rfl rfl dX7_append_63 ?_
        obtain rfl := Option.some.inj ho
        exact g_iret hC hr hlk hsz hW dX7_append_66
      · have ho := gif_n ho c6
        refine lv_iconst (v := 0) hx hcd dX7_append_40 (by decide) ?_
        obtain rfl := Option.some.inj ho
        exact g_iret hC hr hlk hsz hW dX7_append_41
    · have ho := gif_p ho c4
      refine lv_iconst (v := 2) hx hcd dX7_append_25 (by decide) ?_
      refine lv_goto (tgt := 30) hx hcd dX7_append_26 (by decide) ?_
      obtain ⟨σ10, eσ10, ho⟩ := lt_ex ho
      refine g_puti hC hW (C := RX7) (T := TX7) (N := 19) (ci := 9) (k := 8) (index := 48) (i := 132) inGX7 tyX7 tyX7_ok nmX7 rfl (by decide) fl_X7_48 rfl (by decide) rfl rfl rfl rfl dX7_append_30 (fun H locs hW => ?_)
      rw [← eσ10] at hW
      refine lv_aload_n hx hcd dX7_append_33 rfl (lv_at hl 0 rfl) ?_
      refine g_geti hC hW (C := RX7) (T := TX7) (N := 19) (ci := 9) (k := 8) (index := 48) (i := 132) inGX7 rfl (by decide) fl_X7_48 (by decide) rfl rfl dX7_append_34 ?_
      refine lv_if_le (tgt := 42) hx hcd dX7_append_37 (by decide) (fun c11 => ?_) (fun c11 => ?_)
      · have ho := gif_p ho c11
        refine lv_aload_n hx hcd dX7_append_42 rfl (lv_at hl 0 rfl) ?_
        refine g_getr hC hW (C := RX7) (T := TX7) (N := 19) (ci := 9) (k := 11) (index := 31) (i := 132) (r := 140) inGX7 rfl (by decide) fl_X7_31 (by decide) rfl rfl dX7_append_43 ?_
        refine lv_aload_n hx hcd dX7_append_46 rfl (lv_at hl 0 rfl) ?_
        refine g_geti hC hW (C := RX7) (T := TX7) (N := 19) (ci := 9) (k := 12) (index := 225) (i := 132) inGX7 rfl (by decide) fl_X7_225 (by decide) rfl rfl dX7_append_47 ?_
        refine lv_iload_n hx hcd dX7_append_50 rfl (lv_at hl 1 rfl) ?_
        obtain ⟨i12, ho⟩ := gd_some ho
        obtain ⟨σ13, eσ13, ho⟩ := lt_ex ho
        refine g_cast hC hW (i := 140) (by decide) rfl i12 dX7_append_51 (fun H locs hW => ?_)
        rw [← eσ13] at hW
        refine lv_aload_n hx hcd dX7_append_52 rfl (lv_at hl 0 rfl) ?_
        refine lv_dup hx hcd dX7_append_53 rfl ?_
        refine g_geti hC hW (C := RX7) (T := TX7) (N := 19) (ci := 9) (k := 12) (index := 225) (i := 132) inGX7 rfl (by decide) fl_X7_225 (by decide) rfl rfl dX7_append_54 ?_
        refine lv_iconst (v := 1) hx hcd dX7_append_57 (by decide) ?_
        refine lv_iadd hx hcd dX7_append_58 ?_
        obtain ⟨σ14, eσ14, ho⟩ := lt_ex ho
        refine g_puti hC hW (C := RX7) (T := TX7) (N := 19) (ci := 9) (k := 12) (index := 225) (i := 132) inGX7 tyX7 tyX7_ok nmX7 rfl (by decide) fl_X7_225 rfl (by decide) rfl rfl rfl rfl dX7_append_59 (fun H locs hW => ?_)
        rw [← eσ14] at hW
        refine lv_aload_n hx hcd dX7_append_62 rfl (lv_at hl 0 rfl) ?_
        refine g_geti hC hW (C := RX7) (T := TX7) (N := 19) (ci := 9) (k := 12) (index := 225) (i := 132) inGX7 rfl (by decide) fl_X7_225 (by decide) rfl rfl dX7_append_63 ?_
        obtain rfl := Option.some.inj ho
        exact g_iret hC hr hlk hsz hW dX7_append_66
      · have ho := gif_n ho c11
        refine lv_iconst (v := 0) hx hcd dX7_append_40 (by decide) ?_
        obtain rfl := Option.some.inj ho
        exact g_iret hC hr hlk hsz hW dX7_append_41
  · have ho := gif_p ho c3
    refine lv_iconst (v := 1) hx hcd dX7_append_12 (by decide) ?_
    refine lv_goto (tgt := 30) hx hcd dX7_append_13 (by decide) ?_
    obtain ⟨σ15, eσ15, ho⟩ := lt_ex ho
    refine g_puti hC hW (C := RX7) (T := TX7) (N := 19) (ci := 9) (k := 8) (index := 48) (i := 132) inGX7 tyX7 tyX7_ok nmX7 rfl (by decide) fl_X7_48 rfl (by decide) rfl rfl rfl rfl dX7_append_30 (fun H locs hW => ?_)
    rw [← eσ15] at hW
    refine lv_aload_n hx hcd dX7_append_33 rfl (lv_at hl 0 rfl) ?_
    refine g_geti hC hW (C := RX7) (T := TX7) (N := 19) (ci := 9) (k := 8) (index := 48) (i := 132) inGX7 rfl (by decide) fl_X7_48 (by decide) rfl rfl dX7_append_34 ?_
    refine lv_if_le (tgt := 42) hx hcd dX7_append_37 (by decide) (fun c16 => ?_) (fun c16 => ?_)
    · have ho := gif_p ho c16
      refine lv_aload_n hx hcd dX7_append_42 rfl (lv_at hl 0 rfl) ?_
      refine g_getr hC hW (C := RX7) (T := TX7) (N := 19) (ci := 9) (k := 11) (index := 31) (i := 132) (r := 140) inGX7 rfl (by decide) fl_X7_31 (by decide) rfl rfl dX7_append_43 ?_
      refine lv_aload_n hx hcd dX7_append_46 rfl (lv_at hl 0 rfl) ?_
      refine g_geti hC hW (C := RX7) (T := TX7) (N := 19) (ci := 9) (k := 12) (index := 225) (i := 132) inGX7 rfl (by decide) fl_X7_225 (by decide) rfl rfl dX7_append_47 ?_
      refine lv_iload_n hx hcd dX7_append_50 rfl (lv_at hl 1 rfl) ?_
      obtain ⟨i17, ho⟩ := gd_some ho
      obtain ⟨σ18, eσ18, ho⟩ := lt_ex ho
      refine g_cast hC hW (i := 140) (by decide) rfl i17 dX7_append_51 (fun H locs hW => ?_)
      rw [← eσ18] at hW
      refine lv_aload_n hx hcd dX7_append_52 rfl (lv_at hl 0 rfl) ?_
      refine lv_dup hx hcd dX7_append_53 rfl ?_
      refine g_geti hC hW (C := RX7) (T := TX7) (N := 19) (ci := 9) (k := 12) (index := 225) (i := 132) inGX7 rfl (by decide) fl_X7_225 (by decide) rfl rfl dX7_append_54 ?_
      refine lv_iconst (v := 1) hx hcd dX7_append_57 (by decide) ?_
      refine lv_iadd hx hcd dX7_append_58 ?_
      obtain ⟨σ19, eσ19, ho⟩ := lt_ex ho
      refine g_puti hC hW (C := RX7) (T := TX7) (N := 19) (ci := 9) (k := 12) (index := 225) (i := 132) inGX7 tyX7 tyX7_ok nmX7 rfl (by decide) fl_X7_225 rfl (by decide) rfl rfl rfl rfl dX7_append_59 (fun H locs hW => ?_)
      rw [← eσ19] at hW
      refine lv_aload_n hx hcd dX7_append_62 rfl (lv_at hl 0 rfl) ?_
      refine g_geti hC hW (C := RX7) (T := TX7) (N := 19) (ci := 9) (k := 12) (index := 225) (i := 132) inGX7 rfl (by decide) fl_X7_225 (by decide) rfl rfl dX7_append_63 ?_
      obtain rfl := Option.some.inj ho
      exact g_iret hC hr hlk hsz hW dX7_append_66
    · have ho := gif_n ho c16
      refine lv_iconst (v := 0) hx hcd dX7_append_40 (by decide) ?_
      obtain rfl := Option.some.inj ho
      exact g_iret hC hr hlk hsz hW dX7_append_41
noncomputable def X7_isHere (σ : gS) (x1 : Int32) (x2 : Int32) : Option (Int32) :=
  if (σ 132 14) = 0 then (if (σ 132 12) ≤ (σ 132 13) then (some 0) else (gd (ib (σ 132 13) 60) <| (X7_in σ (σ 140 (σ 132 13).toNatClampNeg) x1 x2).bind fun r5 => if r5 = 0 then (some 0) else (some 1))) else (some 0)
set_option maxHeartbeats 4000000 in
set_option maxRecDepth 100000 in
theorem c_X7_isHere (l : Launch) (D : va_G) (y : ClassId × ClassId × ClassId) (ad : Nat → Nat) (x1 : Int32) (x2 : Int32) (σ : gS) (sz : Nat) {q : Int32} (h : X7_isHere σ x1 x2 = some q) : Met l yX7_isHere (Cond.code yX7_isHere cX7_isHere 3 (some .boolean) :: gl) ({ frames := 1, cells := 0, slots := 0, locals := 22 }) (g_Pc D y ad σ sz [.ref (ad 132), .int x1, .int x2]) (g_Qi D y ad σ sz q) 0 0 (g_A ad sz) := by
  have ho := h
  unfold X7_isHere at ho
  refine g_start (by decide) (Nat.le_of_ble_eq_true rfl) (fun p e s m below meth c ls hC hr hlk hsz hW hl => ?_)
  have hx := hC.1
  have hcd := hC.2.1
  have hl : lv_has ls 3 [(0, .ref (ad 132)), (1, .int x1), (2, .int x2)] := hl
  refine lv_aload_n hx hcd dX7_isHere_0 rfl (lv_at hl 0 rfl) ?_
  refine g_geti hC hW (C := RX7) (T := TX7) (N := 19) (ci := 9) (k := 14) (index := 228) (i := 132) inGX7 rfl (by decide) fl_X7_228 (by decide) rfl rfl dX7_isHere_1 ?_
  refine lv_if_ne (tgt := 39) hx hcd dX7_isHere_4 (by decide) (fun c1 => ?_) (fun c1 => ?_)
  · have ho := gif_n ho c1
    refine lv_iconst (v := 0) hx hcd dX7_isHere_39 (by decide) ?_
    obtain rfl := Option.some.inj ho
    exact g_zret (r := 0) hC hr hlk hsz hW (by decide) dX7_isHere_40
  · have ho := gif_p ho c1
    refine lv_aload_n hx hcd dX7_isHere_7 rfl (lv_at hl 0 rfl) ?_
    refine g_geti hC hW (C := RX7) (T := TX7) (N := 19) (ci := 9) (k := 13) (index := 232) (i := 132) inGX7 rfl (by decide) fl_X7_232 (by decide) rfl rfl dX7_isHere_8 ?_
    refine lv_aload_n hx hcd dX7_isHere_11 rfl (lv_at hl 0 rfl) ?_
    refine g_geti hC hW (C := RX7) (T := TX7) (N := 19) (ci := 9) (k := 12) (index := 225) (i := 132) inGX7 rfl (by decide) fl_X7_225 (by decide) rfl rfl dX7_isHere_12 ?_
    refine lv_icmp_ge (tgt := 39) hx hcd dX7_isHere_15 (by decide) (fun c2 => ?_) (fun c2 => ?_)
    · have ho := gif_p ho c2
      refine lv_iconst (v := 0) hx hcd dX7_isHere_39 (by decide) ?_
      obtain rfl := Option.some.inj ho
      exact g_zret (r := 0) hC hr hlk hsz hW (by decide) dX7_isHere_40
    · have ho := gif_n ho c2
      refine lv_aload_n hx hcd dX7_isHere_18 rfl (lv_at hl 0 rfl) ?_
      refine g_getr hC hW (C := RX7) (T := TX7) (N := 19) (ci := 9) (k := 11) (index := 31) (i := 132) (r := 140) inGX7 rfl (by decide) fl_X7_31 (by decide) rfl rfl dX7_isHere_19 ?_
      refine lv_aload_n hx hcd dX7_isHere_22 rfl (lv_at hl 0 rfl) ?_
      refine g_geti hC hW (C := RX7) (T := TX7) (N := 19) (ci := 9) (k := 13) (index := 232) (i := 132) inGX7 rfl (by decide) fl_X7_232 (by decide) rfl rfl dX7_isHere_23 ?_
      obtain ⟨i3, ho⟩ := gd_some ho
      refine g_cald hC hW (i := 140) (by decide) rfl i3 dX7_isHere_26 ?_
      refine lv_iload_n hx hcd dX7_isHere_27 rfl (lv_at hl 1 rfl) ?_
      refine lv_iload_n hx hcd dX7_isHere_28 rfl (lv_at hl 2 rfl) ?_
      obtain ⟨r5, h4, ho⟩ := gb_some ho
      refine g_calli hW (g_runS (As := [.int (σ 140 (σ 132 13).toNatClampNeg), .int x1, .int x2]) (rest := []) hC hW (c_X7_in l D y ad (σ 140 (σ 132 13).toNatClampNeg) x1 x2 _ _ h4) ok_X7_51 ⟨rfl, rfl, Nat.le_of_ble_eq_true rfl, Nat.le_of_ble_eq_true rfl⟩ rfl hl.1 rfl (Nat.le_of_ble_eq_true rfl) dX7_isHere_29 ⟨Nat.zero_le _, Nat.zero_le _⟩) (fun H locs hW => ?_)
      refine lv_if_eq (tgt := 39) hx hcd dX7_isHere_32 (by decide) (fun c6 => ?_) (fun c6 => ?_)
      · have ho := gif_p ho c6
        refine lv_iconst (v := 0) hx hcd dX7_isHere_39 (by decide) ?_
        obtain rfl := Option.some.inj ho
        exact g_zret (r := 0) hC hr hlk hsz hW (by decide) dX7_isHere_40
      · have ho := gif_n ho c6
        refine lv_iconst (v := 1) hx hcd dX7_isHere_35 (by decide) ?_
        refine lv_goto (tgt := 40) hx hcd dX7_isHere_36 (by decide) ?_
        obtain rfl := Option.some.inj ho
        exact g_zret (r := 1) hC hr hlk hsz hW (by decide) dX7_isHere_40
noncomputable def X7_sign (σ : gS) (x1 : Int32) : Option (gS) :=
  (X7_isHere σ x1 x1).bind fun r2 => if r2 = 0 then (lt_ (g_up σ 132 14 1) fun σ8 => if (σ8 132 14) = 0 then (lt_ (g_up σ8 132 13 ((σ8 132 13) + (1 : Int32))) fun σ10 => some σ10) else (lt_ (g_up σ8 132 13 ((σ8 132 13) + (0 : Int32))) fun σ11 => some σ11)) else (lt_ (g_up σ 132 14 0) fun σ4 => if (σ4 132 14) = 0 then (lt_ (g_up σ4 132 13 ((σ4 132 13) + (1 : Int32))) fun σ6 => some σ6) else (lt_ (g_up σ4 132 13 ((σ4 132 13) + (0 : Int32))) fun σ7 => some σ7))
set_option maxHeartbeats 4000000 in
set_option maxRecDepth 100000 in
theorem c_X7_sign (l : Launch) (D : va_G) (y : ClassId × ClassId × ClassId) (ad : Nat → Nat) (x1 : Int32) (σ : gS) (sz : Nat) {q : gS} (h : X7_sign σ x1 = some q) : Met l yX7_sign (Cond.code yX7_sign cX7_sign 2 none :: gl) ({ frames := 2, cells := 0, slots := 0, locals := 44 }) (g_Pc D y ad σ sz [.ref (ad 132), .int x1]) (g_Qv D y ad q sz) 0 0 (g_A ad sz) := by
  have ho := h
  unfold X7_sign at ho
  refine g_start (by decide) (Nat.le_of_ble_eq_true rfl) (fun p e s m below meth c ls hC hr hlk hsz hW hl => ?_)
  have hx := hC.1
  have hcd := hC.2.1
  have hl : lv_has ls 2 [(0, .ref (ad 132)), (1, .int x1)] := hl
  refine lv_aload_n hx hcd dX7_sign_0 rfl (lv_at hl 0 rfl) ?_
  refine lv_aload_n hx hcd dX7_sign_1 rfl (lv_at hl 0 rfl) ?_
  refine lv_iload_n hx hcd dX7_sign_2 rfl (lv_at hl 1 rfl) ?_
  refine lv_iload_n hx hcd dX7_sign_3 rfl (lv_at hl 1 rfl) ?_
  obtain ⟨r2, h1, ho⟩ := gb_some ho
  refine g_calli hW (g_runV (As := [.int x1, .int x1]) (rest := [.ref (ad 132)]) (i := 132) hC hW (c_X7_isHere l D y ad x1 x1 _ _ h1) ok_X7_235 ⟨rfl, rfl, Nat.le_of_ble_eq_true rfl, Nat.le_of_ble_eq_true rfl⟩ (by decide) rfl rfl rfl rfl hl.1 rfl (Nat.le_of_ble_eq_true rfl) dX7_sign_4 ⟨Nat.zero_le _, Nat.zero_le _⟩) (fun H locs hW => ?_)
  refine lv_if_ne (tgt := 14) hx hcd dX7_sign_7 (by decide) (fun c3 => ?_) (fun c3 => ?_)
  · have ho := gif_n ho c3
    refine lv_iconst (v := 0) hx hcd dX7_sign_14 (by decide) ?_
    obtain ⟨σ4, eσ4, ho⟩ := lt_ex ho
    refine g_puti hC hW (C := RX7) (T := TX7) (N := 19) (ci := 9) (k := 14) (index := 228) (i := 132) inGX7 tyX7 tyX7_ok nmX7 rfl (by decide) fl_X7_228 rfl (by decide) rfl rfl rfl rfl dX7_sign_15 (fun H locs hW => ?_)
    rw [← eσ4] at hW
    refine lv_aload_n hx hcd dX7_sign_18 rfl (lv_at hl 0 rfl) ?_
    refine lv_dup hx hcd dX7_sign_19 rfl ?_
    refine g_geti hC hW (C := RX7) (T := TX7) (N := 19) (ci := 9) (k := 13) (index := 232) (i := 132) inGX7 rfl (by decide) fl_X7_232 (by decide) rfl rfl dX7_sign_20 ?_
    refine lv_aload_n hx hcd dX7_sign_23 rfl (lv_at hl 0 rfl) ?_
    refine g_geti hC hW (C := RX7) (T := TX7) (N := 19) (ci := 9) (k := 14) (index := 228) (i := 132) inGX7 rfl (by decide) fl_X7_228 (by decide) rfl rfl dX7_sign_24 ?_
    refine lv_if_eq (tgt := 34) hx hcd dX7_sign_27 (by decide) (fun c5 => ?_) (fun c5 => ?_)
    · have ho := gif_p ho c5
      refine lv_iconst (v := 1) hx hcd dX7_sign_34 (by decide) ?_
      refine lv_iadd hx hcd dX7_sign_35 ?_
      obtain ⟨σ6, eσ6, ho⟩ := lt_ex ho
      refine g_puti hC hW (C := RX7) (T := TX7) (N := 19) (ci := 9) (k := 13) (index := 232) (i := 132) inGX7 tyX7 tyX7_ok nmX7 rfl (by decide) fl_X7_232 rfl (by decide) rfl rfl rfl rfl dX7_sign_36 (fun H locs hW => ?_)
      rw [← eσ6] at hW
      obtain rfl := Option.some.inj ho
      exact g_vret hC hr hlk hsz hW dX7_sign_39
    · have ho := gif_n ho c5
      refine lv_iconst (v := 0) hx hcd dX7_sign_30 (by decide) ?_
      refine lv_goto (tgt := 35) hx hcd dX7_sign_31 (by decide) ?_
      refine lv_iadd hx hcd dX7_sign_35 ?_
      obtain ⟨σ7, eσ7, ho⟩ := lt_ex ho
      refine g_puti hC hW (C := RX7) (T := TX7) (N := 19) (ci := 9) (k := 13) (index := 232) (i := 132) inGX7 tyX7 tyX7_ok nmX7 rfl (by decide) fl_X7_232 rfl (by decide) rfl rfl rfl rfl dX7_sign_36 (fun H locs hW => ?_)
      rw [← eσ7] at hW
      obtain rfl := Option.some.inj ho
      exact g_vret hC hr hlk hsz hW dX7_sign_39
  · have ho := gif_p ho c3
    refine lv_iconst (v := 1) hx hcd dX7_sign_10 (by decide) ?_
    refine lv_goto (tgt := 15) hx hcd dX7_sign_11 (by decide) ?_
    obtain ⟨σ8, eσ8, ho⟩ := lt_ex ho
    refine g_puti hC hW (C := RX7) (T := TX7) (N := 19) (ci := 9) (k := 14) (index := 228) (i := 132) inGX7 tyX7 tyX7_ok nmX7 rfl (by decide) fl_X7_228 rfl (by decide) rfl rfl rfl rfl dX7_sign_15 (fun H locs hW => ?_)
    rw [← eσ8] at hW
    refine lv_aload_n hx hcd dX7_sign_18 rfl (lv_at hl 0 rfl) ?_
    refine lv_dup hx hcd dX7_sign_19 rfl ?_
    refine g_geti hC hW (C := RX7) (T := TX7) (N := 19) (ci := 9) (k := 13) (index := 232) (i := 132) inGX7 rfl (by decide) fl_X7_232 (by decide) rfl rfl dX7_sign_20 ?_
    refine lv_aload_n hx hcd dX7_sign_23 rfl (lv_at hl 0 rfl) ?_
    refine g_geti hC hW (C := RX7) (T := TX7) (N := 19) (ci := 9) (k := 14) (index := 228) (i := 132) inGX7 rfl (by decide) fl_X7_228 (by decide) rfl rfl dX7_sign_24 ?_
    refine lv_if_eq (tgt := 34) hx hcd dX7_sign_27 (by decide) (fun c9 => ?_) (fun c9 => ?_)
    · have ho := gif_p ho c9
      refine lv_iconst (v := 1) hx hcd dX7_sign_34 (by decide) ?_
      refine lv_iadd hx hcd dX7_sign_35 ?_
      obtain ⟨σ10, eσ10, ho⟩ := lt_ex ho
      refine g_puti hC hW (C := RX7) (T := TX7) (N := 19) (ci := 9) (k := 13) (index := 232) (i := 132) inGX7 tyX7 tyX7_ok nmX7 rfl (by decide) fl_X7_232 rfl (by decide) rfl rfl rfl rfl dX7_sign_36 (fun H locs hW => ?_)
      rw [← eσ10] at hW
      obtain rfl := Option.some.inj ho
      exact g_vret hC hr hlk hsz hW dX7_sign_39
    · have ho := gif_n ho c9
      refine lv_iconst (v := 0) hx hcd dX7_sign_30 (by decide) ?_
      refine lv_goto (tgt := 35) hx hcd dX7_sign_31 (by decide) ?_
      refine lv_iadd hx hcd dX7_sign_35 ?_
      obtain ⟨σ11, eσ11, ho⟩ := lt_ex ho
      refine g_puti hC hW (C := RX7) (T := TX7) (N := 19) (ci := 9) (k := 13) (index := 232) (i := 132) inGX7 tyX7 tyX7_ok nmX7 rfl (by decide) fl_X7_232 rfl (by decide) rfl rfl rfl rfl dX7_sign_36 (fun H locs hW => ?_)
      rw [← eσ11] at hW
      obtain rfl := Option.some.inj ho
      exact g_vret hC hr hlk hsz hW dX7_sign_39
noncomputable def X7_number_k0 (σ : gS) (x1 : Int32) (x2 : Int32) (x3 : Int32) : Option ((Int32 × Int32 × Int32 × gS) ⊕ (Int32 × gS)) :=
  if x1 ≤ x3 then (some (.inr (x2, σ))) else ((X7_isHere σ 48 57).bind fun r8 => if r8 = 0 then (some (.inr (x2, σ))) else (gd (ib (σ 132 13) 60) <| lt_ (g_up σ 132 13 ((σ 132 13) + (1 : Int32))) fun σ11 => some (.inl (x1, ((((10 : Int32) * x2) + (σ 140 (σ 132 13).toNatClampNeg)) - (48 : Int32)), (x3 + 1), σ11))))
noncomputable def X7_number_s (a : Int32 × Int32 × Int32 × gS) : Option ((Int32 × Int32 × Int32 × gS) ⊕ (Int32 × gS)) :=
  X7_number_k0 a.2.2.2 a.1 a.2.1 a.2.2.1
noncomputable def X7_number (σ : gS) (x1 : Int32) : Option (Int32 × gS) :=
  (X7_isHere σ 48 57).bind fun r2 => if r2 = 0 then (lt_ (g_up σ 132 14 1) fun σ5 => gr (X7_number_s) (x1, 0, 0, σ5)) else (lt_ (g_up σ 132 14 0) fun σ4 => gr (X7_number_s) (x1, 0, 0, σ4))
set_option maxHeartbeats 4000000 in
set_option maxRecDepth 100000 in
theorem l_X7_number {p : Program} {e : Env} {s : State} {m : MethodId} {args : Array Value} {below : List Frame} {meth : Method} {c : Code} (l : Launch) (D : va_G) (y : ClassId × ClassId × ClassId) (ad : Nat → Nat) (sz : Nat) (hC : g_C p s m args c cX7_number 4 RX7 D y) (hr : meth.sig.returnType = (some .int)) (hlk : meth.locks = false) (hsz : s.heap.size = sz) {r0 : Int32 × gS} : ∀ a : Int32 × Int32 × Int32 × gS, gr (X7_number_s) a = some r0 → ∀ (H : Heap) (locs : List Loc) (ls : Array Slot), g_W (g_A ad sz) s.heap D y ad [] a.2.2.2 H locs → lv_has ls 4 [(0, .ref (ad 132)), (1, .int a.1), (2, .int a.2.1), (3, .int a.2.2.1)] → W p l e ({ frames := 2, cells := 0, slots := 0, locals := 44 }) s m args below meth c H locs 0 0 (MQ below (g_Qi D y ad r0.2 sz r0.1) args s 0 0 (g_A ad sz)) (F0 m 24 ls []) := by
  have hx := hC.1
  have hcd := hC.2.1
  refine gr_all (fun a o ho hret hjmp => ?_)
  obtain ⟨x1, x2, x3, σ⟩ := a
  intro H locs ls hW hl
  have ho : X7_number_k0 σ x1 x2 x3 = some o := ho
  unfold X7_number_k0 at ho
  refine lv_iload_n hx hcd dX7_number_24 rfl (lv_at hl 3 rfl) ?_
  refine lv_iload_n hx hcd dX7_number_25 rfl (lv_at hl 1 rfl) ?_
  refine lv_icmp_ge (tgt := 74) hx hcd dX7_number_26 (by decide) (fun c6 => ?_) (fun c6 => ?_)
  · have ho := gif_p ho c6
    refine lv_iload_n hx hcd dX7_number_74 rfl (lv_at hl 2 rfl) ?_
    obtain rfl := hret _ (Option.some.inj ho).symm
    exact g_iret hC hr hlk hsz hW dX7_number_75
  · have ho := gif_n ho c6
    refine lv_aload_n hx hcd dX7_number_29 rfl (lv_at hl 0 rfl) ?_
    refine lv_bipush (v := 48) hx hcd dX7_number_30 (by decide) ?_
    refine lv_bipush (v := 57) hx hcd dX7_number_32 (by decide) ?_
    obtain ⟨r8, h7, ho⟩ := gb_some ho
    refine g_calli hW (g_runV (As := [.int 48, .int 57]) (rest := []) (i := 132) hC hW (c_X7_isHere l D y ad 48 57 _ _ h7) ok_X7_235 ⟨rfl, rfl, Nat.le_of_ble_eq_true rfl, Nat.le_of_ble_eq_true rfl⟩ (by decide) rfl rfl rfl rfl hl.1 rfl (Nat.le_of_ble_eq_true rfl) dX7_number_34 ⟨Nat.zero_le _, Nat.zero_le _⟩) (fun H locs hW => ?_)
    refine lv_if_eq (tgt := 74) hx hcd dX7_number_37 (by decide) (fun c9 => ?_) (fun c9 => ?_)
    · have ho := gif_p ho c9
      refine lv_iload_n hx hcd dX7_number_74 rfl (lv_at hl 2 rfl) ?_
      obtain rfl := hret _ (Option.some.inj ho).symm
      exact g_iret hC hr hlk hsz hW dX7_number_75
    · have ho := gif_n ho c9
      refine lv_bipush (v := 10) hx hcd dX7_number_40 (by decide) ?_
      refine lv_iload_n hx hcd dX7_number_42 rfl (lv_at hl 2 rfl) ?_
      refine lv_imul hx hcd dX7_number_43 ?_
      refine lv_aload_n hx hcd dX7_number_44 rfl (lv_at hl 0 rfl) ?_
      refine g_getr hC hW (C := RX7) (T := TX7) (N := 19) (ci := 9) (k := 11) (index := 31) (i := 132) (r := 140) inGX7 rfl (by decide) fl_X7_31 (by decide) rfl rfl dX7_number_45 ?_
      refine lv_aload_n hx hcd dX7_number_48 rfl (lv_at hl 0 rfl) ?_
      refine g_geti hC hW (C := RX7) (T := TX7) (N := 19) (ci := 9) (k := 13) (index := 232) (i := 132) inGX7 rfl (by decide) fl_X7_232 (by decide) rfl rfl dX7_number_49 ?_
      obtain ⟨i10, ho⟩ := gd_some ho
      refine g_cald hC hW (i := 140) (by decide) rfl i10 dX7_number_52 ?_
      refine lv_iadd hx hcd dX7_number_53 ?_
      refine lv_bipush (v := 48) hx hcd dX7_number_54 (by decide) ?_
      refine lv_isub hx hcd dX7_number_56 ?_
      refine lv_istore_n (lv' := [(2, .int ((((10 : Int32) * x2) + (σ 140 (σ 132 13).toNatClampNeg)) - (48 : Int32))), (0, .ref (ad 132)), (1, .int x1), (3, .int x3)]) hx hcd dX7_number_57 rfl hl (by decide) rfl (fun ls hl => ?_)
      refine lv_aload_n hx hcd dX7_number_58 rfl (lv_at hl 1 rfl) ?_
      refine lv_dup hx hcd dX7_number_59 rfl ?_
      refine g_geti hC hW (C := RX7) (T := TX7) (N := 19) (ci := 9) (k := 13) (index := 232) (i := 132) inGX7 rfl (by decide) fl_X7_232 (by decide) rfl rfl dX7_number_60 ?_
      refine lv_iconst (v := 1) hx hcd dX7_number_63 (by decide) ?_
      refine lv_iadd hx hcd dX7_number_64 ?_
      obtain ⟨σ11, eσ11, ho⟩ := lt_ex ho
      refine g_puti hC hW (C := RX7) (T := TX7) (N := 19) (ci := 9) (k := 13) (index := 232) (i := 132) inGX7 tyX7 tyX7_ok nmX7 rfl (by decide) fl_X7_232 rfl (by decide) rfl rfl rfl rfl dX7_number_65 (fun H locs hW => ?_)
      rw [← eσ11] at hW
      refine lv_iinc (v := x3 + 1) (lv' := [(3, .int (x3 + 1)), (2, .int ((((10 : Int32) * x2) + (σ 140 (σ 132 13).toNatClampNeg)) - (48 : Int32))), (0, .ref (ad 132)), (1, .int x1)]) hx hcd dX7_number_68 hl (k := 3) rfl rfl (by decide) rfl (fun ls hl => ?_)
      refine lv_goto (tgt := 24) hx hcd dX7_number_71 (by decide) ?_
      exact hjmp _ (Option.some.inj ho).symm _ _ _ hW (lv_sub hl [2, 3, 1, 0] rfl)
set_option maxHeartbeats 4000000 in
set_option maxRecDepth 100000 in
theorem c_X7_number (l : Launch) (D : va_G) (y : ClassId × ClassId × ClassId) (ad : Nat → Nat) (x1 : Int32) (σ : gS) (sz : Nat) {q : Int32 × gS} (h : X7_number σ x1 = some q) : Met l yX7_number (Cond.code yX7_number cX7_number 4 (some .int) :: gl) ({ frames := 2, cells := 0, slots := 0, locals := 44 }) (g_Pc D y ad σ sz [.ref (ad 132), .int x1]) (g_Qi D y ad q.2 sz q.1) 0 0 (g_A ad sz) := by
  have ho := h
  unfold X7_number at ho
  refine g_start (by decide) (Nat.le_of_ble_eq_true rfl) (fun p e s m below meth c ls hC hr hlk hsz hW hl => ?_)
  have hx := hC.1
  have hcd := hC.2.1
  have hl : lv_has ls 4 [(0, .ref (ad 132)), (1, .int x1)] := hl
  refine lv_aload_n hx hcd dX7_number_0 rfl (lv_at hl 0 rfl) ?_
  refine lv_aload_n hx hcd dX7_number_1 rfl (lv_at hl 0 rfl) ?_
  refine lv_bipush (v := 48) hx hcd dX7_number_2 (by decide) ?_
  refine lv_bipush (v := 57) hx hcd dX7_number_4 (by decide) ?_
  obtain ⟨r2, h1, ho⟩ := gb_some ho
  refine g_calli hW (g_runV (As := [.int 48, .int 57]) (rest := [.ref (ad 132)]) (i := 132) hC hW (c_X7_isHere l D y ad 48 57 _ _ h1) ok_X7_235 ⟨rfl, rfl, Nat.le_of_ble_eq_true rfl, Nat.le_of_ble_eq_true rfl⟩ (by decide) rfl rfl rfl rfl hl.1 rfl (Nat.le_of_ble_eq_true rfl) dX7_number_6 ⟨Nat.zero_le _, Nat.zero_le _⟩) (fun H locs hW => ?_)
  refine lv_if_ne (tgt := 16) hx hcd dX7_number_9 (by decide) (fun c3 => ?_) (fun c3 => ?_)
  · have ho := gif_n ho c3
    refine lv_iconst (v := 0) hx hcd dX7_number_16 (by decide) ?_
    obtain ⟨σ4, eσ4, ho⟩ := lt_ex ho
    refine g_puti hC hW (C := RX7) (T := TX7) (N := 19) (ci := 9) (k := 14) (index := 228) (i := 132) inGX7 tyX7 tyX7_ok nmX7 rfl (by decide) fl_X7_228 rfl (by decide) rfl rfl rfl rfl dX7_number_17 (fun H locs hW => ?_)
    rw [← eσ4] at hW
    refine lv_iconst (v := 0) hx hcd dX7_number_20 (by decide) ?_
    refine lv_istore_n (lv' := [(2, .int 0), (0, .ref (ad 132)), (1, .int x1)]) hx hcd dX7_number_21 rfl hl (by decide) rfl (fun ls hl => ?_)
    refine lv_iconst (v := 0) hx hcd dX7_number_22 (by decide) ?_
    refine lv_istore_n (lv' := [(3, .int 0), (2, .int 0), (0, .ref (ad 132)), (1, .int x1)]) hx hcd dX7_number_23 rfl hl (by decide) rfl (fun ls hl => ?_)
    exact l_X7_number l D y ad sz hC hr hlk hsz _ ho _ _ _ hW (lv_sub hl [2, 3, 1, 0] rfl)
  · have ho := gif_p ho c3
    refine lv_iconst (v := 1) hx hcd dX7_number_12 (by decide) ?_
    refine lv_goto (tgt := 17) hx hcd dX7_number_13 (by decide) ?_
    obtain ⟨σ5, eσ5, ho⟩ := lt_ex ho
    refine g_puti hC hW (C := RX7) (T := TX7) (N := 19) (ci := 9) (k := 14) (index := 228) (i := 132) inGX7 tyX7 tyX7_ok nmX7 rfl (by decide) fl_X7_228 rfl (by decide) rfl rfl rfl rfl dX7_number_17 (fun H locs hW => ?_)
    rw [← eσ5] at hW
    refine lv_iconst (v := 0) hx hcd dX7_number_20 (by decide) ?_
    refine lv_istore_n (lv' := [(2, .int 0), (0, .ref (ad 132)), (1, .int x1)]) hx hcd dX7_number_21 rfl hl (by decide) rfl (fun ls hl => ?_)
    refine lv_iconst (v := 0) hx hcd dX7_number_22 (by decide) ?_
    refine lv_istore_n (lv' := [(3, .int 0), (2, .int 0), (0, .ref (ad 132)), (1, .int x1)]) hx hcd dX7_number_23 rfl hl (by decide) rfl (fun ls hl => ?_)
    exact l_X7_number l D y ad sz hC hr hlk hsz _ ho _ _ _ hW (lv_sub hl [2, 3, 1, 0] rfl)
noncomputable def X7_behind (σ : gS) (x1 : Int32) (x2 : Int32) : Option (Int32 × gS) :=
  (X7_sign σ x1).bind fun σ2 => (X7_number σ2 x2).bind fun q4 => some (q4.1, q4.2)
set_option maxHeartbeats 4000000 in
set_option maxRecDepth 100000 in
theorem c_X7_behind (l : Launch) (D : va_G) (y : ClassId × ClassId × ClassId) (ad : Nat → Nat) (x1 : Int32) (x2 : Int32) (σ : gS) (sz : Nat) {q : Int32 × gS} (h : X7_behind σ x1 x2 = some q) : Met l yX7_behind (Cond.code yX7_behind cX7_behind 3 (some .int) :: gl) ({ frames := 3, cells := 0, slots := 0, locals := 67 }) (g_Pc D y ad σ sz [.ref (ad 132), .int x1, .int x2]) (g_Qi D y ad q.2 sz q.1) 0 0 (g_A ad sz) := by
  have ho := h
  unfold X7_behind at ho
  refine g_start (by decide) (Nat.le_of_ble_eq_true rfl) (fun p e s m below meth c ls hC hr hlk hsz hW hl => ?_)
  have hx := hC.1
  have hcd := hC.2.1
  have hl : lv_has ls 3 [(0, .ref (ad 132)), (1, .int x1), (2, .int x2)] := hl
  refine lv_aload_n hx hcd dX7_behind_0 rfl (lv_at hl 0 rfl) ?_
  refine lv_iload_n hx hcd dX7_behind_1 rfl (lv_at hl 1 rfl) ?_
  obtain ⟨σ2, h1, ho⟩ := gb_some ho
  refine g_callv hW (g_runV (As := [.int x1]) (rest := []) (i := 132) hC hW (c_X7_sign l D y ad x1 _ _ h1) ok_X7_239 ⟨rfl, rfl, Nat.le_of_ble_eq_true rfl, Nat.le_of_ble_eq_true rfl⟩ (by decide) rfl rfl rfl rfl hl.1 rfl (Nat.le_of_ble_eq_true rfl) dX7_behind_2 ⟨Nat.zero_le _, Nat.zero_le _⟩) (fun H locs hW => ?_)
  refine lv_aload_n hx hcd dX7_behind_5 rfl (lv_at hl 0 rfl) ?_
  refine lv_iload_n hx hcd dX7_behind_6 rfl (lv_at hl 2 rfl) ?_
  obtain ⟨q4, h3, ho⟩ := gb_some ho
  refine g_calli hW (g_runV (As := [.int x2]) (rest := []) (i := 132) hC hW (c_X7_number l D y ad x2 _ _ h3) ok_X7_243 ⟨rfl, rfl, Nat.le_of_ble_eq_true rfl, Nat.le_of_ble_eq_true rfl⟩ (by decide) rfl rfl rfl rfl hl.1 rfl (Nat.le_of_ble_eq_true rfl) dX7_behind_7 ⟨Nat.zero_le _, Nat.zero_le _⟩) (fun H locs hW => ?_)
  obtain rfl := Option.some.inj ho
  exact g_iret hC hr hlk hsz hW dX7_behind_10
noncomputable def X7_readEntry_k0 (σ : gS) (x1 : Int32) (x2 : Int32) : Option ((Nat × Int32 × Int32 × gS) ⊕ (gS)) :=
  gd (ib (σ 132 18) 60) <| lt_ (g_up σ 141 (σ 132 18).toNatClampNeg (vp_nar .char x2)) fun σ4 => if x2 = 112 then (lt_ (g_up σ4 132 14 0) fun σ6 => some (.inl (1, x1, x2, σ6))) else (if x2 = 108 then (lt_ (g_up σ4 132 14 0) fun σ8 => some (.inl (1, x1, x2, σ8))) else (if x2 = 100 then (lt_ (g_up σ4 132 14 0) fun σ10 => some (.inl (1, x1, x2, σ10))) else (if x2 = 116 then (lt_ (g_up σ4 132 14 0) fun σ12 => some (.inl (1, x1, x2, σ12))) else (if x2 = 97 then (lt_ (g_up σ4 132 14 0) fun σ14 => some (.inl (1, x1, x2, σ14))) else (lt_ (g_up σ4 132 14 1) fun σ15 => some (.inl (1, x1, x2, σ15)))))))
noncomputable def X7_readEntry_k1 (σ : gS) (x1 : Int32) (x2 : Int32) : Option ((Nat × Int32 × Int32 × gS) ⊕ (gS)) :=
  if (σ 132 14) = 0 then (lt_ (g_up σ 132 13 ((σ 132 13) + (1 : Int32))) fun σ17 => some (.inl (2, x1, x2, σ17))) else (lt_ (g_up σ 132 13 ((σ 132 13) + (0 : Int32))) fun σ18 => some (.inl (2, x1, x2, σ18)))
noncomputable def X7_readEntry_k2 (σ : gS) (x1 : Int32) (x2 : Int32) : Option ((Nat × Int32 × Int32 × gS) ⊕ (gS)) :=
  if (σ 132 14) = 0 then (if x2 = 97 then (gd (ib x1 180) <| lt_ (g_up σ 142 x1.toNatClampNeg 0) fun σ28 => some (.inl (3, x1, x2, σ28))) else ((X7_number σ 1).bind fun q24 => gd (ib x1 180) <| lt_ (g_up q24.2 142 x1.toNatClampNeg q24.1) fun σ26 => some (.inl (3, x1, x2, σ26)))) else (gd (ib x1 180) <| lt_ (g_up σ 142 x1.toNatClampNeg 0) fun σ21 => some (.inl (3, x1, x2, σ21)))
noncomputable def X7_readEntry_k3 (σ : gS) (x1 : Int32) (x2 : Int32) : Option ((Nat × Int32 × Int32 × gS) ⊕ (gS)) :=
  if x2 = 112 then ((X7_behind σ 46 1).bind fun q31 => gd (ib (x1 + (1 : Int32)) 180) <| lt_ (g_up q31.2 142 (x1 + (1 : Int32)).toNatClampNeg q31.1) fun σ33 => some (.inl (4, x1, x2, σ33))) else (if x2 = 108 then ((X7_behind σ 46 1).bind fun q36 => gd (ib (x1 + (1 : Int32)) 180) <| lt_ (g_up q36.2 142 (x1 + (1 : Int32)).toNatClampNeg q36.1) fun σ38 => some (.inl (4, x1, x2, σ38))) else (some (.inl (4, x1, x2, σ))))
noncomputable def X7_readEntry_k4 (σ : gS) (x1 : Int32) (x2 : Int32) : Option ((Nat × Int32 × Int32 × gS) ⊕ (gS)) :=
  if x2 = 112 then ((X7_behind σ 64 1).bind fun q51 => gd (ib (x1 + (2 : Int32)) 180) <| lt_ (g_up q51.2 142 (x1 + (2 : Int32)).toNatClampNeg q51.1) fun σ53 => some (.inl (5, 0, 0, σ53))) else (if x2 = 100 then ((X7_behind σ 43 4).bind fun q42 => gd (ib (x1 + (1 : Int32)) 180) <| lt_ (g_up q42.2 142 (x1 + (1 : Int32)).toNatClampNeg q42.1) fun σ44 => some (.inl (5, 0, 0, σ44))) else (if x2 = 116 then ((X7_behind σ 64 4).bind fun q47 => gd (ib (x1 + (1 : Int32)) 180) <| lt_ (g_up q47.2 142 (x1 + (1 : Int32)).toNatClampNeg q47.1) fun σ49 => some (.inl (5, 0, 0, σ49))) else (some (.inl (5, 0, 0, σ)))))
noncomputable def X7_readEntry_k5 (σ : gS) : Option ((Nat × Int32 × Int32 × gS) ⊕ (gS)) :=
  (X7_sign σ 59).bind fun σ55 => lt_ (g_up σ55 132 18 ((σ55 132 18) + (1 : Int32))) fun σ56 => some (.inr σ56)
noncomputable def X7_readEntry_s (a : Nat × Int32 × Int32 × gS) : Option ((Nat × Int32 × Int32 × gS) ⊕ (gS)) :=
  if a.1 = 0 then X7_readEntry_k0 a.2.2.2 a.2.1 a.2.2.1 else if a.1 = 1 then X7_readEntry_k1 a.2.2.2 a.2.1 a.2.2.1 else if a.1 = 2 then X7_readEntry_k2 a.2.2.2 a.2.1 a.2.2.1 else if a.1 = 3 then X7_readEntry_k3 a.2.2.2 a.2.1 a.2.2.1 else if a.1 = 4 then X7_readEntry_k4 a.2.2.2 a.2.1 a.2.2.1 else if a.1 = 5 then X7_readEntry_k5 a.2.2.2 else none
noncomputable def X7_readEntry (σ : gS) : Option (gS) :=
  if (σ 132 12) ≤ (σ 132 13) then (gr (X7_readEntry_s) (0, ((3 : Int32) * (σ 132 18)), 32, σ)) else (gd (ib (σ 132 13) 60) <| gr (X7_readEntry_s) (0, ((3 : Int32) * (σ 132 18)), (σ 140 (σ 132 13).toNatClampNeg), σ))
set_option maxHeartbeats 4000000 in
set_option maxRecDepth 100000 in
theorem l_X7_readEntry {p : Program} {e : Env} {s : State} {m : MethodId} {args : Array Value} {below : List Frame} {meth : Method} {c : Code} (l : Launch) (D : va_G) (y : ClassId × ClassId × ClassId) (ad : Nat → Nat) (sz : Nat) (hC : g_C p s m args c cX7_readEntry 3 RX7 D y) (hr : meth.sig.returnType = none) (hlk : meth.locks = false) (hsz : s.heap.size = sz) {r0 : gS} : ∀ a : Nat × Int32 × Int32 × gS, gr (X7_readEntry_s) a = some r0 → ∀ (H : Heap) (locs : List Loc) (ls : Array Slot), g_W (g_A ad sz) s.heap D y ad [] a.2.2.2 H locs → (a.1 = 0 → lv_has ls 3 [(0, .ref (ad 132)), (1, .int a.2.1), (2, .int a.2.2.1)] → W p l e ({ frames := 4, cells := 0, slots := 0, locals := 89 }) s m args below meth c H locs 0 0 (MQ below (g_Qv D y ad r0 sz) args s 0 0 (g_A ad sz)) (F0 m 33 ls [])) ∧ (a.1 = 1 → lv_has ls 3 [(0, .ref (ad 132)), (1, .int a.2.1), (2, .int a.2.2.1)] → W p l e ({ frames := 4, cells := 0, slots := 0, locals := 89 }) s m args below meth c H locs 0 0 (MQ below (g_Qv D y ad r0 sz) args s 0 0 (g_A ad sz)) (F0 m 82 ls [])) ∧ (a.1 = 2 → lv_has ls 3 [(0, .ref (ad 132)), (1, .int a.2.1), (2, .int a.2.2.1)] → W p l e ({ frames := 4, cells := 0, slots := 0, locals := 89 }) s m args below meth c H locs 0 0 (MQ below (g_Qv D y ad r0 sz) args s 0 0 (g_A ad sz)) (F0 m 103 ls [])) ∧ (a.1 = 3 → lv_has ls 3 [(0, .ref (ad 132)), (1, .int a.2.1), (2, .int a.2.2.1)] → W p l e ({ frames := 4, cells := 0, slots := 0, locals := 89 }) s m args below meth c H locs 0 0 (MQ below (g_Qv D y ad r0 sz) args s 0 0 (g_A ad sz)) (F0 m 131 ls [])) ∧ (a.1 = 4 → lv_has ls 3 [(0, .ref (ad 132)), (1, .int a.2.1), (2, .int a.2.2.1)] → W p l e ({ frames := 4, cells := 0, slots := 0, locals := 89 }) s m args below meth c H locs 0 0 (MQ below (g_Qv D y ad r0 sz) args s 0 0 (g_A ad sz)) (F0 m 158 ls [])) ∧ (a.1 = 5 → lv_has ls 3 [(0, .ref (ad 132))] → W p l e ({ frames := 4, cells := 0, slots := 0, locals := 89 }) s m args below meth c H locs 0 0 (MQ below (g_Qv D y ad r0 sz) args s 0 0 (g_A ad sz)) (F0 m 220 ls [])) := by
  have hx := hC.1
  have hcd := hC.2.1
  refine gr_all (fun a o ho hret hjmp => ?_)
  obtain ⟨lb, y0, y1, σ⟩ := a
  intro H locs ls hW
  refine ⟨?_, ?_, ?_, ?_, ?_, ?_⟩
  · intro hlb hl
    have hlb : lb = 0 := hlb
    subst hlb
    have ho : X7_readEntry_k0 σ y0 y1 = some o := ho
    unfold X7_readEntry_k0 at ho
    have hl : lv_has ls 3 [(0, .ref (ad 132)), (1, .int y0), (2, .int y1)] := hl
    have hW : g_W (g_A ad sz) s.heap D y ad [] σ H locs := hW
    refine lv_aload_n hx hcd dX7_readEntry_33 rfl (lv_at hl 0 rfl) ?_
    refine g_getr hC hW (C := RX7) (T := TX7) (N := 19) (ci := 9) (k := 16) (index := 39) (i := 132) (r := 141) inGX7 rfl (by decide) fl_X7_39 (by decide) rfl rfl dX7_readEntry_34 ?_
    refine lv_aload_n hx hcd dX7_readEntry_37 rfl (lv_at hl 0 rfl) ?_
    refine g_geti hC hW (C := RX7) (T := TX7) (N := 19) (ci := 9) (k := 18) (index := 246) (i := 132) inGX7 rfl (by decide) fl_X7_246 (by decide) rfl rfl dX7_readEntry_38 ?_
    refine lv_iload_n hx hcd dX7_readEntry_41 rfl (lv_at hl 2 rfl) ?_
    obtain ⟨i3, ho⟩ := gd_some ho
    obtain ⟨σ4, eσ4, ho⟩ := lt_ex ho
    refine g_cast hC hW (i := 141) (by decide) rfl i3 dX7_readEntry_42 (fun H locs hW => ?_)
    rw [← eσ4] at hW
    refine lv_aload_n hx hcd dX7_readEntry_43 rfl (lv_at hl 0 rfl) ?_
    refine lv_iload_n hx hcd dX7_readEntry_44 rfl (lv_at hl 2 rfl) ?_
    refine lv_bipush (v := 112) hx hcd dX7_readEntry_45 (by decide) ?_
    refine lv_icmp_eq (tgt := 78) hx hcd dX7_readEntry_47 (by decide) (fun c5 => ?_) (fun c5 => ?_)
    · have ho := gif_p ho c5
      refine lv_iconst (v := 0) hx hcd dX7_readEntry_78 (by decide) ?_
      obtain ⟨σ6, eσ6, ho⟩ := lt_ex ho
      refine g_puti hC hW (C := RX7) (T := TX7) (N := 19) (ci := 9) (k := 14) (index := 228) (i := 132) inGX7 tyX7 tyX7_ok nmX7 rfl (by decide) fl_X7_228 rfl (by decide) rfl rfl rfl rfl dX7_readEntry_79 (fun H locs hW => ?_)
      rw [← eσ6] at hW
      exact (hjmp _ (Option.some.inj ho).symm _ _ _ hW).2.1 rfl (lv_sub hl [0, 1, 2] rfl)
    · have ho := gif_n ho c5
      refine lv_iload_n hx hcd dX7_readEntry_50 rfl (lv_at hl 2 rfl) ?_
      refine lv_bipush (v := 108) hx hcd dX7_readEntry_51 (by decide) ?_
      refine lv_icmp_eq (tgt := 78) hx hcd dX7_readEntry_53 (by decide) (fun c7 => ?_) (fun c7 => ?_)
      · have ho := gif_p ho c7
        refine lv_iconst (v := 0) hx hcd dX7_readEntry_78 (by decide) ?_
        obtain ⟨σ8, eσ8, ho⟩ := lt_ex ho
        refine g_puti hC hW (C := RX7) (T := TX7) (N := 19) (ci := 9) (k := 14) (index := 228) (i := 132) inGX7 tyX7 tyX7_ok nmX7 rfl (by decide) fl_X7_228 rfl (by decide) rfl rfl rfl rfl dX7_readEntry_79 (fun H locs hW => ?_)
        rw [← eσ8] at hW
        exact (hjmp _ (Option.some.inj ho).symm _ _ _ hW).2.1 rfl (lv_sub hl [0, 1, 2] rfl)
      · have ho := gif_n ho c7
        refine lv_iload_n hx hcd dX7_readEntry_56 rfl (lv_at hl 2 rfl) ?_
        refine lv_bipush (v := 100) hx hcd dX7_readEntry_57 (by decide) ?_
        refine lv_icmp_eq (tgt := 78) hx hcd dX7_readEntry_59 (by decide) (fun c9 => ?_) (fun c9 => ?_)
        · have ho := gif_p ho c9
          refine lv_iconst (v := 0) hx hcd dX7_readEntry_78 (by decide) ?_
          obtain ⟨σ10, eσ10, ho⟩ := lt_ex ho
          refine g_puti hC hW (C := RX7) (T := TX7) (N := 19) (ci := 9) (k := 14) (index := 228) (i := 132) inGX7 tyX7 tyX7_ok nmX7 rfl (by decide) fl_X7_228 rfl (by decide) rfl rfl rfl rfl dX7_readEntry_79 (fun H locs hW => ?_)
          rw [← eσ10] at hW
          exact (hjmp _ (Option.some.inj ho).symm _ _ _ hW).2.1 rfl (lv_sub hl [0, 1, 2] rfl)
        · have ho := gif_n ho c9
          refine lv_iload_n hx hcd dX7_readEntry_62 rfl (lv_at hl 2 rfl) ?_
          refine lv_bipush (v := 116) hx hcd dX7_readEntry_63 (by decide) ?_
          refine lv_icmp_eq (tgt := 78) hx hcd dX7_readEntry_65 (by decide) (fun c11 => ?_) (fun c11 => ?_)
          · have ho := gif_p ho c11
            refine lv_iconst (v := 0) hx hcd dX7_readEntry_78 (by decide) ?_
            obtain ⟨σ12, eσ12, ho⟩ := lt_ex ho
            refine g_puti hC hW (C := RX7) (T := TX7) (N := 19) (ci := 9) (k := 14) (index := 228) (i := 132) inGX7 tyX7 tyX7_ok nmX7 rfl (by decide) fl_X7_228 rfl (by decide) rfl rfl rfl rfl dX7_readEntry_79 (fun H locs hW => ?_)
            rw [← eσ12] at hW
            exact (hjmp _ (Option.some.inj ho).symm _ _ _ hW).2.1 rfl (lv_sub hl [0, 1, 2] rfl)
          · have ho := gif_n ho c11
            refine lv_iload_n hx hcd dX7_readEntry_68 rfl (lv_at hl 2 rfl) ?_
            refine lv_bipush (v := 97) hx hcd dX7_readEntry_69 (by decide) ?_
            refine lv_icmp_eq (tgt := 78) hx hcd dX7_readEntry_71 (by decide) (fun c13 => ?_) (fun c13 => ?_)
            · have ho := gif_p ho c13
              refine lv_iconst (v := 0) hx hcd dX7_readEntry_78 (by decide) ?_
              obtain ⟨σ14, eσ14, ho⟩ := lt_ex ho
              refine g_puti hC hW (C := RX7) (T := TX7) (N := 19) (ci := 9) (k := 14) (index := 228) (i := 132) inGX7 tyX7 tyX7_ok nmX7 rfl (by decide) fl_X7_228 rfl (by decide) rfl rfl rfl rfl dX7_readEntry_79 (fun H locs hW => ?_)
              rw [← eσ14] at hW
              exact (hjmp _ (Option.some.inj ho).symm _ _ _ hW).2.1 rfl (lv_sub hl [0, 1, 2] rfl)
            · have ho := gif_n ho c13
              refine lv_iconst (v := 1) hx hcd dX7_readEntry_74 (by decide) ?_
              refine lv_goto (tgt := 79) hx hcd dX7_readEntry_75 (by decide) ?_
              obtain ⟨σ15, eσ15, ho⟩ := lt_ex ho
              refine g_puti hC hW (C := RX7) (T := TX7) (N := 19) (ci := 9) (k := 14) (index := 228) (i := 132) inGX7 tyX7 tyX7_ok nmX7 rfl (by decide) fl_X7_228 rfl (by decide) rfl rfl rfl rfl dX7_readEntry_79 (fun H locs hW => ?_)
              rw [← eσ15] at hW
              exact (hjmp _ (Option.some.inj ho).symm _ _ _ hW).2.1 rfl (lv_sub hl [0, 1, 2] rfl)
  · intro hlb hl
    have hlb : lb = 1 := hlb
    subst hlb
    have ho : X7_readEntry_k1 σ y0 y1 = some o := ho
    unfold X7_readEntry_k1 at ho
    have hl : lv_has ls 3 [(0, .ref (ad 132)), (1, .int y0), (2, .int y1)] := hl
    have hW : g_W (g_A ad sz) s.heap D y ad [] σ H locs := hW
    refine lv_aload_n hx hcd dX7_readEntry_82 rfl (lv_at hl 0 rfl) ?_
    refine lv_dup hx hcd dX7_readEntry_83 rfl ?_
    refine g_geti hC hW (C := RX7) (T := TX7) (N := 19) (ci := 9) (k := 13) (index := 232) (i := 132) inGX7 rfl (by decide) fl_X7_232 (by decide) rfl rfl dX7_readEntry_84 ?_
    refine lv_aload_n hx hcd dX7_readEntry_87 rfl (lv_at hl 0 rfl) ?_
    refine g_geti hC hW (C := RX7) (T := TX7) (N := 19) (ci := 9) (k := 14) (index := 228) (i := 132) inGX7 rfl (by decide) fl_X7_228 (by decide) rfl rfl dX7_readEntry_88 ?_
    refine lv_if_eq (tgt := 98) hx hcd dX7_readEntry_91 (by decide) (fun c16 => ?_) (fun c16 => ?_)
    · have ho := gif_p ho c16
      refine lv_iconst (v := 1) hx hcd dX7_readEntry_98 (by decide) ?_
      refine lv_iadd hx hcd dX7_readEntry_99 ?_
      obtain ⟨σ17, eσ17, ho⟩ := lt_ex ho
      refine g_puti hC hW (C := RX7) (T := TX7) (N := 19) (ci := 9) (k := 13) (index := 232) (i := 132) inGX7 tyX7 tyX7_ok nmX7 rfl (by decide) fl_X7_232 rfl (by decide) rfl rfl rfl rfl dX7_readEntry_100 (fun H locs hW => ?_)
      rw [← eσ17] at hW
      exact (hjmp _ (Option.some.inj ho).symm _ _ _ hW).2.2.1 rfl (lv_sub hl [0, 1, 2] rfl)
    · have ho := gif_n ho c16
      refine lv_iconst (v := 0) hx hcd dX7_readEntry_94 (by decide) ?_
      refine lv_goto (tgt := 99) hx hcd dX7_readEntry_95 (by decide) ?_
      refine lv_iadd hx hcd dX7_readEntry_99 ?_
      obtain ⟨σ18, eσ18, ho⟩ := lt_ex ho
      refine g_puti hC hW (C := RX7) (T := TX7) (N := 19) (ci := 9) (k := 13) (index := 232) (i := 132) inGX7 tyX7 tyX7_ok nmX7 rfl (by decide) fl_X7_232 rfl (by decide) rfl rfl rfl rfl dX7_readEntry_100 (fun H locs hW => ?_)
      rw [← eσ18] at hW
      exact (hjmp _ (Option.some.inj ho).symm _ _ _ hW).2.2.1 rfl (lv_sub hl [0, 1, 2] rfl)
  · intro hlb hl
    have hlb : lb = 2 := hlb
    subst hlb
    have ho : X7_readEntry_k2 σ y0 y1 = some o := ho
    unfold X7_readEntry_k2 at ho
    have hl : lv_has ls 3 [(0, .ref (ad 132)), (1, .int y0), (2, .int y1)] := hl
    have hW : g_W (g_A ad sz) s.heap D y ad [] σ H locs := hW
    refine lv_aload_n hx hcd dX7_readEntry_103 rfl (lv_at hl 0 rfl) ?_
    refine g_getr hC hW (C := RX7) (T := TX7) (N := 19) (ci := 9) (k := 17) (index := 42) (i := 132) (r := 142) inGX7 rfl (by decide) fl_X7_42 (by decide) rfl rfl dX7_readEntry_104 ?_
    refine lv_iload_n hx hcd dX7_readEntry_107 rfl (lv_at hl 1 rfl) ?_
    refine lv_aload_n hx hcd dX7_readEntry_108 rfl (lv_at hl 0 rfl) ?_
    refine g_geti hC hW (C := RX7) (T := TX7) (N := 19) (ci := 9) (k := 14) (index := 228) (i := 132) inGX7 rfl (by decide) fl_X7_228 (by decide) rfl rfl dX7_readEntry_109 ?_
    refine lv_if_ne (tgt := 121) hx hcd dX7_readEntry_112 (by decide) (fun c19 => ?_) (fun c19 => ?_)
    · have ho := gif_n ho c19
      refine lv_iconst (v := 0) hx hcd dX7_readEntry_121 (by decide) ?_
      refine lv_goto (tgt := 130) hx hcd dX7_readEntry_122 (by decide) ?_
      obtain ⟨i20, ho⟩ := gd_some ho
      obtain ⟨σ21, eσ21, ho⟩ := lt_ex ho
      refine g_iast hC hW (i := 142) (by decide) rfl i20 dX7_readEntry_130 (fun H locs hW => ?_)
      rw [← eσ21] at hW
      exact (hjmp _ (Option.some.inj ho).symm _ _ _ hW).2.2.2.1 rfl (lv_sub hl [0, 1, 2] rfl)
    · have ho := gif_p ho c19
      refine lv_iload_n hx hcd dX7_readEntry_115 rfl (lv_at hl 2 rfl) ?_
      refine lv_bipush (v := 97) hx hcd dX7_readEntry_116 (by decide) ?_
      refine lv_icmp_ne (tgt := 125) hx hcd dX7_readEntry_118 (by decide) (fun c22 => ?_) (fun c22 => ?_)
      · have ho := gif_n ho c22
        refine lv_aload_n hx hcd dX7_readEntry_125 rfl (lv_at hl 0 rfl) ?_
        refine lv_iconst (v := 1) hx hcd dX7_readEntry_126 (by decide) ?_
        obtain ⟨q24, h23, ho⟩ := gb_some ho
        refine g_calli hW (g_runV (As := [.int 1]) (rest := [.int y0, .ref (ad 142)]) (i := 132) hC hW (c_X7_number l D y ad 1 _ _ h23) ok_X7_243 ⟨rfl, rfl, Nat.le_of_ble_eq_true rfl, Nat.le_of_ble_eq_true rfl⟩ (by decide) rfl rfl rfl rfl hl.1 rfl (Nat.le_of_ble_eq_true rfl) dX7_readEntry_127 ⟨Nat.zero_le _, Nat.zero_le _⟩) (fun H locs hW => ?_)
        obtain ⟨i25, ho⟩ := gd_some ho
        obtain ⟨σ26, eσ26, ho⟩ := lt_ex ho
        refine g_iast hC hW (i := 142) (by decide) rfl i25 dX7_readEntry_130 (fun H locs hW => ?_)
        rw [← eσ26] at hW
        exact (hjmp _ (Option.some.inj ho).symm _ _ _ hW).2.2.2.1 rfl (lv_sub hl [0, 1, 2] rfl)
      · have ho := gif_p ho c22
        refine lv_iconst (v := 0) hx hcd dX7_readEntry_121 (by decide) ?_
        refine lv_goto (tgt := 130) hx hcd dX7_readEntry_122 (by decide) ?_
        obtain ⟨i27, ho⟩ := gd_some ho
        obtain ⟨σ28, eσ28, ho⟩ := lt_ex ho
        refine g_iast hC hW (i := 142) (by decide) rfl i27 dX7_readEntry_130 (fun H locs hW => ?_)
        rw [← eσ28] at hW
        exact (hjmp _ (Option.some.inj ho).symm _ _ _ hW).2.2.2.1 rfl (lv_sub hl [0, 1, 2] rfl)
  · intro hlb hl
    have hlb : lb = 3 := hlb
    subst hlb
    have ho : X7_readEntry_k3 σ y0 y1 = some o := ho
    unfold X7_readEntry_k3 at ho
    have hl : lv_has ls 3 [(0, .ref (ad 132)), (1, .int y0), (2, .int y1)] := hl
    have hW : g_W (g_A ad sz) s.heap D y ad [] σ H locs := hW
    refine lv_iload_n hx hcd dX7_readEntry_131 rfl (lv_at hl 2 rfl) ?_
    refine lv_bipush (v := 112) hx hcd dX7_readEntry_132 (by decide) ?_
    refine lv_icmp_eq (tgt := 143) hx hcd dX7_readEntry_134 (by decide) (fun c29 => ?_) (fun c29 => ?_)
    · have ho := gif_p ho c29
      refine lv_aload_n hx hcd dX7_readEntry_143 rfl (lv_at hl 0 rfl) ?_
      refine g_getr hC hW (C := RX7) (T := TX7) (N := 19) (ci := 9) (k := 17) (index := 42) (i := 132) (r := 142) inGX7 rfl (by decide) fl_X7_42 (by decide) rfl rfl dX7_readEntry_144 ?_
      refine lv_iload_n hx hcd dX7_readEntry_147 rfl (lv_at hl 1 rfl) ?_
      refine lv_iconst (v := 1) hx hcd dX7_readEntry_148 (by decide) ?_
      refine lv_iadd hx hcd dX7_readEntry_149 ?_
      refine lv_aload_n hx hcd dX7_readEntry_150 rfl (lv_at hl 0 rfl) ?_
      refine lv_bipush (v := 46) hx hcd dX7_readEntry_151 (by decide) ?_
      refine lv_iconst (v := 1) hx hcd dX7_readEntry_153 (by decide) ?_
      obtain ⟨q31, h30, ho⟩ := gb_some ho
      refine g_calli hW (g_runV (As := [.int 46, .int 1]) (rest := [.int (y0 + (1 : Int32)), .ref (ad 142)]) (i := 132) hC hW (c_X7_behind l D y ad 46 1 _ _ h30) ok_X7_249 ⟨rfl, rfl, Nat.le_of_ble_eq_true rfl, Nat.le_of_ble_eq_true rfl⟩ (by decide) rfl rfl rfl rfl hl.1 rfl (Nat.le_of_ble_eq_true rfl) dX7_readEntry_154 ⟨Nat.zero_le _, Nat.zero_le _⟩) (fun H locs hW => ?_)
      obtain ⟨i32, ho⟩ := gd_some ho
      obtain ⟨σ33, eσ33, ho⟩ := lt_ex ho
      refine g_iast hC hW (i := 142) (by decide) rfl i32 dX7_readEntry_157 (fun H locs hW => ?_)
      rw [← eσ33] at hW
      exact (hjmp _ (Option.some.inj ho).symm _ _ _ hW).2.2.2.2.1 rfl (lv_sub hl [0, 1, 2] rfl)
    · have ho := gif_n ho c29
      refine lv_iload_n hx hcd dX7_readEntry_137 rfl (lv_at hl 2 rfl) ?_
      refine lv_bipush (v := 108) hx hcd dX7_readEntry_138 (by decide) ?_
      refine lv_icmp_ne (tgt := 158) hx hcd dX7_readEntry_140 (by decide) (fun c34 => ?_) (fun c34 => ?_)
      · have ho := gif_n ho c34
        exact (hjmp _ (Option.some.inj ho).symm _ _ _ hW).2.2.2.2.1 rfl (lv_sub hl [0, 1, 2] rfl)
      · have ho := gif_p ho c34
        refine lv_aload_n hx hcd dX7_readEntry_143 rfl (lv_at hl 0 rfl) ?_
        refine g_getr hC hW (C := RX7) (T := TX7) (N := 19) (ci := 9) (k := 17) (index := 42) (i := 132) (r := 142) inGX7 rfl (by decide) fl_X7_42 (by decide) rfl rfl dX7_readEntry_144 ?_
        refine lv_iload_n hx hcd dX7_readEntry_147 rfl (lv_at hl 1 rfl) ?_
        refine lv_iconst (v := 1) hx hcd dX7_readEntry_148 (by decide) ?_
        refine lv_iadd hx hcd dX7_readEntry_149 ?_
        refine lv_aload_n hx hcd dX7_readEntry_150 rfl (lv_at hl 0 rfl) ?_
        refine lv_bipush (v := 46) hx hcd dX7_readEntry_151 (by decide) ?_
        refine lv_iconst (v := 1) hx hcd dX7_readEntry_153 (by decide) ?_
        obtain ⟨q36, h35, ho⟩ := gb_some ho
        refine g_calli hW (g_runV (As := [.int 46, .int 1]) (rest := [.int (y0 + (1 : Int32)), .ref (ad 142)]) (i := 132) hC hW (c_X7_behind l D y ad 46 1 _ _ h35) ok_X7_249 ⟨rfl, rfl, Nat.le_of_ble_eq_true rfl, Nat.le_of_ble_eq_true rfl⟩ (by decide) rfl rfl rfl rfl hl.1 rfl (Nat.le_of_ble_eq_true rfl) dX7_readEntry_154 ⟨Nat.zero_le _, Nat.zero_le _⟩) (fun H locs hW => ?_)
        obtain ⟨i37, ho⟩ := gd_some ho
        obtain ⟨σ38, eσ38, ho⟩ := lt_ex ho
        refine g_iast hC hW (i := 142) (by decide) rfl i37 dX7_readEntry_157 (fun H locs hW => ?_)
        rw [← eσ38] at hW
        exact (hjmp _ (Option.some.inj ho).symm _ _ _ hW).2.2.2.2.1 rfl (lv_sub hl [0, 1, 2] rfl)
  · intro hlb hl
    have hlb : lb = 4 := hlb
    subst hlb
    have ho : X7_readEntry_k4 σ y0 y1 = some o := ho
    unfold X7_readEntry_k4 at ho
    have hl : lv_has ls 3 [(0, .ref (ad 132)), (1, .int y0), (2, .int y1)] := hl
    have hW : g_W (g_A ad sz) s.heap D y ad [] σ H locs := hW
    refine lv_iload_n hx hcd dX7_readEntry_158 rfl (lv_at hl 2 rfl) ?_
    refine lv_bipush (v := 112) hx hcd dX7_readEntry_159 (by decide) ?_
    refine lv_icmp_ne (tgt := 182) hx hcd dX7_readEntry_161 (by decide) (fun c39 => ?_) (fun c39 => ?_)
    · have ho := gif_n ho c39
      refine lv_iload_n hx hcd dX7_readEntry_182 rfl (lv_at hl 2 rfl) ?_
      refine lv_bipush (v := 100) hx hcd dX7_readEntry_183 (by decide) ?_
      refine lv_icmp_eq (tgt := 194) hx hcd dX7_readEntry_185 (by decide) (fun c40 => ?_) (fun c40 => ?_)
      · have ho := gif_p ho c40
        refine lv_aload_n hx hcd dX7_readEntry_194 rfl (lv_at hl 0 rfl) ?_
        refine g_getr hC hW (C := RX7) (T := TX7) (N := 19) (ci := 9) (k := 17) (index := 42) (i := 132) (r := 142) inGX7 rfl (by decide) fl_X7_42 (by decide) rfl rfl dX7_readEntry_195 ?_
        refine lv_iload_n hx hcd dX7_readEntry_198 rfl (lv_at hl 1 rfl) ?_
        refine lv_iconst (v := 1) hx hcd dX7_readEntry_199 (by decide) ?_
        refine lv_iadd hx hcd dX7_readEntry_200 ?_
        refine lv_aload_n hx hcd dX7_readEntry_201 rfl (lv_at hl 0 rfl) ?_
        refine lv_iload_n hx hcd dX7_readEntry_202 rfl (lv_at hl 2 rfl) ?_
        refine lv_bipush (v := 100) hx hcd dX7_readEntry_203 (by decide) ?_
        refine lv_icmp_ne (tgt := 213) hx hcd dX7_readEntry_205 (by decide) (fun hq => absurd c40 hq) (fun _ => ?_)
        refine lv_bipush (v := 43) hx hcd dX7_readEntry_208 (by decide) ?_
        refine lv_goto (tgt := 215) hx hcd dX7_readEntry_210 (by decide) ?_
        refine lv_iconst (v := 4) hx hcd dX7_readEntry_215 (by decide) ?_
        obtain ⟨q42, h41, ho⟩ := gb_some ho
        refine g_calli hW (g_runV (As := [.int 43, .int 4]) (rest := [.int (y0 + (1 : Int32)), .ref (ad 142)]) (i := 132) hC hW (c_X7_behind l D y ad 43 4 _ _ h41) ok_X7_249 ⟨rfl, rfl, Nat.le_of_ble_eq_true rfl, Nat.le_of_ble_eq_true rfl⟩ (by decide) rfl rfl rfl rfl hl.1 rfl (Nat.le_of_ble_eq_true rfl) dX7_readEntry_216 ⟨Nat.zero_le _, Nat.zero_le _⟩) (fun H locs hW => ?_)
        obtain ⟨i43, ho⟩ := gd_some ho
        obtain ⟨σ44, eσ44, ho⟩ := lt_ex ho
        refine g_iast hC hW (i := 142) (by decide) rfl i43 dX7_readEntry_219 (fun H locs hW => ?_)
        rw [← eσ44] at hW
        exact (hjmp _ (Option.some.inj ho).symm _ _ _ hW).2.2.2.2.2 rfl (lv_sub hl [0] rfl)
      · have ho := gif_n ho c40
        refine lv_iload_n hx hcd dX7_readEntry_188 rfl (lv_at hl 2 rfl) ?_
        refine lv_bipush (v := 116) hx hcd dX7_readEntry_189 (by decide) ?_
        refine lv_icmp_ne (tgt := 220) hx hcd dX7_readEntry_191 (by decide) (fun c45 => ?_) (fun c45 => ?_)
        · have ho := gif_n ho c45
          exact (hjmp _ (Option.some.inj ho).symm _ _ _ hW).2.2.2.2.2 rfl (lv_sub hl [0] rfl)
        · have ho := gif_p ho c45
          refine lv_aload_n hx hcd dX7_readEntry_194 rfl (lv_at hl 0 rfl) ?_
          refine g_getr hC hW (C := RX7) (T := TX7) (N := 19) (ci := 9) (k := 17) (index := 42) (i := 132) (r := 142) inGX7 rfl (by decide) fl_X7_42 (by decide) rfl rfl dX7_readEntry_195 ?_
          refine lv_iload_n hx hcd dX7_readEntry_198 rfl (lv_at hl 1 rfl) ?_
          refine lv_iconst (v := 1) hx hcd dX7_readEntry_199 (by decide) ?_
          refine lv_iadd hx hcd dX7_readEntry_200 ?_
          refine lv_aload_n hx hcd dX7_readEntry_201 rfl (lv_at hl 0 rfl) ?_
          refine lv_iload_n hx hcd dX7_readEntry_202 rfl (lv_at hl 2 rfl) ?_
          refine lv_bipush (v := 100) hx hcd dX7_readEntry_203 (by decide) ?_
          refine lv_icmp_ne (tgt := 213) hx hcd dX7_readEntry_205 (by decide) (fun _ => ?_) (fun hq => absurd hq c40)
          refine lv_bipush (v := 64) hx hcd dX7_readEntry_213 (by decide) ?_
          refine lv_iconst (v := 4) hx hcd dX7_readEntry_215 (by decide) ?_
          obtain ⟨q47, h46, ho⟩ := gb_some ho
          refine g_calli hW (g_runV (As := [.int 64, .int 4]) (rest := [.int (y0 + (1 : Int32)), .ref (ad 142)]) (i := 132) hC hW (c_X7_behind l D y ad 64 4 _ _ h46) ok_X7_249 ⟨rfl, rfl, Nat.le_of_ble_eq_true rfl, Nat.le_of_ble_eq_true rfl⟩ (by decide) rfl rfl rfl rfl hl.1 rfl (Nat.le_of_ble_eq_true rfl) dX7_readEntry_216 ⟨Nat.zero_le _, Nat.zero_le _⟩) (fun H locs hW => ?_)
          obtain ⟨i48, ho⟩ := gd_some ho
          obtain ⟨σ49, eσ49, ho⟩ := lt_ex ho
          refine g_iast hC hW (i := 142) (by decide) rfl i48 dX7_readEntry_219 (fun H locs hW => ?_)
          rw [← eσ49] at hW
          exact (hjmp _ (Option.some.inj ho).symm _ _ _ hW).2.2.2.2.2 rfl (lv_sub hl [0] rfl)
    · have ho := gif_p ho c39
      refine lv_aload_n hx hcd dX7_readEntry_164 rfl (lv_at hl 0 rfl) ?_
      refine g_getr hC hW (C := RX7) (T := TX7) (N := 19) (ci := 9) (k := 17) (index := 42) (i := 132) (r := 142) inGX7 rfl (by decide) fl_X7_42 (by decide) rfl rfl dX7_readEntry_165 ?_
      refine lv_iload_n hx hcd dX7_readEntry_168 rfl (lv_at hl 1 rfl) ?_
      refine lv_iconst (v := 2) hx hcd dX7_readEntry_169 (by decide) ?_
      refine lv_iadd hx hcd dX7_readEntry_170 ?_
      refine lv_aload_n hx hcd dX7_readEntry_171 rfl (lv_at hl 0 rfl) ?_
      refine lv_bipush (v := 64) hx hcd dX7_readEntry_172 (by decide) ?_
      refine lv_iconst (v := 1) hx hcd dX7_readEntry_174 (by decide) ?_
      obtain ⟨q51, h50, ho⟩ := gb_some ho
      refine g_calli hW (g_runV (As := [.int 64, .int 1]) (rest := [.int (y0 + (2 : Int32)), .ref (ad 142)]) (i := 132) hC hW (c_X7_behind l D y ad 64 1 _ _ h50) ok_X7_249 ⟨rfl, rfl, Nat.le_of_ble_eq_true rfl, Nat.le_of_ble_eq_true rfl⟩ (by decide) rfl rfl rfl rfl hl.1 rfl (Nat.le_of_ble_eq_true rfl) dX7_readEntry_175 ⟨Nat.zero_le _, Nat.zero_le _⟩) (fun H locs hW => ?_)
      obtain ⟨i52, ho⟩ := gd_some ho
      obtain ⟨σ53, eσ53, ho⟩ := lt_ex ho
      refine g_iast hC hW (i := 142) (by decide) rfl i52 dX7_readEntry_178 (fun H locs hW => ?_)
      rw [← eσ53] at hW
      refine lv_goto (tgt := 220) hx hcd dX7_readEntry_179 (by decide) ?_
      exact (hjmp _ (Option.some.inj ho).symm _ _ _ hW).2.2.2.2.2 rfl (lv_sub hl [0] rfl)
  · intro hlb hl
    have hlb : lb = 5 := hlb
    subst hlb
    have ho : X7_readEntry_k5 σ = some o := ho
    unfold X7_readEntry_k5 at ho
    have hl : lv_has ls 3 [(0, .ref (ad 132))] := hl
    have hW : g_W (g_A ad sz) s.heap D y ad [] σ H locs := hW
    refine lv_aload_n hx hcd dX7_readEntry_220 rfl (lv_at hl 0 rfl) ?_
    refine lv_bipush (v := 59) hx hcd dX7_readEntry_221 (by decide) ?_
    obtain ⟨σ55, h54, ho⟩ := gb_some ho
    refine g_callv hW (g_runV (As := [.int 59]) (rest := []) (i := 132) hC hW (c_X7_sign l D y ad 59 _ _ h54) ok_X7_239 ⟨rfl, rfl, Nat.le_of_ble_eq_true rfl, Nat.le_of_ble_eq_true rfl⟩ (by decide) rfl rfl rfl rfl hl.1 rfl (Nat.le_of_ble_eq_true rfl) dX7_readEntry_223 ⟨Nat.zero_le _, Nat.zero_le _⟩) (fun H locs hW => ?_)
    refine lv_aload_n hx hcd dX7_readEntry_226 rfl (lv_at hl 0 rfl) ?_
    refine lv_dup hx hcd dX7_readEntry_227 rfl ?_
    refine g_geti hC hW (C := RX7) (T := TX7) (N := 19) (ci := 9) (k := 18) (index := 246) (i := 132) inGX7 rfl (by decide) fl_X7_246 (by decide) rfl rfl dX7_readEntry_228 ?_
    refine lv_iconst (v := 1) hx hcd dX7_readEntry_231 (by decide) ?_
    refine lv_iadd hx hcd dX7_readEntry_232 ?_
    obtain ⟨σ56, eσ56, ho⟩ := lt_ex ho
    refine g_puti hC hW (C := RX7) (T := TX7) (N := 19) (ci := 9) (k := 18) (index := 246) (i := 132) inGX7 tyX7 tyX7_ok nmX7 rfl (by decide) fl_X7_246 rfl (by decide) rfl rfl rfl rfl dX7_readEntry_233 (fun H locs hW => ?_)
    rw [← eσ56] at hW
    obtain rfl := hret _ (Option.some.inj ho).symm
    exact g_vret hC hr hlk hsz hW dX7_readEntry_236
set_option maxHeartbeats 4000000 in
set_option maxRecDepth 100000 in
theorem c_X7_readEntry (l : Launch) (D : va_G) (y : ClassId × ClassId × ClassId) (ad : Nat → Nat) (σ : gS) (sz : Nat) {q : gS} (h : X7_readEntry σ = some q) : Met l yX7_readEntry (Cond.code yX7_readEntry cX7_readEntry 3 none :: gl) ({ frames := 4, cells := 0, slots := 0, locals := 89 }) (g_Pc D y ad σ sz [.ref (ad 132)]) (g_Qv D y ad q sz) 0 0 (g_A ad sz) := by
  have ho := h
  unfold X7_readEntry at ho
  refine g_start (by decide) (Nat.le_of_ble_eq_true rfl) (fun p e s m below meth c ls hC hr hlk hsz hW hl => ?_)
  have hx := hC.1
  have hcd := hC.2.1
  have hl : lv_has ls 3 [(0, .ref (ad 132))] := hl
  refine lv_iconst (v := 3) hx hcd dX7_readEntry_0 (by decide) ?_
  refine lv_aload_n hx hcd dX7_readEntry_1 rfl (lv_at hl 0 rfl) ?_
  refine g_geti hC hW (C := RX7) (T := TX7) (N := 19) (ci := 9) (k := 18) (index := 246) (i := 132) inGX7 rfl (by decide) fl_X7_246 (by decide) rfl rfl dX7_readEntry_2 ?_
  refine lv_imul hx hcd dX7_readEntry_5 ?_
  refine lv_istore_n (lv' := [(1, .int ((3 : Int32) * (σ 132 18))), (0, .ref (ad 132))]) hx hcd dX7_readEntry_6 rfl hl (by decide) rfl (fun ls hl => ?_)
  refine lv_aload_n hx hcd dX7_readEntry_7 rfl (lv_at hl 1 rfl) ?_
  refine g_geti hC hW (C := RX7) (T := TX7) (N := 19) (ci := 9) (k := 13) (index := 232) (i := 132) inGX7 rfl (by decide) fl_X7_232 (by decide) rfl rfl dX7_readEntry_8 ?_
  refine lv_aload_n hx hcd dX7_readEntry_11 rfl (lv_at hl 1 rfl) ?_
  refine g_geti hC hW (C := RX7) (T := TX7) (N := 19) (ci := 9) (k := 12) (index := 225) (i := 132) inGX7 rfl (by decide) fl_X7_225 (by decide) rfl rfl dX7_readEntry_12 ?_
  refine lv_icmp_ge (tgt := 30) hx hcd dX7_readEntry_15 (by decide) (fun c1 => ?_) (fun c1 => ?_)
  · have ho := gif_p ho c1
    refine lv_bipush (v := 32) hx hcd dX7_readEntry_30 (by decide) ?_
    refine lv_istore_n (lv' := [(2, .int 32), (1, .int ((3 : Int32) * (σ 132 18))), (0, .ref (ad 132))]) hx hcd dX7_readEntry_32 rfl hl (by decide) rfl (fun ls hl => ?_)
    exact (l_X7_readEntry l D y ad sz hC hr hlk hsz _ ho _ _ _ hW).1 rfl (lv_sub hl [2, 1, 0] rfl)
  · have ho := gif_n ho c1
    refine lv_aload_n hx hcd dX7_readEntry_18 rfl (lv_at hl 1 rfl) ?_
    refine g_getr hC hW (C := RX7) (T := TX7) (N := 19) (ci := 9) (k := 11) (index := 31) (i := 132) (r := 140) inGX7 rfl (by decide) fl_X7_31 (by decide) rfl rfl dX7_readEntry_19 ?_
    refine lv_aload_n hx hcd dX7_readEntry_22 rfl (lv_at hl 1 rfl) ?_
    refine g_geti hC hW (C := RX7) (T := TX7) (N := 19) (ci := 9) (k := 13) (index := 232) (i := 132) inGX7 rfl (by decide) fl_X7_232 (by decide) rfl rfl dX7_readEntry_23 ?_
    obtain ⟨i2, ho⟩ := gd_some ho
    refine g_cald hC hW (i := 140) (by decide) rfl i2 dX7_readEntry_26 ?_
    refine lv_goto (tgt := 32) hx hcd dX7_readEntry_27 (by decide) ?_
    refine lv_istore_n (lv' := [(2, .int (σ 140 (σ 132 13).toNatClampNeg)), (1, .int ((3 : Int32) * (σ 132 18))), (0, .ref (ad 132))]) hx hcd dX7_readEntry_32 rfl hl (by decide) rfl (fun ls hl => ?_)
    exact (l_X7_readEntry l D y ad sz hC hr hlk hsz _ ho _ _ _ hW).1 rfl (lv_sub hl [2, 1, 0] rfl)
noncomputable def X7_fails (σ : gS) (x1 : Int32) : Option (Int32 × gS) :=
  gd (ib ((3 : Int32) * x1) 180) <| gd (ib (((3 : Int32) * x1) + (1 : Int32)) 180) <| gd (ib x1 60) <| if (σ 141 x1.toNatClampNeg) = 100 then ((X7_doDelay σ (σ 142 ((3 : Int32) * x1).toNatClampNeg) (σ 142 (((3 : Int32) * x1) + (1 : Int32)).toNatClampNeg)).bind fun q6 => if q6.1 ≤ 0 then (some (0, q6.2)) else (some (1, q6.2))) else (if (σ 141 x1.toNatClampNeg) = 108 then ((X7_doLift σ (σ 142 ((3 : Int32) * x1).toNatClampNeg) (σ 142 (((3 : Int32) * x1) + (1 : Int32)).toNatClampNeg)).bind fun q10 => if q10.1 ≤ 0 then (some (0, q10.2)) else (some (1, q10.2))) else (if (σ 141 x1.toNatClampNeg) = 112 then (gd (ib (((3 : Int32) * x1) + (2 : Int32)) 180) <| (X7_doPlace σ (σ 142 ((3 : Int32) * x1).toNatClampNeg) (σ 142 (((3 : Int32) * x1) + (1 : Int32)).toNatClampNeg) (σ 142 (((3 : Int32) * x1) + (2 : Int32)).toNatClampNeg)).bind fun q15 => if q15.1 ≤ 0 then (some (0, q15.2)) else (some (1, q15.2))) else (if (σ 141 x1.toNatClampNeg) = 116 then ((X7_doTow σ (σ 142 ((3 : Int32) * x1).toNatClampNeg) (σ 142 (((3 : Int32) * x1) + (1 : Int32)).toNatClampNeg)).bind fun q19 => if q19.1 ≤ 0 then (some (0, q19.2)) else (some (1, q19.2))) else ((X7_assign σ).bind fun q22 => if 0 ≤ q22.1 then (some (0, q22.2)) else (some (1, q22.2))))))
set_option maxHeartbeats 4000000 in
set_option maxRecDepth 100000 in
theorem c_X7_fails (l : Launch) (D : va_G) (y : ClassId × ClassId × ClassId) (ad : Nat → Nat) (x1 : Int32) (σ : gS) (sz : Nat) {q : Int32 × gS} (h : X7_fails σ x1 = some q) : Met l yX7_fails (Cond.code yX7_fails cX7_fails 4 (some .boolean) :: gl) ({ frames := 10, cells := 0, slots := 0, locals := 227 }) (g_Pc D y ad σ sz [.ref (ad 132), .int x1]) (g_Qi D y ad q.2 sz q.1) 0 0 (g_A ad sz) := by
  have ho := h
  unfold X7_fails at ho
  refine g_start (by decide) (Nat.le_of_ble_eq_true rfl) (fun p e s m below meth c ls hC hr hlk hsz hW hl => ?_)
  have hx := hC.1
  have hcd := hC.2.1
  have hl : lv_has ls 4 [(0, .ref (ad 132)), (1, .int x1)] := hl
  refine lv_aload_n hx hcd dX7_fails_0 rfl (lv_at hl 0 rfl) ?_
  refine g_getr hC hW (C := RX7) (T := TX7) (N := 19) (ci := 9) (k := 17) (index := 42) (i := 132) (r := 142) inGX7 rfl (by decide) fl_X7_42 (by decide) rfl rfl dX7_fails_1 ?_
  refine lv_iconst (v := 3) hx hcd dX7_fails_4 (by decide) ?_
  refine lv_iload_n hx hcd dX7_fails_5 rfl (lv_at hl 1 rfl) ?_
  refine lv_imul hx hcd dX7_fails_6 ?_
  obtain ⟨i1, ho⟩ := gd_some ho
  refine g_iald hC hW (i := 142) (by decide) rfl i1 dX7_fails_7 ?_
  refine lv_istore_n (lv' := [(2, .int (σ 142 ((3 : Int32) * x1).toNatClampNeg)), (0, .ref (ad 132)), (1, .int x1)]) hx hcd dX7_fails_8 rfl hl (by decide) rfl (fun ls hl => ?_)
  refine lv_aload_n hx hcd dX7_fails_9 rfl (lv_at hl 1 rfl) ?_
  refine g_getr hC hW (C := RX7) (T := TX7) (N := 19) (ci := 9) (k := 17) (index := 42) (i := 132) (r := 142) inGX7 rfl (by decide) fl_X7_42 (by decide) rfl rfl dX7_fails_10 ?_
  refine lv_iconst (v := 3) hx hcd dX7_fails_13 (by decide) ?_
  refine lv_iload_n hx hcd dX7_fails_14 rfl (lv_at hl 2 rfl) ?_
  refine lv_imul hx hcd dX7_fails_15 ?_
  refine lv_iconst (v := 1) hx hcd dX7_fails_16 (by decide) ?_
  refine lv_iadd hx hcd dX7_fails_17 ?_
  obtain ⟨i2, ho⟩ := gd_some ho
  refine g_iald hC hW (i := 142) (by decide) rfl i2 dX7_fails_18 ?_
  refine lv_istore_n (lv' := [(3, .int (σ 142 (((3 : Int32) * x1) + (1 : Int32)).toNatClampNeg)), (2, .int (σ 142 ((3 : Int32) * x1).toNatClampNeg)), (0, .ref (ad 132)), (1, .int x1)]) hx hcd dX7_fails_19 rfl hl (by decide) rfl (fun ls hl => ?_)
  refine lv_aload_n hx hcd dX7_fails_20 rfl (lv_at hl 2 rfl) ?_
  refine g_getr hC hW (C := RX7) (T := TX7) (N := 19) (ci := 9) (k := 16) (index := 39) (i := 132) (r := 141) inGX7 rfl (by decide) fl_X7_39 (by decide) rfl rfl dX7_fails_21 ?_
  refine lv_iload_n hx hcd dX7_fails_24 rfl (lv_at hl 3 rfl) ?_
  obtain ⟨i3, ho⟩ := gd_some ho
  refine g_cald hC hW (i := 141) (by decide) rfl i3 dX7_fails_25 ?_
  by_cases c4 : (σ 141 x1.toNatClampNeg) = 100
  · have ho := gif_p ho c4
    refine lv_lookup (tgt := 108) hx hcd dX7_fails_26 (by decide) (off := 82) (by rw [c4]; decide) (by decide) ?_
    refine lv_aload_n hx hcd dX7_fails_108 rfl (lv_at hl 2 rfl) ?_
    refine lv_iload_n hx hcd dX7_fails_109 rfl (lv_at hl 1 rfl) ?_
    refine lv_iload_n hx hcd dX7_fails_110 rfl (lv_at hl 0 rfl) ?_
    obtain ⟨q6, h5, ho⟩ := gb_some ho
    refine g_calli hW (g_runV (As := [.int (σ 142 ((3 : Int32) * x1).toNatClampNeg), .int (σ 142 (((3 : Int32) * x1) + (1 : Int32)).toNatClampNeg)]) (rest := []) (i := 132) hC hW (c_X7_doDelay l D y ad (σ 142 ((3 : Int32) * x1).toNatClampNeg) (σ 142 (((3 : Int32) * x1) + (1 : Int32)).toNatClampNeg) _ _ h5) ok_X7_176 ⟨rfl, rfl, Nat.le_of_ble_eq_true rfl, Nat.le_of_ble_eq_true rfl⟩ (by decide) rfl rfl rfl rfl hl.1 rfl (Nat.le_of_ble_eq_true rfl) dX7_fails_111 ⟨Nat.zero_le _, Nat.zero_le _⟩) (fun H locs hW => ?_)
    refine lv_if_le (tgt := 121) hx hcd dX7_fails_114 (by decide) (fun c7 => ?_) (fun c7 => ?_)
    · have ho := gif_p ho c7
      refine lv_iconst (v := 0) hx hcd dX7_fails_121 (by decide) ?_
      obtain rfl := Option.some.inj ho
      exact g_zret (r := 0) hC hr hlk hsz hW (by decide) dX7_fails_122
    · have ho := gif_n ho c7
      refine lv_iconst (v := 1) hx hcd dX7_fails_117 (by decide) ?_
      refine lv_goto (tgt := 122) hx hcd dX7_fails_118 (by decide) ?_
      obtain rfl := Option.some.inj ho
      exact g_zret (r := 1) hC hr hlk hsz hW (by decide) dX7_fails_122
  have ho := gif_n ho c4
  by_cases c8 : (σ 141 x1.toNatClampNeg) = 108
  · have ho := gif_p ho c8
    refine lv_lookup (tgt := 93) hx hcd dX7_fails_26 (by decide) (off := 67) (by rw [c8]; decide) (by decide) ?_
    refine lv_aload_n hx hcd dX7_fails_93 rfl (lv_at hl 2 rfl) ?_
    refine lv_iload_n hx hcd dX7_fails_94 rfl (lv_at hl 1 rfl) ?_
    refine lv_iload_n hx hcd dX7_fails_95 rfl (lv_at hl 0 rfl) ?_
    obtain ⟨q10, h9, ho⟩ := gb_some ho
    refine g_calli hW (g_runV (As := [.int (σ 142 ((3 : Int32) * x1).toNatClampNeg), .int (σ 142 (((3 : Int32) * x1) + (1 : Int32)).toNatClampNeg)]) (rest := []) (i := 132) hC hW (c_X7_doLift l D y ad (σ 142 ((3 : Int32) * x1).toNatClampNeg) (σ 142 (((3 : Int32) * x1) + (1 : Int32)).toNatClampNeg) _ _ h9) ok_X7_164 ⟨rfl, rfl, Nat.le_of_ble_eq_true rfl, Nat.le_of_ble_eq_true rfl⟩ (by decide) rfl rfl rfl rfl hl.1 rfl (Nat.le_of_ble_eq_true rfl) dX7_fails_96 ⟨Nat.zero_le _, Nat.zero_le _⟩) (fun H locs hW => ?_)
    refine lv_if_le (tgt := 106) hx hcd dX7_fails_99 (by decide) (fun c11 => ?_) (fun c11 => ?_)
    · have ho := gif_p ho c11
      refine lv_iconst (v := 0) hx hcd dX7_fails_106 (by decide) ?_
      obtain rfl := Option.some.inj ho
      exact g_zret (r := 0) hC hr hlk hsz hW (by decide) dX7_fails_107
    · have ho := gif_n ho c11
      refine lv_iconst (v := 1) hx hcd dX7_fails_102 (by decide) ?_
      refine lv_goto (tgt := 107) hx hcd dX7_fails_103 (by decide) ?_
      obtain rfl := Option.some.inj ho
      exact g_zret (r := 1) hC hr hlk hsz hW (by decide) dX7_fails_107
  have ho := gif_n ho c8
  by_cases c12 : (σ 141 x1.toNatClampNeg) = 112
  · have ho := gif_p ho c12
    refine lv_lookup (tgt := 68) hx hcd dX7_fails_26 (by decide) (off := 42) (by rw [c12]; decide) (by decide) ?_
    refine lv_aload_n hx hcd dX7_fails_68 rfl (lv_at hl 2 rfl) ?_
    refine lv_iload_n hx hcd dX7_fails_69 rfl (lv_at hl 1 rfl) ?_
    refine lv_iload_n hx hcd dX7_fails_70 rfl (lv_at hl 0 rfl) ?_
    refine lv_aload_n hx hcd dX7_fails_71 rfl (lv_at hl 2 rfl) ?_
    refine g_getr hC hW (C := RX7) (T := TX7) (N := 19) (ci := 9) (k := 17) (index := 42) (i := 132) (r := 142) inGX7 rfl (by decide) fl_X7_42 (by decide) rfl rfl dX7_fails_72 ?_
    refine lv_iconst (v := 3) hx hcd dX7_fails_75 (by decide) ?_
    refine lv_iload_n hx hcd dX7_fails_76 rfl (lv_at hl 3 rfl) ?_
    refine lv_imul hx hcd dX7_fails_77 ?_
    refine lv_iconst (v := 2) hx hcd dX7_fails_78 (by decide) ?_
    refine lv_iadd hx hcd dX7_fails_79 ?_
    obtain ⟨i13, ho⟩ := gd_some ho
    refine g_iald hC hW (i := 142) (by decide) rfl i13 dX7_fails_80 ?_
    obtain ⟨q15, h14, ho⟩ := gb_some ho
    refine g_calli hW (g_runV (As := [.int (σ 142 ((3 : Int32) * x1).toNatClampNeg), .int (σ 142 (((3 : Int32) * x1) + (1 : Int32)).toNatClampNeg), .int (σ 142 (((3 : Int32) * x1) + (2 : Int32)).toNatClampNeg)]) (rest := []) (i := 132) hC hW (c_X7_doPlace l D y ad (σ 142 ((3 : Int32) * x1).toNatClampNeg) (σ 142 (((3 : Int32) * x1) + (1 : Int32)).toNatClampNeg) (σ 142 (((3 : Int32) * x1) + (2 : Int32)).toNatClampNeg) _ _ h14) ok_X7_154 ⟨rfl, rfl, Nat.le_of_ble_eq_true rfl, Nat.le_of_ble_eq_true rfl⟩ (by decide) rfl rfl rfl rfl hl.1 rfl (Nat.le_of_ble_eq_true rfl) dX7_fails_81 ⟨Nat.zero_le _, Nat.zero_le _⟩) (fun H locs hW => ?_)
    refine lv_if_le (tgt := 91) hx hcd dX7_fails_84 (by decide) (fun c16 => ?_) (fun c16 => ?_)
    · have ho := gif_p ho c16
      refine lv_iconst (v := 0) hx hcd dX7_fails_91 (by decide) ?_
      obtain rfl := Option.some.inj ho
      exact g_zret (r := 0) hC hr hlk hsz hW (by decide) dX7_fails_92
    · have ho := gif_n ho c16
      refine lv_iconst (v := 1) hx hcd dX7_fails_87 (by decide) ?_
      refine lv_goto (tgt := 92) hx hcd dX7_fails_88 (by decide) ?_
      obtain rfl := Option.some.inj ho
      exact g_zret (r := 1) hC hr hlk hsz hW (by decide) dX7_fails_92
  have ho := gif_n ho c12
  by_cases c17 : (σ 141 x1.toNatClampNeg) = 116
  · have ho := gif_p ho c17
    refine lv_lookup (tgt := 123) hx hcd dX7_fails_26 (by decide) (off := 97) (by rw [c17]; decide) (by decide) ?_
    refine lv_aload_n hx hcd dX7_fails_123 rfl (lv_at hl 2 rfl) ?_
    refine lv_iload_n hx hcd dX7_fails_124 rfl (lv_at hl 1 rfl) ?_
    refine lv_iload_n hx hcd dX7_fails_125 rfl (lv_at hl 0 rfl) ?_
    obtain ⟨q19, h18, ho⟩ := gb_some ho
    refine g_calli hW (g_runV (As := [.int (σ 142 ((3 : Int32) * x1).toNatClampNeg), .int (σ 142 (((3 : Int32) * x1) + (1 : Int32)).toNatClampNeg)]) (rest := []) (i := 132) hC hW (c_X7_doTow l D y ad (σ 142 ((3 : Int32) * x1).toNatClampNeg) (σ 142 (((3 : Int32) * x1) + (1 : Int32)).toNatClampNeg) _ _ h18) ok_X7_170 ⟨rfl, rfl, Nat.le_of_ble_eq_true rfl, Nat.le_of_ble_eq_true rfl⟩ (by decide) rfl rfl rfl rfl hl.1 rfl (Nat.le_of_ble_eq_true rfl) dX7_fails_126 ⟨Nat.zero_le _, Nat.zero_le _⟩) (fun H locs hW => ?_)
    refine lv_if_le (tgt := 136) hx hcd dX7_fails_129 (by decide) (fun c20 => ?_) (fun c20 => ?_)
    · have ho := gif_p ho c20
      refine lv_iconst (v := 0) hx hcd dX7_fails_136 (by decide) ?_
      obtain rfl := Option.some.inj ho
      exact g_zret (r := 0) hC hr hlk hsz hW (by decide) dX7_fails_137
    · have ho := gif_n ho c20
      refine lv_iconst (v := 1) hx hcd dX7_fails_132 (by decide) ?_
      refine lv_goto (tgt := 137) hx hcd dX7_fails_133 (by decide) ?_
      obtain rfl := Option.some.inj ho
      exact g_zret (r := 1) hC hr hlk hsz hW (by decide) dX7_fails_137
  have ho := gif_n ho c17
  refine lv_lookup (tgt := 138) hx hcd dX7_fails_26 (by decide) (off := 112) (by show Op.lookupswitch.offset [(100, 82), (108, 67), (112, 42), (116, 97)] _ _ = _; rw [lv_osw c4 (by decide), lv_osw c8 (by decide), lv_osw c12 (by decide), lv_osw c17 (by decide)]; rfl) (by decide) ?_
  refine lv_aload_n hx hcd dX7_fails_138 rfl (lv_at hl 2 rfl) ?_
  obtain ⟨q22, h21, ho⟩ := gb_some ho
  refine g_calli hW (g_runV (As := []) (rest := []) (i := 132) hC hW (c_X7_assign l D y ad _ _ h21) ok_X7_182 ⟨rfl, rfl, Nat.le_of_ble_eq_true rfl, Nat.le_of_ble_eq_true rfl⟩ (by decide) rfl rfl rfl rfl hl.1 rfl (Nat.le_of_ble_eq_true rfl) dX7_fails_139 ⟨Nat.zero_le _, Nat.zero_le _⟩) (fun H locs hW => ?_)
  refine lv_if_ge (tgt := 149) hx hcd dX7_fails_142 (by decide) (fun c23 => ?_) (fun c23 => ?_)
  · have ho := gif_p ho c23
    refine lv_iconst (v := 0) hx hcd dX7_fails_149 (by decide) ?_
    obtain rfl := Option.some.inj ho
    exact g_zret (r := 0) hC hr hlk hsz hW (by decide) dX7_fails_150
  · have ho := gif_n ho c23
    refine lv_iconst (v := 1) hx hcd dX7_fails_145 (by decide) ?_
    refine lv_goto (tgt := 150) hx hcd dX7_fails_146 (by decide) ?_
    obtain rfl := Option.some.inj ho
    exact g_zret (r := 1) hC hr hlk hsz hW (by decide) dX7_fails_150
noncomputable def X7_read_k0 (σ : gS) : Option ((Nat × Int32 × gS) ⊕ (Int32 × gS)) :=
  if (σ 132 14) = 0 then (if (σ 132 12) ≤ (σ 132 13) then (lt_ (g_up σ 132 12 0) fun σ26 => if (σ26 132 14) = 0 then (lt_ (g_up σ26 132 15 (σ26 132 15)) fun σ28 => if (σ28 132 14) = 0 then (lt_ (g_up σ28 132 8 0) fun σ30 => (X7_keepState σ30).bind fun σ32 => some (.inl (1, 0, σ32))) else (lt_ (g_up σ28 132 8 1) fun σ33 => (X7_keepState σ33).bind fun σ35 => some (.inl (1, 0, σ35)))) else (lt_ (g_up σ26 132 15 (σ26 132 13)) fun σ36 => if (σ36 132 14) = 0 then (lt_ (g_up σ36 132 8 0) fun σ38 => (X7_keepState σ38).bind fun σ40 => some (.inl (1, 0, σ40))) else (lt_ (g_up σ36 132 8 1) fun σ41 => (X7_keepState σ41).bind fun σ43 => some (.inl (1, 0, σ43))))) else ((X7_readEntry σ).bind fun σ45 => some (.inl (0, 0, σ45)))) else (lt_ (g_up σ 132 12 0) fun σ7 => if (σ7 132 14) = 0 then (lt_ (g_up σ7 132 15 (σ7 132 15)) fun σ9 => if (σ9 132 14) = 0 then (lt_ (g_up σ9 132 8 0) fun σ11 => (X7_keepState σ11).bind fun σ13 => some (.inl (1, 0, σ13))) else (lt_ (g_up σ9 132 8 1) fun σ14 => (X7_keepState σ14).bind fun σ16 => some (.inl (1, 0, σ16)))) else (lt_ (g_up σ7 132 15 (σ7 132 13)) fun σ17 => if (σ17 132 14) = 0 then (lt_ (g_up σ17 132 8 0) fun σ19 => (X7_keepState σ19).bind fun σ21 => some (.inl (1, 0, σ21))) else (lt_ (g_up σ17 132 8 1) fun σ22 => (X7_keepState σ22).bind fun σ24 => some (.inl (1, 0, σ24)))))
noncomputable def X7_read_k1 (σ : gS) (x1 : Int32) : Option ((Nat × Int32 × gS) ⊕ (Int32 × gS)) :=
  if (σ 132 18) ≤ x1 then (if (σ 132 8) ≤ 0 then ((X7_change σ).bind fun σ49 => some (.inr ((σ49 132 18), σ49))) else (some (.inr (0, σ)))) else (if (σ 132 8) = 0 then ((X7_fails σ x1).bind fun q55 => if q55.1 = 0 then (some (.inl (1, (x1 + 1), q55.2))) else (lt_ (g_up q55.2 132 8 2) fun σ57 => lt_ (g_row σ57 133 (va_cpy (σ57 135) (σ57 133) (0 : Int32).toNatClampNeg (0 : Int32).toNatClampNeg (162 : Int32).toNatClampNeg)) fun σ58 => some (.inl (1, (x1 + 1), σ58)))) else (if (σ 132 8) ≤ 0 then ((X7_change σ).bind fun σ53 => some (.inr ((σ53 132 18), σ53))) else (some (.inr (0, σ)))))
noncomputable def X7_read_s (a : Nat × Int32 × gS) : Option ((Nat × Int32 × gS) ⊕ (Int32 × gS)) :=
  if a.1 = 0 then X7_read_k0 a.2.2 else if a.1 = 1 then X7_read_k1 a.2.2 a.2.1 else none
noncomputable def X7_read (σ : gS) : Option (Int32 × gS) :=
  lt_ (g_up σ 132 13 0) fun σ1 => lt_ (g_up σ1 132 14 0) fun σ2 => lt_ (g_up σ2 132 18 0) fun σ3 => (X7_readEntry σ3).bind fun σ5 => gr (X7_read_s) (0, 0, σ5)
set_option maxHeartbeats 4000000 in
set_option maxRecDepth 100000 in
theorem l_X7_read {p : Program} {e : Env} {s : State} {m : MethodId} {args : Array Value} {below : List Frame} {meth : Method} {c : Code} (l : Launch) (D : va_G) (y : ClassId × ClassId × ClassId) (ad : Nat → Nat) (sz : Nat) (hC : g_C p s m args c cX7_read 2 RX7 D y) (hr : meth.sig.returnType = (some .int)) (hlk : meth.locks = false) (hsz : s.heap.size = sz) {r0 : Int32 × gS} : ∀ a : Nat × Int32 × gS, gr (X7_read_s) a = some r0 → ∀ (H : Heap) (locs : List Loc) (ls : Array Slot), g_W (g_A ad sz) s.heap D y ad [] a.2.2 H locs → (a.1 = 0 → lv_has ls 2 [(0, .ref (ad 132))] → W p l e ({ frames := 11, cells := 0, slots := 0, locals := 250 }) s m args below meth c H locs 0 0 (MQ below (g_Qi D y ad r0.2 sz r0.1) args s 0 0 (g_A ad sz)) (F0 m 19 ls [])) ∧ (a.1 = 1 → lv_has ls 2 [(0, .ref (ad 132)), (1, .int a.2.1)] → W p l e ({ frames := 11, cells := 0, slots := 0, locals := 250 }) s m args below meth c H locs 0 0 (MQ below (g_Qi D y ad r0.2 sz r0.1) args s 0 0 (g_A ad sz)) (F0 m 93 ls [])) := by
  have hx := hC.1
  have hcd := hC.2.1
  refine gr_all (fun a o ho hret hjmp => ?_)
  obtain ⟨lb, y0, σ⟩ := a
  intro H locs ls hW
  refine ⟨?_, ?_⟩
  · intro hlb hl
    have hlb : lb = 0 := hlb
    subst hlb
    have ho : X7_read_k0 σ = some o := ho
    unfold X7_read_k0 at ho
    have hl : lv_has ls 2 [(0, .ref (ad 132))] := hl
    have hW : g_W (g_A ad sz) s.heap D y ad [] σ H locs := hW
    refine lv_aload_n hx hcd dX7_read_19 rfl (lv_at hl 0 rfl) ?_
    refine g_geti hC hW (C := RX7) (T := TX7) (N := 19) (ci := 9) (k := 14) (index := 228) (i := 132) inGX7 rfl (by decide) fl_X7_228 (by decide) rfl rfl dX7_read_20 ?_
    refine lv_if_ne (tgt := 44) hx hcd dX7_read_23 (by decide) (fun c6 => ?_) (fun c6 => ?_)
    · have ho := gif_n ho c6
      refine lv_aload_n hx hcd dX7_read_44 rfl (lv_at hl 0 rfl) ?_
      refine lv_iconst (v := 0) hx hcd dX7_read_45 (by decide) ?_
      obtain ⟨σ7, eσ7, ho⟩ := lt_ex ho
      refine g_puti hC hW (C := RX7) (T := TX7) (N := 19) (ci := 9) (k := 12) (index := 225) (i := 132) inGX7 tyX7 tyX7_ok nmX7 rfl (by decide) fl_X7_225 rfl (by decide) rfl rfl rfl rfl dX7_read_46 (fun H locs hW => ?_)
      rw [← eσ7] at hW
      refine lv_aload_n hx hcd dX7_read_49 rfl (lv_at hl 0 rfl) ?_
      refine lv_aload_n hx hcd dX7_read_50 rfl (lv_at hl 0 rfl) ?_
      refine g_geti hC hW (C := RX7) (T := TX7) (N := 19) (ci := 9) (k := 14) (index := 228) (i := 132) inGX7 rfl (by decide) fl_X7_228 (by decide) rfl rfl dX7_read_51 ?_
      refine lv_if_eq (tgt := 64) hx hcd dX7_read_54 (by decide) (fun c8 => ?_) (fun c8 => ?_)
      · have ho := gif_p ho c8
        refine lv_aload_n hx hcd dX7_read_64 rfl (lv_at hl 0 rfl) ?_
        refine g_geti hC hW (C := RX7) (T := TX7) (N := 19) (ci := 9) (k := 15) (index := 35) (i := 132) inGX7 rfl (by decide) fl_X7_35 (by decide) rfl rfl dX7_read_65 ?_
        obtain ⟨σ9, eσ9, ho⟩ := lt_ex ho
        refine g_puti hC hW (C := RX7) (T := TX7) (N := 19) (ci := 9) (k := 15) (index := 35) (i := 132) inGX7 tyX7 tyX7_ok nmX7 rfl (by decide) fl_X7_35 rfl (by decide) rfl rfl rfl rfl dX7_read_68 (fun H locs hW => ?_)
        rw [← eσ9] at hW
        refine lv_aload_n hx hcd dX7_read_71 rfl (lv_at hl 0 rfl) ?_
        refine lv_aload_n hx hcd dX7_read_72 rfl (lv_at hl 0 rfl) ?_
        refine g_geti hC hW (C := RX7) (T := TX7) (N := 19) (ci := 9) (k := 14) (index := 228) (i := 132) inGX7 rfl (by decide) fl_X7_228 (by decide) rfl rfl dX7_read_73 ?_
        refine lv_if_eq (tgt := 83) hx hcd dX7_read_76 (by decide) (fun c10 => ?_) (fun c10 => ?_)
        · have ho := gif_p ho c10
          refine lv_iconst (v := 0) hx hcd dX7_read_83 (by decide) ?_
          obtain ⟨σ11, eσ11, ho⟩ := lt_ex ho
          refine g_puti hC hW (C := RX7) (T := TX7) (N := 19) (ci := 9) (k := 8) (index := 48) (i := 132) inGX7 tyX7 tyX7_ok nmX7 rfl (by decide) fl_X7_48 rfl (by decide) rfl rfl rfl rfl dX7_read_84 (fun H locs hW => ?_)
          rw [← eσ11] at hW
          refine lv_aload_n hx hcd dX7_read_87 rfl (lv_at hl 0 rfl) ?_
          obtain ⟨σ13, h12, ho⟩ := gb_some ho
          refine g_callv hW (g_runV (As := []) (rest := []) (i := 132) hC hW (c_X7_keepState l D y ad _ _ h12) ok_X7_64 ⟨rfl, rfl, Nat.le_of_ble_eq_true rfl, Nat.le_of_ble_eq_true rfl⟩ (by decide) rfl rfl rfl rfl hl.1 rfl (Nat.le_of_ble_eq_true rfl) dX7_read_88 ⟨Nat.zero_le _, Nat.zero_le _⟩) (fun H locs hW => ?_)
          refine lv_iconst (v := 0) hx hcd dX7_read_91 (by decide) ?_
          refine lv_istore_n (lv' := [(1, .int 0), (0, .ref (ad 132))]) hx hcd dX7_read_92 rfl hl (by decide) rfl (fun ls hl => ?_)
          exact (hjmp _ (Option.some.inj ho).symm _ _ _ hW).2 rfl (lv_sub hl [1, 0] rfl)
        · have ho := gif_n ho c10
          refine lv_iconst (v := 1) hx hcd dX7_read_79 (by decide) ?_
          refine lv_goto (tgt := 84) hx hcd dX7_read_80 (by decide) ?_
          obtain ⟨σ14, eσ14, ho⟩ := lt_ex ho
          refine g_puti hC hW (C := RX7) (T := TX7) (N := 19) (ci := 9) (k := 8) (index := 48) (i := 132) inGX7 tyX7 tyX7_ok nmX7 rfl (by decide) fl_X7_48 rfl (by decide) rfl rfl rfl rfl dX7_read_84 (fun H locs hW => ?_)
          rw [← eσ14] at hW
          refine lv_aload_n hx hcd dX7_read_87 rfl (lv_at hl 0 rfl) ?_
          obtain ⟨σ16, h15, ho⟩ := gb_some ho
          refine g_callv hW (g_runV (As := []) (rest := []) (i := 132) hC hW (c_X7_keepState l D y ad _ _ h15) ok_X7_64 ⟨rfl, rfl, Nat.le_of_ble_eq_true rfl, Nat.le_of_ble_eq_true rfl⟩ (by decide) rfl rfl rfl rfl hl.1 rfl (Nat.le_of_ble_eq_true rfl) dX7_read_88 ⟨Nat.zero_le _, Nat.zero_le _⟩) (fun H locs hW => ?_)
          refine lv_iconst (v := 0) hx hcd dX7_read_91 (by decide) ?_
          refine lv_istore_n (lv' := [(1, .int 0), (0, .ref (ad 132))]) hx hcd dX7_read_92 rfl hl (by decide) rfl (fun ls hl => ?_)
          exact (hjmp _ (Option.some.inj ho).symm _ _ _ hW).2 rfl (lv_sub hl [1, 0] rfl)
      · have ho := gif_n ho c8
        refine lv_aload_n hx hcd dX7_read_57 rfl (lv_at hl 0 rfl) ?_
        refine g_geti hC hW (C := RX7) (T := TX7) (N := 19) (ci := 9) (k := 13) (index := 232) (i := 132) inGX7 rfl (by decide) fl_X7_232 (by decide) rfl rfl dX7_read_58 ?_
        refine lv_goto (tgt := 68) hx hcd dX7_read_61 (by decide) ?_
        obtain ⟨σ17, eσ17, ho⟩ := lt_ex ho
        refine g_puti hC hW (C := RX7) (T := TX7) (N := 19) (ci := 9) (k := 15) (index := 35) (i := 132) inGX7 tyX7 tyX7_ok nmX7 rfl (by decide) fl_X7_35 rfl (by decide) rfl rfl rfl rfl dX7_read_68 (fun H locs hW => ?_)
        rw [← eσ17] at hW
        refine lv_aload_n hx hcd dX7_read_71 rfl (lv_at hl 0 rfl) ?_
        refine lv_aload_n hx hcd dX7_read_72 rfl (lv_at hl 0 rfl) ?_
        refine g_geti hC hW (C := RX7) (T := TX7) (N := 19) (ci := 9) (k := 14) (index := 228) (i := 132) inGX7 rfl (by decide) fl_X7_228 (by decide) rfl rfl dX7_read_73 ?_
        refine lv_if_eq (tgt := 83) hx hcd dX7_read_76 (by decide) (fun c18 => ?_) (fun c18 => ?_)
        · have ho := gif_p ho c18
          refine lv_iconst (v := 0) hx hcd dX7_read_83 (by decide) ?_
          obtain ⟨σ19, eσ19, ho⟩ := lt_ex ho
          refine g_puti hC hW (C := RX7) (T := TX7) (N := 19) (ci := 9) (k := 8) (index := 48) (i := 132) inGX7 tyX7 tyX7_ok nmX7 rfl (by decide) fl_X7_48 rfl (by decide) rfl rfl rfl rfl dX7_read_84 (fun H locs hW => ?_)
          rw [← eσ19] at hW
          refine lv_aload_n hx hcd dX7_read_87 rfl (lv_at hl 0 rfl) ?_
          obtain ⟨σ21, h20, ho⟩ := gb_some ho
          refine g_callv hW (g_runV (As := []) (rest := []) (i := 132) hC hW (c_X7_keepState l D y ad _ _ h20) ok_X7_64 ⟨rfl, rfl, Nat.le_of_ble_eq_true rfl, Nat.le_of_ble_eq_true rfl⟩ (by decide) rfl rfl rfl rfl hl.1 rfl (Nat.le_of_ble_eq_true rfl) dX7_read_88 ⟨Nat.zero_le _, Nat.zero_le _⟩) (fun H locs hW => ?_)
          refine lv_iconst (v := 0) hx hcd dX7_read_91 (by decide) ?_
          refine lv_istore_n (lv' := [(1, .int 0), (0, .ref (ad 132))]) hx hcd dX7_read_92 rfl hl (by decide) rfl (fun ls hl => ?_)
          exact (hjmp _ (Option.some.inj ho).symm _ _ _ hW).2 rfl (lv_sub hl [1, 0] rfl)
        · have ho := gif_n ho c18
          refine lv_iconst (v := 1) hx hcd dX7_read_79 (by decide) ?_
          refine lv_goto (tgt := 84) hx hcd dX7_read_80 (by decide) ?_
          obtain ⟨σ22, eσ22, ho⟩ := lt_ex ho
          refine g_puti hC hW (C := RX7) (T := TX7) (N := 19) (ci := 9) (k := 8) (index := 48) (i := 132) inGX7 tyX7 tyX7_ok nmX7 rfl (by decide) fl_X7_48 rfl (by decide) rfl rfl rfl rfl dX7_read_84 (fun H locs hW => ?_)
          rw [← eσ22] at hW
          refine lv_aload_n hx hcd dX7_read_87 rfl (lv_at hl 0 rfl) ?_
          obtain ⟨σ24, h23, ho⟩ := gb_some ho
          refine g_callv hW (g_runV (As := []) (rest := []) (i := 132) hC hW (c_X7_keepState l D y ad _ _ h23) ok_X7_64 ⟨rfl, rfl, Nat.le_of_ble_eq_true rfl, Nat.le_of_ble_eq_true rfl⟩ (by decide) rfl rfl rfl rfl hl.1 rfl (Nat.le_of_ble_eq_true rfl) dX7_read_88 ⟨Nat.zero_le _, Nat.zero_le _⟩) (fun H locs hW => ?_)
          refine lv_iconst (v := 0) hx hcd dX7_read_91 (by decide) ?_
          refine lv_istore_n (lv' := [(1, .int 0), (0, .ref (ad 132))]) hx hcd dX7_read_92 rfl hl (by decide) rfl (fun ls hl => ?_)
          exact (hjmp _ (Option.some.inj ho).symm _ _ _ hW).2 rfl (lv_sub hl [1, 0] rfl)
    · have ho := gif_p ho c6
      refine lv_aload_n hx hcd dX7_read_26 rfl (lv_at hl 0 rfl) ?_
      refine g_geti hC hW (C := RX7) (T := TX7) (N := 19) (ci := 9) (k := 13) (index := 232) (i := 132) inGX7 rfl (by decide) fl_X7_232 (by decide) rfl rfl dX7_read_27 ?_
      refine lv_aload_n hx hcd dX7_read_30 rfl (lv_at hl 0 rfl) ?_
      refine g_geti hC hW (C := RX7) (T := TX7) (N := 19) (ci := 9) (k := 12) (index := 225) (i := 132) inGX7 rfl (by decide) fl_X7_225 (by decide) rfl rfl dX7_read_31 ?_
      refine lv_icmp_ge (tgt := 44) hx hcd dX7_read_34 (by decide) (fun c25 => ?_) (fun c25 => ?_)
      · have ho := gif_p ho c25
        refine lv_aload_n hx hcd dX7_read_44 rfl (lv_at hl 0 rfl) ?_
        refine lv_iconst (v := 0) hx hcd dX7_read_45 (by decide) ?_
        obtain ⟨σ26, eσ26, ho⟩ := lt_ex ho
        refine g_puti hC hW (C := RX7) (T := TX7) (N := 19) (ci := 9) (k := 12) (index := 225) (i := 132) inGX7 tyX7 tyX7_ok nmX7 rfl (by decide) fl_X7_225 rfl (by decide) rfl rfl rfl rfl dX7_read_46 (fun H locs hW => ?_)
        rw [← eσ26] at hW
        refine lv_aload_n hx hcd dX7_read_49 rfl (lv_at hl 0 rfl) ?_
        refine lv_aload_n hx hcd dX7_read_50 rfl (lv_at hl 0 rfl) ?_
        refine g_geti hC hW (C := RX7) (T := TX7) (N := 19) (ci := 9) (k := 14) (index := 228) (i := 132) inGX7 rfl (by decide) fl_X7_228 (by decide) rfl rfl dX7_read_51 ?_
        refine lv_if_eq (tgt := 64) hx hcd dX7_read_54 (by decide) (fun c27 => ?_) (fun c27 => ?_)
        · have ho := gif_p ho c27
          refine lv_aload_n hx hcd dX7_read_64 rfl (lv_at hl 0 rfl) ?_
          refine g_geti hC hW (C := RX7) (T := TX7) (N := 19) (ci := 9) (k := 15) (index := 35) (i := 132) inGX7 rfl (by decide) fl_X7_35 (by decide) rfl rfl dX7_read_65 ?_
          obtain ⟨σ28, eσ28, ho⟩ := lt_ex ho
          refine g_puti hC hW (C := RX7) (T := TX7) (N := 19) (ci := 9) (k := 15) (index := 35) (i := 132) inGX7 tyX7 tyX7_ok nmX7 rfl (by decide) fl_X7_35 rfl (by decide) rfl rfl rfl rfl dX7_read_68 (fun H locs hW => ?_)
          rw [← eσ28] at hW
          refine lv_aload_n hx hcd dX7_read_71 rfl (lv_at hl 0 rfl) ?_
          refine lv_aload_n hx hcd dX7_read_72 rfl (lv_at hl 0 rfl) ?_
          refine g_geti hC hW (C := RX7) (T := TX7) (N := 19) (ci := 9) (k := 14) (index := 228) (i := 132) inGX7 rfl (by decide) fl_X7_228 (by decide) rfl rfl dX7_read_73 ?_
          refine lv_if_eq (tgt := 83) hx hcd dX7_read_76 (by decide) (fun c29 => ?_) (fun c29 => ?_)
          · have ho := gif_p ho c29
            refine lv_iconst (v := 0) hx hcd dX7_read_83 (by decide) ?_
            obtain ⟨σ30, eσ30, ho⟩ := lt_ex ho
            refine g_puti hC hW (C := RX7) (T := TX7) (N := 19) (ci := 9) (k := 8) (index := 48) (i := 132) inGX7 tyX7 tyX7_ok nmX7 rfl (by decide) fl_X7_48 rfl (by decide) rfl rfl rfl rfl dX7_read_84 (fun H locs hW => ?_)
            rw [← eσ30] at hW
            refine lv_aload_n hx hcd dX7_read_87 rfl (lv_at hl 0 rfl) ?_
            obtain ⟨σ32, h31, ho⟩ := gb_some ho
            refine g_callv hW (g_runV (As := []) (rest := []) (i := 132) hC hW (c_X7_keepState l D y ad _ _ h31) ok_X7_64 ⟨rfl, rfl, Nat.le_of_ble_eq_true rfl, Nat.le_of_ble_eq_true rfl⟩ (by decide) rfl rfl rfl rfl hl.1 rfl (Nat.le_of_ble_eq_true rfl) dX7_read_88 ⟨Nat.zero_le _, Nat.zero_le _⟩) (fun H locs hW => ?_)
            refine lv_iconst (v := 0) hx hcd dX7_read_91 (by decide) ?_
            refine lv_istore_n (lv' := [(1, .int 0), (0, .ref (ad 132))]) hx hcd dX7_read_92 rfl hl (by decide) rfl (fun ls hl => ?_)
            exact (hjmp _ (Option.some.inj ho).symm _ _ _ hW).2 rfl (lv_sub hl [1, 0] rfl)
          · have ho := gif_n ho c29
            refine lv_iconst (v := 1) hx hcd dX7_read_79 (by decide) ?_
            refine lv_goto (tgt := 84) hx hcd dX7_read_80 (by decide) ?_
            obtain ⟨σ33, eσ33, ho⟩ := lt_ex ho
            refine g_puti hC hW (C := RX7) (T := TX7) (N := 19) (ci := 9) (k := 8) (index := 48) (i := 132) inGX7 tyX7 tyX7_ok nmX7 rfl (by decide) fl_X7_48 rfl (by decide) rfl rfl rfl rfl dX7_read_84 (fun H locs hW => ?_)
            rw [← eσ33] at hW
            refine lv_aload_n hx hcd dX7_read_87 rfl (lv_at hl 0 rfl) ?_
            obtain ⟨σ35, h34, ho⟩ := gb_some ho
            refine g_callv hW (g_runV (As := []) (rest := []) (i := 132) hC hW (c_X7_keepState l D y ad _ _ h34) ok_X7_64 ⟨rfl, rfl, Nat.le_of_ble_eq_true rfl, Nat.le_of_ble_eq_true rfl⟩ (by decide) rfl rfl rfl rfl hl.1 rfl (Nat.le_of_ble_eq_true rfl) dX7_read_88 ⟨Nat.zero_le _, Nat.zero_le _⟩) (fun H locs hW => ?_)
            refine lv_iconst (v := 0) hx hcd dX7_read_91 (by decide) ?_
            refine lv_istore_n (lv' := [(1, .int 0), (0, .ref (ad 132))]) hx hcd dX7_read_92 rfl hl (by decide) rfl (fun ls hl => ?_)
            exact (hjmp _ (Option.some.inj ho).symm _ _ _ hW).2 rfl (lv_sub hl [1, 0] rfl)
        · have ho := gif_n ho c27
          refine lv_aload_n hx hcd dX7_read_57 rfl (lv_at hl 0 rfl) ?_
          refine g_geti hC hW (C := RX7) (T := TX7) (N := 19) (ci := 9) (k := 13) (index := 232) (i := 132) inGX7 rfl (by decide) fl_X7_232 (by decide) rfl rfl dX7_read_58 ?_
          refine lv_goto (tgt := 68) hx hcd dX7_read_61 (by decide) ?_
          obtain ⟨σ36, eσ36, ho⟩ := lt_ex ho
          refine g_puti hC hW (C := RX7) (T := TX7) (N := 19) (ci := 9) (k := 15) (index := 35) (i := 132) inGX7 tyX7 tyX7_ok nmX7 rfl (by decide) fl_X7_35 rfl (by decide) rfl rfl rfl rfl dX7_read_68 (fun H locs hW => ?_)
          rw [← eσ36] at hW
          refine lv_aload_n hx hcd dX7_read_71 rfl (lv_at hl 0 rfl) ?_
          refine lv_aload_n hx hcd dX7_read_72 rfl (lv_at hl 0 rfl) ?_
          refine g_geti hC hW (C := RX7) (T := TX7) (N := 19) (ci := 9) (k := 14) (index := 228) (i := 132) inGX7 rfl (by decide) fl_X7_228 (by decide) rfl rfl dX7_read_73 ?_
          refine lv_if_eq (tgt := 83) hx hcd dX7_read_76 (by decide) (fun c37 => ?_) (fun c37 => ?_)
          · have ho := gif_p ho c37
            refine lv_iconst (v := 0) hx hcd dX7_read_83 (by decide) ?_
            obtain ⟨σ38, eσ38, ho⟩ := lt_ex ho
            refine g_puti hC hW (C := RX7) (T := TX7) (N := 19) (ci := 9) (k := 8) (index := 48) (i := 132) inGX7 tyX7 tyX7_ok nmX7 rfl (by decide) fl_X7_48 rfl (by decide) rfl rfl rfl rfl dX7_read_84 (fun H locs hW => ?_)
            rw [← eσ38] at hW
            refine lv_aload_n hx hcd dX7_read_87 rfl (lv_at hl 0 rfl) ?_
            obtain ⟨σ40, h39, ho⟩ := gb_some ho
            refine g_callv hW (g_runV (As := []) (rest := []) (i := 132) hC hW (c_X7_keepState l D y ad _ _ h39) ok_X7_64 ⟨rfl, rfl, Nat.le_of_ble_eq_true rfl, Nat.le_of_ble_eq_true rfl⟩ (by decide) rfl rfl rfl rfl hl.1 rfl (Nat.le_of_ble_eq_true rfl) dX7_read_88 ⟨Nat.zero_le _, Nat.zero_le _⟩) (fun H locs hW => ?_)
            refine lv_iconst (v := 0) hx hcd dX7_read_91 (by decide) ?_
            refine lv_istore_n (lv' := [(1, .int 0), (0, .ref (ad 132))]) hx hcd dX7_read_92 rfl hl (by decide) rfl (fun ls hl => ?_)
            exact (hjmp _ (Option.some.inj ho).symm _ _ _ hW).2 rfl (lv_sub hl [1, 0] rfl)
          · have ho := gif_n ho c37
            refine lv_iconst (v := 1) hx hcd dX7_read_79 (by decide) ?_
            refine lv_goto (tgt := 84) hx hcd dX7_read_80 (by decide) ?_
            obtain ⟨σ41, eσ41, ho⟩ := lt_ex ho
            refine g_puti hC hW (C := RX7) (T := TX7) (N := 19) (ci := 9) (k := 8) (index := 48) (i := 132) inGX7 tyX7 tyX7_ok nmX7 rfl (by decide) fl_X7_48 rfl (by decide) rfl rfl rfl rfl dX7_read_84 (fun H locs hW => ?_)
            rw [← eσ41] at hW
            refine lv_aload_n hx hcd dX7_read_87 rfl (lv_at hl 0 rfl) ?_
            obtain ⟨σ43, h42, ho⟩ := gb_some ho
            refine g_callv hW (g_runV (As := []) (rest := []) (i := 132) hC hW (c_X7_keepState l D y ad _ _ h42) ok_X7_64 ⟨rfl, rfl, Nat.le_of_ble_eq_true rfl, Nat.le_of_ble_eq_true rfl⟩ (by decide) rfl rfl rfl rfl hl.1 rfl (Nat.le_of_ble_eq_true rfl) dX7_read_88 ⟨Nat.zero_le _, Nat.zero_le _⟩) (fun H locs hW => ?_)
            refine lv_iconst (v := 0) hx hcd dX7_read_91 (by decide) ?_
            refine lv_istore_n (lv' := [(1, .int 0), (0, .ref (ad 132))]) hx hcd dX7_read_92 rfl hl (by decide) rfl (fun ls hl => ?_)
            exact (hjmp _ (Option.some.inj ho).symm _ _ _ hW).2 rfl (lv_sub hl [1, 0] rfl)
      · have ho := gif_n ho c25
        refine lv_aload_n hx hcd dX7_read_37 rfl (lv_at hl 0 rfl) ?_
        obtain ⟨σ45, h44, ho⟩ := gb_some ho
        refine g_callv hW (g_runV (As := []) (rest := []) (i := 132) hC hW (c_X7_readEntry l D y ad _ _ h44) ok_X7_253 ⟨rfl, rfl, Nat.le_of_ble_eq_true rfl, Nat.le_of_ble_eq_true rfl⟩ (by decide) rfl rfl rfl rfl hl.1 rfl (Nat.le_of_ble_eq_true rfl) dX7_read_38 ⟨Nat.zero_le _, Nat.zero_le _⟩) (fun H locs hW => ?_)
        refine lv_goto (tgt := 19) hx hcd dX7_read_41 (by decide) ?_
        exact (hjmp _ (Option.some.inj ho).symm _ _ _ hW).1 rfl (lv_sub hl [0] rfl)
  · intro hlb hl
    have hlb : lb = 1 := hlb
    subst hlb
    have ho : X7_read_k1 σ y0 = some o := ho
    unfold X7_read_k1 at ho
    have hl : lv_has ls 2 [(0, .ref (ad 132)), (1, .int y0)] := hl
    have hW : g_W (g_A ad sz) s.heap D y ad [] σ H locs := hW
    refine lv_iload_n hx hcd dX7_read_93 rfl (lv_at hl 1 rfl) ?_
    refine lv_aload_n hx hcd dX7_read_94 rfl (lv_at hl 0 rfl) ?_
    refine g_geti hC hW (C := RX7) (T := TX7) (N := 19) (ci := 9) (k := 18) (index := 246) (i := 132) inGX7 rfl (by decide) fl_X7_246 (by decide) rfl rfl dX7_read_95 ?_
    refine lv_icmp_ge (tgt := 143) hx hcd dX7_read_98 (by decide) (fun c46 => ?_) (fun c46 => ?_)
    · have ho := gif_p ho c46
      refine lv_aload_n hx hcd dX7_read_143 rfl (lv_at hl 0 rfl) ?_
      refine g_geti hC hW (C := RX7) (T := TX7) (N := 19) (ci := 9) (k := 8) (index := 48) (i := 132) inGX7 rfl (by decide) fl_X7_48 (by decide) rfl rfl dX7_read_144 ?_
      refine lv_if_le (tgt := 152) hx hcd dX7_read_147 (by decide) (fun c47 => ?_) (fun c47 => ?_)
      · have ho := gif_p ho c47
        refine lv_aload_n hx hcd dX7_read_152 rfl (lv_at hl 0 rfl) ?_
        obtain ⟨σ49, h48, ho⟩ := gb_some ho
        refine g_callv hW (g_runV (As := []) (rest := []) (i := 132) hC hW (c_X7_change l D y ad _ _ h48) ok_X7_67 ⟨rfl, rfl, Nat.le_of_ble_eq_true rfl, Nat.le_of_ble_eq_true rfl⟩ (by decide) rfl rfl rfl rfl hl.1 rfl (Nat.le_of_ble_eq_true rfl) dX7_read_153 ⟨Nat.zero_le _, Nat.zero_le _⟩) (fun H locs hW => ?_)
        refine lv_aload_n hx hcd dX7_read_156 rfl (lv_at hl 0 rfl) ?_
        refine g_geti hC hW (C := RX7) (T := TX7) (N := 19) (ci := 9) (k := 18) (index := 246) (i := 132) inGX7 rfl (by decide) fl_X7_246 (by decide) rfl rfl dX7_read_157 ?_
        obtain rfl := hret _ (Option.some.inj ho).symm
        exact g_iret hC hr hlk hsz hW dX7_read_160
      · have ho := gif_n ho c47
        refine lv_iconst (v := 0) hx hcd dX7_read_150 (by decide) ?_
        obtain rfl := hret _ (Option.some.inj ho).symm
        exact g_iret hC hr hlk hsz hW dX7_read_151
    · have ho := gif_n ho c46
      refine lv_aload_n hx hcd dX7_read_101 rfl (lv_at hl 0 rfl) ?_
      refine g_geti hC hW (C := RX7) (T := TX7) (N := 19) (ci := 9) (k := 8) (index := 48) (i := 132) inGX7 rfl (by decide) fl_X7_48 (by decide) rfl rfl dX7_read_102 ?_
      refine lv_if_ne (tgt := 143) hx hcd dX7_read_105 (by decide) (fun c50 => ?_) (fun c50 => ?_)
      · have ho := gif_n ho c50
        refine lv_aload_n hx hcd dX7_read_143 rfl (lv_at hl 0 rfl) ?_
        refine g_geti hC hW (C := RX7) (T := TX7) (N := 19) (ci := 9) (k := 8) (index := 48) (i := 132) inGX7 rfl (by decide) fl_X7_48 (by decide) rfl rfl dX7_read_144 ?_
        refine lv_if_le (tgt := 152) hx hcd dX7_read_147 (by decide) (fun c51 => ?_) (fun c51 => ?_)
        · have ho := gif_p ho c51
          refine lv_aload_n hx hcd dX7_read_152 rfl (lv_at hl 0 rfl) ?_
          obtain ⟨σ53, h52, ho⟩ := gb_some ho
          refine g_callv hW (g_runV (As := []) (rest := []) (i := 132) hC hW (c_X7_change l D y ad _ _ h52) ok_X7_67 ⟨rfl, rfl, Nat.le_of_ble_eq_true rfl, Nat.le_of_ble_eq_true rfl⟩ (by decide) rfl rfl rfl rfl hl.1 rfl (Nat.le_of_ble_eq_true rfl) dX7_read_153 ⟨Nat.zero_le _, Nat.zero_le _⟩) (fun H locs hW => ?_)
          refine lv_aload_n hx hcd dX7_read_156 rfl (lv_at hl 0 rfl) ?_
          refine g_geti hC hW (C := RX7) (T := TX7) (N := 19) (ci := 9) (k := 18) (index := 246) (i := 132) inGX7 rfl (by decide) fl_X7_246 (by decide) rfl rfl dX7_read_157 ?_
          obtain rfl := hret _ (Option.some.inj ho).symm
          exact g_iret hC hr hlk hsz hW dX7_read_160
        · have ho := gif_n ho c51
          refine lv_iconst (v := 0) hx hcd dX7_read_150 (by decide) ?_
          obtain rfl := hret _ (Option.some.inj ho).symm
          exact g_iret hC hr hlk hsz hW dX7_read_151
      · have ho := gif_p ho c50
        refine lv_aload_n hx hcd dX7_read_108 rfl (lv_at hl 0 rfl) ?_
        refine lv_iload_n hx hcd dX7_read_109 rfl (lv_at hl 1 rfl) ?_
        obtain ⟨q55, h54, ho⟩ := gb_some ho
        refine g_calli hW (g_runV (As := [.int y0]) (rest := []) (i := 132) hC hW (c_X7_fails l D y ad y0 _ _ h54) ok_X7_256 ⟨rfl, rfl, Nat.le_of_ble_eq_true rfl, Nat.le_of_ble_eq_true rfl⟩ (by decide) rfl rfl rfl rfl hl.1 rfl (Nat.le_of_ble_eq_true rfl) dX7_read_110 ⟨Nat.zero_le _, Nat.zero_le _⟩) (fun H locs hW => ?_)
        refine lv_if_eq (tgt := 137) hx hcd dX7_read_113 (by decide) (fun c56 => ?_) (fun c56 => ?_)
        · have ho := gif_p ho c56
          refine lv_iinc (v := y0 + 1) (lv' := [(1, .int (y0 + 1)), (0, .ref (ad 132))]) hx hcd dX7_read_137 hl (k := 1) rfl rfl (by decide) rfl (fun ls hl => ?_)
          refine lv_goto (tgt := 93) hx hcd dX7_read_140 (by decide) ?_
          exact (hjmp _ (Option.some.inj ho).symm _ _ _ hW).2 rfl (lv_sub hl [1, 0] rfl)
        · have ho := gif_n ho c56
          refine lv_aload_n hx hcd dX7_read_116 rfl (lv_at hl 0 rfl) ?_
          refine lv_iconst (v := 2) hx hcd dX7_read_117 (by decide) ?_
          obtain ⟨σ57, eσ57, ho⟩ := lt_ex ho
          refine g_puti hC hW (C := RX7) (T := TX7) (N := 19) (ci := 9) (k := 8) (index := 48) (i := 132) inGX7 tyX7 tyX7_ok nmX7 rfl (by decide) fl_X7_48 rfl (by decide) rfl rfl rfl rfl dX7_read_118 (fun H locs hW => ?_)
          rw [← eσ57] at hW
          refine lv_aload_n hx hcd dX7_read_121 rfl (lv_at hl 0 rfl) ?_
          refine g_getr hC hW (C := RX7) (T := TX7) (N := 19) (ci := 9) (k := 2) (index := 16) (i := 132) (r := 135) inGX7 rfl (by decide) fl_X7_16 (by decide) rfl rfl dX7_read_122 ?_
          refine lv_iconst (v := 0) hx hcd dX7_read_125 (by decide) ?_
          refine lv_aload_n hx hcd dX7_read_126 rfl (lv_at hl 0 rfl) ?_
          refine g_getr hC hW (C := RX7) (T := TX7) (N := 19) (ci := 9) (k := 0) (index := 9) (i := 132) (r := 133) inGX7 rfl (by decide) fl_X7_9 (by decide) rfl rfl dX7_read_127 ?_
          refine lv_iconst (v := 0) hx hcd dX7_read_130 (by decide) ?_
          refine lv_sipush (v := 162) hx hcd dX7_read_131 (by decide) ?_
          obtain ⟨σ58, eσ58, ho⟩ := lt_ex ho
          refine g_copy hC hW hl.1 ml_X7_58 (i0 := 135) (i1 := 133) (n0 := 162) (n1 := 162) (by decide) (by decide) rfl rfl (by decide +kernel) ac_w ⟨Nat.le_of_ble_eq_true rfl, Nat.le_of_ble_eq_true rfl⟩ dX7_read_134 (fun H locs hW => ?_)
          rw [← eσ58] at hW
          refine lv_iinc (v := y0 + 1) (lv' := [(1, .int (y0 + 1)), (0, .ref (ad 132))]) hx hcd dX7_read_137 hl (k := 1) rfl rfl (by decide) rfl (fun ls hl => ?_)
          refine lv_goto (tgt := 93) hx hcd dX7_read_140 (by decide) ?_
          exact (hjmp _ (Option.some.inj ho).symm _ _ _ hW).2 rfl (lv_sub hl [1, 0] rfl)
set_option maxHeartbeats 4000000 in
set_option maxRecDepth 100000 in
theorem c_X7_read (l : Launch) (D : va_G) (y : ClassId × ClassId × ClassId) (ad : Nat → Nat) (σ : gS) (sz : Nat) {q : Int32 × gS} (h : X7_read σ = some q) : Met l yX7_read (Cond.code yX7_read cX7_read 2 (some .int) :: gl) ({ frames := 11, cells := 0, slots := 0, locals := 250 }) (g_Pc D y ad σ sz [.ref (ad 132)]) (g_Qi D y ad q.2 sz q.1) 0 0 (g_A ad sz) := by
  have ho := h
  unfold X7_read at ho
  refine g_start (by decide) (Nat.le_of_ble_eq_true rfl) (fun p e s m below meth c ls hC hr hlk hsz hW hl => ?_)
  have hx := hC.1
  have hcd := hC.2.1
  have hl : lv_has ls 2 [(0, .ref (ad 132))] := hl
  refine lv_aload_n hx hcd dX7_read_0 rfl (lv_at hl 0 rfl) ?_
  refine lv_iconst (v := 0) hx hcd dX7_read_1 (by decide) ?_
  obtain ⟨σ1, eσ1, ho⟩ := lt_ex ho
  refine g_puti hC hW (C := RX7) (T := TX7) (N := 19) (ci := 9) (k := 13) (index := 232) (i := 132) inGX7 tyX7 tyX7_ok nmX7 rfl (by decide) fl_X7_232 rfl (by decide) rfl rfl rfl rfl dX7_read_2 (fun H locs hW => ?_)
  rw [← eσ1] at hW
  refine lv_aload_n hx hcd dX7_read_5 rfl (lv_at hl 0 rfl) ?_
  refine lv_iconst (v := 0) hx hcd dX7_read_6 (by decide) ?_
  obtain ⟨σ2, eσ2, ho⟩ := lt_ex ho
  refine g_puti hC hW (C := RX7) (T := TX7) (N := 19) (ci := 9) (k := 14) (index := 228) (i := 132) inGX7 tyX7 tyX7_ok nmX7 rfl (by decide) fl_X7_228 rfl (by decide) rfl rfl rfl rfl dX7_read_7 (fun H locs hW => ?_)
  rw [← eσ2] at hW
  refine lv_aload_n hx hcd dX7_read_10 rfl (lv_at hl 0 rfl) ?_
  refine lv_iconst (v := 0) hx hcd dX7_read_11 (by decide) ?_
  obtain ⟨σ3, eσ3, ho⟩ := lt_ex ho
  refine g_puti hC hW (C := RX7) (T := TX7) (N := 19) (ci := 9) (k := 18) (index := 246) (i := 132) inGX7 tyX7 tyX7_ok nmX7 rfl (by decide) fl_X7_246 rfl (by decide) rfl rfl rfl rfl dX7_read_12 (fun H locs hW => ?_)
  rw [← eσ3] at hW
  refine lv_aload_n hx hcd dX7_read_15 rfl (lv_at hl 0 rfl) ?_
  obtain ⟨σ5, h4, ho⟩ := gb_some ho
  refine g_callv hW (g_runV (As := []) (rest := []) (i := 132) hC hW (c_X7_readEntry l D y ad _ _ h4) ok_X7_253 ⟨rfl, rfl, Nat.le_of_ble_eq_true rfl, Nat.le_of_ble_eq_true rfl⟩ (by decide) rfl rfl rfl rfl hl.1 rfl (Nat.le_of_ble_eq_true rfl) dX7_read_16 ⟨Nat.zero_le _, Nat.zero_le _⟩) (fun H locs hW => ?_)
  exact (l_X7_read l D y ad sz hC hr hlk hsz _ ho _ _ _ hW).1 rfl (lv_sub hl [0] rfl)
noncomputable def X7_errorPosition (σ : gS) : Option (Int32 × gS) :=
  if 0 ≤ (σ 132 15) then (lt_ (g_up σ 132 8 0) fun σ2 => if (σ2 132 8) ≤ 0 then (some ((σ2 132 15), σ2)) else (some (0, σ2))) else (lt_ (g_up σ 132 8 1) fun σ4 => if (σ4 132 8) ≤ 0 then (some ((σ4 132 15), σ4)) else (some (0, σ4)))
set_option maxHeartbeats 4000000 in
set_option maxRecDepth 100000 in
theorem c_X7_errorPosition (l : Launch) (D : va_G) (y : ClassId × ClassId × ClassId) (ad : Nat → Nat) (σ : gS) (sz : Nat) {q : Int32 × gS} (h : X7_errorPosition σ = some q) : Met l yX7_errorPosition (Cond.code yX7_errorPosition cX7_errorPosition 1 (some .int) :: gl) ({ frames := 0, cells := 0, slots := 0, locals := 0 }) (g_Pc D y ad σ sz [.ref (ad 132)]) (g_Qi D y ad q.2 sz q.1) 0 0 (g_A ad sz) := by
  have ho := h
  unfold X7_errorPosition at ho
  refine g_start (by decide) (Nat.le_of_ble_eq_true rfl) (fun p e s m below meth c ls hC hr hlk hsz hW hl => ?_)
  have hx := hC.1
  have hcd := hC.2.1
  have hl : lv_has ls 1 [(0, .ref (ad 132))] := hl
  refine lv_aload_n hx hcd dX7_errorPosition_0 rfl (lv_at hl 0 rfl) ?_
  refine lv_aload_n hx hcd dX7_errorPosition_1 rfl (lv_at hl 0 rfl) ?_
  refine g_geti hC hW (C := RX7) (T := TX7) (N := 19) (ci := 9) (k := 15) (index := 35) (i := 132) inGX7 rfl (by decide) fl_X7_35 (by decide) rfl rfl dX7_errorPosition_2 ?_
  refine lv_if_ge (tgt := 12) hx hcd dX7_errorPosition_5 (by decide) (fun c1 => ?_) (fun c1 => ?_)
  · have ho := gif_p ho c1
    refine lv_iconst (v := 0) hx hcd dX7_errorPosition_12 (by decide) ?_
    obtain ⟨σ2, eσ2, ho⟩ := lt_ex ho
    refine g_puti hC hW (C := RX7) (T := TX7) (N := 19) (ci := 9) (k := 8) (index := 48) (i := 132) inGX7 tyX7 tyX7_ok nmX7 rfl (by decide) fl_X7_48 rfl (by decide) rfl rfl rfl rfl dX7_errorPosition_13 (fun H locs hW => ?_)
    rw [← eσ2] at hW
    refine lv_aload_n hx hcd dX7_errorPosition_16 rfl (lv_at hl 0 rfl) ?_
    refine g_geti hC hW (C := RX7) (T := TX7) (N := 19) (ci := 9) (k := 8) (index := 48) (i := 132) inGX7 rfl (by decide) fl_X7_48 (by decide) rfl rfl dX7_errorPosition_17 ?_
    refine lv_if_le (tgt := 27) hx hcd dX7_errorPosition_20 (by decide) (fun c3 => ?_) (fun c3 => ?_)
    · have ho := gif_p ho c3
      refine lv_aload_n hx hcd dX7_errorPosition_27 rfl (lv_at hl 0 rfl) ?_
      refine g_geti hC hW (C := RX7) (T := TX7) (N := 19) (ci := 9) (k := 15) (index := 35) (i := 132) inGX7 rfl (by decide) fl_X7_35 (by decide) rfl rfl dX7_errorPosition_28 ?_
      obtain rfl := Option.some.inj ho
      exact g_iret hC hr hlk hsz hW dX7_errorPosition_31
    · have ho := gif_n ho c3
      refine lv_iconst (v := 0) hx hcd dX7_errorPosition_23 (by decide) ?_
      refine lv_goto (tgt := 31) hx hcd dX7_errorPosition_24 (by decide) ?_
      obtain rfl := Option.some.inj ho
      exact g_iret hC hr hlk hsz hW dX7_errorPosition_31
  · have ho := gif_n ho c1
    refine lv_iconst (v := 1) hx hcd dX7_errorPosition_8 (by decide) ?_
    refine lv_goto (tgt := 13) hx hcd dX7_errorPosition_9 (by decide) ?_
    obtain ⟨σ4, eσ4, ho⟩ := lt_ex ho
    refine g_puti hC hW (C := RX7) (T := TX7) (N := 19) (ci := 9) (k := 8) (index := 48) (i := 132) inGX7 tyX7 tyX7_ok nmX7 rfl (by decide) fl_X7_48 rfl (by decide) rfl rfl rfl rfl dX7_errorPosition_13 (fun H locs hW => ?_)
    rw [← eσ4] at hW
    refine lv_aload_n hx hcd dX7_errorPosition_16 rfl (lv_at hl 0 rfl) ?_
    refine g_geti hC hW (C := RX7) (T := TX7) (N := 19) (ci := 9) (k := 8) (index := 48) (i := 132) inGX7 rfl (by decide) fl_X7_48 (by decide) rfl rfl dX7_errorPosition_17 ?_
    refine lv_if_le (tgt := 27) hx hcd dX7_errorPosition_20 (by decide) (fun c5 => ?_) (fun c5 => ?_)
    · have ho := gif_p ho c5
      refine lv_aload_n hx hcd dX7_errorPosition_27 rfl (lv_at hl 0 rfl) ?_
      refine g_geti hC hW (C := RX7) (T := TX7) (N := 19) (ci := 9) (k := 15) (index := 35) (i := 132) inGX7 rfl (by decide) fl_X7_35 (by decide) rfl rfl dX7_errorPosition_28 ?_
      obtain rfl := Option.some.inj ho
      exact g_iret hC hr hlk hsz hW dX7_errorPosition_31
    · have ho := gif_n ho c5
      refine lv_iconst (v := 0) hx hcd dX7_errorPosition_23 (by decide) ?_
      refine lv_goto (tgt := 31) hx hcd dX7_errorPosition_24 (by decide) ?_
      obtain rfl := Option.some.inj ho
      exact g_iret hC hr hlk hsz hW dX7_errorPosition_31
noncomputable def X7_undo (σ : gS) : Option (Int32 × gS) :=
  if (σ 132 6) = 0 then (lt_ (g_up σ 132 8 1) fun σ7 => if (σ7 132 8) ≤ 0 then (lt_ (g_up σ7 132 6 ((σ7 132 6) - (1 : Int32))) fun σ9 => gd (decide (0 ≤ ((162 : Int32) * (σ9 132 6) : Int32).toInt ∧ 0 ≤ (0 : Int32).toInt ∧ 0 ≤ (162 : Int32).toInt ∧ ((162 : Int32) * (σ9 132 6) : Int32).toNatClampNeg + (162 : Int32).toNatClampNeg ≤ 972 ∧ (0 : Int32).toNatClampNeg + (162 : Int32).toNatClampNeg ≤ 162)) <| lt_ (g_row σ9 133 (va_cpy (σ9 137) (σ9 133) ((162 : Int32) * (σ9 132 6) : Int32).toNatClampNeg (0 : Int32).toNatClampNeg (162 : Int32).toNatClampNeg)) fun σ11 => some ((σ11 132 6), σ11)) else (some (0, σ7))) else (lt_ (g_up σ 132 8 0) fun σ2 => if (σ2 132 8) ≤ 0 then (lt_ (g_up σ2 132 6 ((σ2 132 6) - (1 : Int32))) fun σ4 => gd (decide (0 ≤ ((162 : Int32) * (σ4 132 6) : Int32).toInt ∧ 0 ≤ (0 : Int32).toInt ∧ 0 ≤ (162 : Int32).toInt ∧ ((162 : Int32) * (σ4 132 6) : Int32).toNatClampNeg + (162 : Int32).toNatClampNeg ≤ 972 ∧ (0 : Int32).toNatClampNeg + (162 : Int32).toNatClampNeg ≤ 162)) <| lt_ (g_row σ4 133 (va_cpy (σ4 137) (σ4 133) ((162 : Int32) * (σ4 132 6) : Int32).toNatClampNeg (0 : Int32).toNatClampNeg (162 : Int32).toNatClampNeg)) fun σ6 => some ((σ6 132 6), σ6)) else (some (0, σ2)))
set_option maxHeartbeats 4000000 in
set_option maxRecDepth 100000 in
theorem c_X7_undo (l : Launch) (D : va_G) (y : ClassId × ClassId × ClassId) (ad : Nat → Nat) (σ : gS) (sz : Nat) {q : Int32 × gS} (h : X7_undo σ = some q) : Met l yX7_undo (Cond.code yX7_undo cX7_undo 1 (some .int) :: gl) ({ frames := 1, cells := 0, slots := 0, locals := 40 }) (g_Pc D y ad σ sz [.ref (ad 132)]) (g_Qi D y ad q.2 sz q.1) 0 0 (g_A ad sz) := by
  have ho := h
  unfold X7_undo at ho
  refine g_start (by decide) (Nat.le_of_ble_eq_true rfl) (fun p e s m below meth c ls hC hr hlk hsz hW hl => ?_)
  have hx := hC.1
  have hcd := hC.2.1
  have hl : lv_has ls 1 [(0, .ref (ad 132))] := hl
  refine lv_aload_n hx hcd dX7_undo_0 rfl (lv_at hl 0 rfl) ?_
  refine lv_aload_n hx hcd dX7_undo_1 rfl (lv_at hl 0 rfl) ?_
  refine g_geti hC hW (C := RX7) (T := TX7) (N := 19) (ci := 9) (k := 6) (index := 55) (i := 132) inGX7 rfl (by decide) fl_X7_55 (by decide) rfl rfl dX7_undo_2 ?_
  refine lv_if_ne (tgt := 12) hx hcd dX7_undo_5 (by decide) (fun c1 => ?_) (fun c1 => ?_)
  · have ho := gif_n ho c1
    refine lv_iconst (v := 0) hx hcd dX7_undo_12 (by decide) ?_
    obtain ⟨σ2, eσ2, ho⟩ := lt_ex ho
    refine g_puti hC hW (C := RX7) (T := TX7) (N := 19) (ci := 9) (k := 8) (index := 48) (i := 132) inGX7 tyX7 tyX7_ok nmX7 rfl (by decide) fl_X7_48 rfl (by decide) rfl rfl rfl rfl dX7_undo_13 (fun H locs hW => ?_)
    rw [← eσ2] at hW
    refine lv_aload_n hx hcd dX7_undo_16 rfl (lv_at hl 0 rfl) ?_
    refine g_geti hC hW (C := RX7) (T := TX7) (N := 19) (ci := 9) (k := 8) (index := 48) (i := 132) inGX7 rfl (by decide) fl_X7_48 (by decide) rfl rfl dX7_undo_17 ?_
    refine lv_if_le (tgt := 25) hx hcd dX7_undo_20 (by decide) (fun c3 => ?_) (fun c3 => ?_)
    · have ho := gif_p ho c3
      refine lv_aload_n hx hcd dX7_undo_25 rfl (lv_at hl 0 rfl) ?_
      refine lv_dup hx hcd dX7_undo_26 rfl ?_
      refine g_geti hC hW (C := RX7) (T := TX7) (N := 19) (ci := 9) (k := 6) (index := 55) (i := 132) inGX7 rfl (by decide) fl_X7_55 (by decide) rfl rfl dX7_undo_27 ?_
      refine lv_iconst (v := 1) hx hcd dX7_undo_30 (by decide) ?_
      refine lv_isub hx hcd dX7_undo_31 ?_
      obtain ⟨σ4, eσ4, ho⟩ := lt_ex ho
      refine g_puti hC hW (C := RX7) (T := TX7) (N := 19) (ci := 9) (k := 6) (index := 55) (i := 132) inGX7 tyX7 tyX7_ok nmX7 rfl (by decide) fl_X7_55 rfl (by decide) rfl rfl rfl rfl dX7_undo_32 (fun H locs hW => ?_)
      rw [← eσ4] at hW
      refine lv_aload_n hx hcd dX7_undo_35 rfl (lv_at hl 0 rfl) ?_
      refine g_getr hC hW (C := RX7) (T := TX7) (N := 19) (ci := 9) (k := 5) (index := 22) (i := 132) (r := 137) inGX7 rfl (by decide) fl_X7_22 (by decide) rfl rfl dX7_undo_36 ?_
      refine lv_sipush (v := 162) hx hcd dX7_undo_39 (by decide) ?_
      refine lv_aload_n hx hcd dX7_undo_42 rfl (lv_at hl 0 rfl) ?_
      refine g_geti hC hW (C := RX7) (T := TX7) (N := 19) (ci := 9) (k := 6) (index := 55) (i := 132) inGX7 rfl (by decide) fl_X7_55 (by decide) rfl rfl dX7_undo_43 ?_
      refine lv_imul hx hcd dX7_undo_46 ?_
      refine lv_aload_n hx hcd dX7_undo_47 rfl (lv_at hl 0 rfl) ?_
      refine g_getr hC hW (C := RX7) (T := TX7) (N := 19) (ci := 9) (k := 0) (index := 9) (i := 132) (r := 133) inGX7 rfl (by decide) fl_X7_9 (by decide) rfl rfl dX7_undo_48 ?_
      refine lv_iconst (v := 0) hx hcd dX7_undo_51 (by decide) ?_
      refine lv_sipush (v := 162) hx hcd dX7_undo_52 (by decide) ?_
      obtain ⟨i5, ho⟩ := gd_some ho
      obtain ⟨σ6, eσ6, ho⟩ := lt_ex ho
      refine g_copy hC hW hl.1 ml_X7_58 (i0 := 137) (i1 := 133) (n0 := 972) (n1 := 162) (by decide) (by decide) rfl rfl i5 ac_w ⟨Nat.le_of_ble_eq_true rfl, Nat.le_of_ble_eq_true rfl⟩ dX7_undo_55 (fun H locs hW => ?_)
      rw [← eσ6] at hW
      refine lv_aload_n hx hcd dX7_undo_58 rfl (lv_at hl 0 rfl) ?_
      refine g_geti hC hW (C := RX7) (T := TX7) (N := 19) (ci := 9) (k := 6) (index := 55) (i := 132) inGX7 rfl (by decide) fl_X7_55 (by decide) rfl rfl dX7_undo_59 ?_
      obtain rfl := Option.some.inj ho
      exact g_iret hC hr hlk hsz hW dX7_undo_62
    · have ho := gif_n ho c3
      refine lv_iconst (v := 0) hx hcd dX7_undo_23 (by decide) ?_
      obtain rfl := Option.some.inj ho
      exact g_iret hC hr hlk hsz hW dX7_undo_24
  · have ho := gif_p ho c1
    refine lv_iconst (v := 1) hx hcd dX7_undo_8 (by decide) ?_
    refine lv_goto (tgt := 13) hx hcd dX7_undo_9 (by decide) ?_
    obtain ⟨σ7, eσ7, ho⟩ := lt_ex ho
    refine g_puti hC hW (C := RX7) (T := TX7) (N := 19) (ci := 9) (k := 8) (index := 48) (i := 132) inGX7 tyX7 tyX7_ok nmX7 rfl (by decide) fl_X7_48 rfl (by decide) rfl rfl rfl rfl dX7_undo_13 (fun H locs hW => ?_)
    rw [← eσ7] at hW
    refine lv_aload_n hx hcd dX7_undo_16 rfl (lv_at hl 0 rfl) ?_
    refine g_geti hC hW (C := RX7) (T := TX7) (N := 19) (ci := 9) (k := 8) (index := 48) (i := 132) inGX7 rfl (by decide) fl_X7_48 (by decide) rfl rfl dX7_undo_17 ?_
    refine lv_if_le (tgt := 25) hx hcd dX7_undo_20 (by decide) (fun c8 => ?_) (fun c8 => ?_)
    · have ho := gif_p ho c8
      refine lv_aload_n hx hcd dX7_undo_25 rfl (lv_at hl 0 rfl) ?_
      refine lv_dup hx hcd dX7_undo_26 rfl ?_
      refine g_geti hC hW (C := RX7) (T := TX7) (N := 19) (ci := 9) (k := 6) (index := 55) (i := 132) inGX7 rfl (by decide) fl_X7_55 (by decide) rfl rfl dX7_undo_27 ?_
      refine lv_iconst (v := 1) hx hcd dX7_undo_30 (by decide) ?_
      refine lv_isub hx hcd dX7_undo_31 ?_
      obtain ⟨σ9, eσ9, ho⟩ := lt_ex ho
      refine g_puti hC hW (C := RX7) (T := TX7) (N := 19) (ci := 9) (k := 6) (index := 55) (i := 132) inGX7 tyX7 tyX7_ok nmX7 rfl (by decide) fl_X7_55 rfl (by decide) rfl rfl rfl rfl dX7_undo_32 (fun H locs hW => ?_)
      rw [← eσ9] at hW
      refine lv_aload_n hx hcd dX7_undo_35 rfl (lv_at hl 0 rfl) ?_
      refine g_getr hC hW (C := RX7) (T := TX7) (N := 19) (ci := 9) (k := 5) (index := 22) (i := 132) (r := 137) inGX7 rfl (by decide) fl_X7_22 (by decide) rfl rfl dX7_undo_36 ?_
      refine lv_sipush (v := 162) hx hcd dX7_undo_39 (by decide) ?_
      refine lv_aload_n hx hcd dX7_undo_42 rfl (lv_at hl 0 rfl) ?_
      refine g_geti hC hW (C := RX7) (T := TX7) (N := 19) (ci := 9) (k := 6) (index := 55) (i := 132) inGX7 rfl (by decide) fl_X7_55 (by decide) rfl rfl dX7_undo_43 ?_
      refine lv_imul hx hcd dX7_undo_46 ?_
      refine lv_aload_n hx hcd dX7_undo_47 rfl (lv_at hl 0 rfl) ?_
      refine g_getr hC hW (C := RX7) (T := TX7) (N := 19) (ci := 9) (k := 0) (index := 9) (i := 132) (r := 133) inGX7 rfl (by decide) fl_X7_9 (by decide) rfl rfl dX7_undo_48 ?_
      refine lv_iconst (v := 0) hx hcd dX7_undo_51 (by decide) ?_
      refine lv_sipush (v := 162) hx hcd dX7_undo_52 (by decide) ?_
      obtain ⟨i10, ho⟩ := gd_some ho
      obtain ⟨σ11, eσ11, ho⟩ := lt_ex ho
      refine g_copy hC hW hl.1 ml_X7_58 (i0 := 137) (i1 := 133) (n0 := 972) (n1 := 162) (by decide) (by decide) rfl rfl i10 ac_w ⟨Nat.le_of_ble_eq_true rfl, Nat.le_of_ble_eq_true rfl⟩ dX7_undo_55 (fun H locs hW => ?_)
      rw [← eσ11] at hW
      refine lv_aload_n hx hcd dX7_undo_58 rfl (lv_at hl 0 rfl) ?_
      refine g_geti hC hW (C := RX7) (T := TX7) (N := 19) (ci := 9) (k := 6) (index := 55) (i := 132) inGX7 rfl (by decide) fl_X7_55 (by decide) rfl rfl dX7_undo_59 ?_
      obtain rfl := Option.some.inj ho
      exact g_iret hC hr hlk hsz hW dX7_undo_62
    · have ho := gif_n ho c8
      refine lv_iconst (v := 0) hx hcd dX7_undo_23 (by decide) ?_
      obtain rfl := Option.some.inj ho
      exact g_iret hC hr hlk hsz hW dX7_undo_24
noncomputable def X7_save (σ : gS) : Option (Int32 × gS) :=
  lt_ (g_up σ 132 8 0) fun σ1 => lt_ (g_row σ1 136 (va_cpy (σ1 133) (σ1 136) (0 : Int32).toNatClampNeg (0 : Int32).toNatClampNeg (162 : Int32).toNatClampNeg)) fun σ2 => lt_ (g_up σ2 132 4 1) fun σ3 => some ((σ3 133 (1 : Int32).toNatClampNeg), σ3)
set_option maxHeartbeats 4000000 in
set_option maxRecDepth 100000 in
theorem c_X7_save (l : Launch) (D : va_G) (y : ClassId × ClassId × ClassId) (ad : Nat → Nat) (σ : gS) (sz : Nat) {q : Int32 × gS} (h : X7_save σ = some q) : Met l yX7_save (Cond.code yX7_save cX7_save 1 (some .int) :: gl) ({ frames := 1, cells := 0, slots := 0, locals := 40 }) (g_Pc D y ad σ sz [.ref (ad 132)]) (g_Qi D y ad q.2 sz q.1) 0 0 (g_A ad sz) := by
  have ho := h
  unfold X7_save at ho
  refine g_start (by decide) (Nat.le_of_ble_eq_true rfl) (fun p e s m below meth c ls hC hr hlk hsz hW hl => ?_)
  have hx := hC.1
  have hcd := hC.2.1
  have hl : lv_has ls 1 [(0, .ref (ad 132))] := hl
  refine lv_aload_n hx hcd dX7_save_0 rfl (lv_at hl 0 rfl) ?_
  refine lv_iconst (v := 0) hx hcd dX7_save_1 (by decide) ?_
  obtain ⟨σ1, eσ1, ho⟩ := lt_ex ho
  refine g_puti hC hW (C := RX7) (T := TX7) (N := 19) (ci := 9) (k := 8) (index := 48) (i := 132) inGX7 tyX7 tyX7_ok nmX7 rfl (by decide) fl_X7_48 rfl (by decide) rfl rfl rfl rfl dX7_save_2 (fun H locs hW => ?_)
  rw [← eσ1] at hW
  refine lv_aload_n hx hcd dX7_save_5 rfl (lv_at hl 0 rfl) ?_
  refine g_getr hC hW (C := RX7) (T := TX7) (N := 19) (ci := 9) (k := 0) (index := 9) (i := 132) (r := 133) inGX7 rfl (by decide) fl_X7_9 (by decide) rfl rfl dX7_save_6 ?_
  refine lv_iconst (v := 0) hx hcd dX7_save_9 (by decide) ?_
  refine lv_aload_n hx hcd dX7_save_10 rfl (lv_at hl 0 rfl) ?_
  refine g_getr hC hW (C := RX7) (T := TX7) (N := 19) (ci := 9) (k := 3) (index := 19) (i := 132) (r := 136) inGX7 rfl (by decide) fl_X7_19 (by decide) rfl rfl dX7_save_11 ?_
  refine lv_iconst (v := 0) hx hcd dX7_save_14 (by decide) ?_
  refine lv_sipush (v := 162) hx hcd dX7_save_15 (by decide) ?_
  obtain ⟨σ2, eσ2, ho⟩ := lt_ex ho
  refine g_copy hC hW hl.1 ml_X7_58 (i0 := 133) (i1 := 136) (n0 := 162) (n1 := 162) (by decide) (by decide) rfl rfl (by decide +kernel) ac_w ⟨Nat.le_of_ble_eq_true rfl, Nat.le_of_ble_eq_true rfl⟩ dX7_save_18 (fun H locs hW => ?_)
  rw [← eσ2] at hW
  refine lv_aload_n hx hcd dX7_save_21 rfl (lv_at hl 0 rfl) ?_
  refine lv_iconst (v := 1) hx hcd dX7_save_22 (by decide) ?_
  obtain ⟨σ3, eσ3, ho⟩ := lt_ex ho
  refine g_puti hC hW (C := RX7) (T := TX7) (N := 19) (ci := 9) (k := 4) (index := 259) (i := 132) inGX7 tyX7 tyX7_ok nmX7 rfl (by decide) fl_X7_259 rfl (by decide) rfl rfl rfl rfl dX7_save_23 (fun H locs hW => ?_)
  rw [← eσ3] at hW
  refine lv_aload_n hx hcd dX7_save_26 rfl (lv_at hl 0 rfl) ?_
  refine g_getr hC hW (C := RX7) (T := TX7) (N := 19) (ci := 9) (k := 0) (index := 9) (i := 132) (r := 133) inGX7 rfl (by decide) fl_X7_9 (by decide) rfl rfl dX7_save_27 ?_
  refine lv_iconst (v := 1) hx hcd dX7_save_30 (by decide) ?_
  refine g_iald hC hW (i := 133) (by decide) rfl (by decide) dX7_save_31 ?_
  obtain rfl := Option.some.inj ho
  exact g_iret hC hr hlk hsz hW dX7_save_32
noncomputable def X7_restore (σ : gS) : Option (Int32 × gS) :=
  if (σ 132 4) = 0 then (lt_ (g_up σ 132 8 1) fun σ2 => if (σ2 132 8) ≤ 0 then (lt_ (g_row σ2 133 (va_cpy (σ2 136) (σ2 133) (0 : Int32).toNatClampNeg (0 : Int32).toNatClampNeg (162 : Int32).toNatClampNeg)) fun σ4 => lt_ (g_up σ4 132 6 0) fun σ5 => some ((σ5 133 (1 : Int32).toNatClampNeg), σ5)) else (some (0, σ2))) else (lt_ (g_up σ 132 8 0) fun σ6 => if (σ6 132 8) ≤ 0 then (lt_ (g_row σ6 133 (va_cpy (σ6 136) (σ6 133) (0 : Int32).toNatClampNeg (0 : Int32).toNatClampNeg (162 : Int32).toNatClampNeg)) fun σ8 => lt_ (g_up σ8 132 6 0) fun σ9 => some ((σ9 133 (1 : Int32).toNatClampNeg), σ9)) else (some (0, σ6)))
set_option maxHeartbeats 4000000 in
set_option maxRecDepth 100000 in
theorem c_X7_restore (l : Launch) (D : va_G) (y : ClassId × ClassId × ClassId) (ad : Nat → Nat) (σ : gS) (sz : Nat) {q : Int32 × gS} (h : X7_restore σ = some q) : Met l yX7_restore (Cond.code yX7_restore cX7_restore 1 (some .int) :: gl) ({ frames := 1, cells := 0, slots := 0, locals := 40 }) (g_Pc D y ad σ sz [.ref (ad 132)]) (g_Qi D y ad q.2 sz q.1) 0 0 (g_A ad sz) := by
  have ho := h
  unfold X7_restore at ho
  refine g_start (by decide) (Nat.le_of_ble_eq_true rfl) (fun p e s m below meth c ls hC hr hlk hsz hW hl => ?_)
  have hx := hC.1
  have hcd := hC.2.1
  have hl : lv_has ls 1 [(0, .ref (ad 132))] := hl
  refine lv_aload_n hx hcd dX7_restore_0 rfl (lv_at hl 0 rfl) ?_
  refine lv_aload_n hx hcd dX7_restore_1 rfl (lv_at hl 0 rfl) ?_
  refine g_geti hC hW (C := RX7) (T := TX7) (N := 19) (ci := 9) (k := 4) (index := 259) (i := 132) inGX7 rfl (by decide) fl_X7_259 (by decide) rfl rfl dX7_restore_2 ?_
  refine lv_if_eq (tgt := 12) hx hcd dX7_restore_5 (by decide) (fun c1 => ?_) (fun c1 => ?_)
  · have ho := gif_p ho c1
    refine lv_iconst (v := 1) hx hcd dX7_restore_12 (by decide) ?_
    obtain ⟨σ2, eσ2, ho⟩ := lt_ex ho
    refine g_puti hC hW (C := RX7) (T := TX7) (N := 19) (ci := 9) (k := 8) (index := 48) (i := 132) inGX7 tyX7 tyX7_ok nmX7 rfl (by decide) fl_X7_48 rfl (by decide) rfl rfl rfl rfl dX7_restore_13 (fun H locs hW => ?_)
    rw [← eσ2] at hW
    refine lv_aload_n hx hcd dX7_restore_16 rfl (lv_at hl 0 rfl) ?_
    refine g_geti hC hW (C := RX7) (T := TX7) (N := 19) (ci := 9) (k := 8) (index := 48) (i := 132) inGX7 rfl (by decide) fl_X7_48 (by decide) rfl rfl dX7_restore_17 ?_
    refine lv_if_le (tgt := 25) hx hcd dX7_restore_20 (by decide) (fun c3 => ?_) (fun c3 => ?_)
    · have ho := gif_p ho c3
      refine lv_aload_n hx hcd dX7_restore_25 rfl (lv_at hl 0 rfl) ?_
      refine g_getr hC hW (C := RX7) (T := TX7) (N := 19) (ci := 9) (k := 3) (index := 19) (i := 132) (r := 136) inGX7 rfl (by decide) fl_X7_19 (by decide) rfl rfl dX7_restore_26 ?_
      refine lv_iconst (v := 0) hx hcd dX7_restore_29 (by decide) ?_
      refine lv_aload_n hx hcd dX7_restore_30 rfl (lv_at hl 0 rfl) ?_
      refine g_getr hC hW (C := RX7) (T := TX7) (N := 19) (ci := 9) (k := 0) (index := 9) (i := 132) (r := 133) inGX7 rfl (by decide) fl_X7_9 (by decide) rfl rfl dX7_restore_31 ?_
      refine lv_iconst (v := 0) hx hcd dX7_restore_34 (by decide) ?_
      refine lv_sipush (v := 162) hx hcd dX7_restore_35 (by decide) ?_
      obtain ⟨σ4, eσ4, ho⟩ := lt_ex ho
      refine g_copy hC hW hl.1 ml_X7_58 (i0 := 136) (i1 := 133) (n0 := 162) (n1 := 162) (by decide) (by decide) rfl rfl (by decide +kernel) ac_w ⟨Nat.le_of_ble_eq_true rfl, Nat.le_of_ble_eq_true rfl⟩ dX7_restore_38 (fun H locs hW => ?_)
      rw [← eσ4] at hW
      refine lv_aload_n hx hcd dX7_restore_41 rfl (lv_at hl 0 rfl) ?_
      refine lv_iconst (v := 0) hx hcd dX7_restore_42 (by decide) ?_
      obtain ⟨σ5, eσ5, ho⟩ := lt_ex ho
      refine g_puti hC hW (C := RX7) (T := TX7) (N := 19) (ci := 9) (k := 6) (index := 55) (i := 132) inGX7 tyX7 tyX7_ok nmX7 rfl (by decide) fl_X7_55 rfl (by decide) rfl rfl rfl rfl dX7_restore_43 (fun H locs hW => ?_)
      rw [← eσ5] at hW
      refine lv_aload_n hx hcd dX7_restore_46 rfl (lv_at hl 0 rfl) ?_
      refine g_getr hC hW (C := RX7) (T := TX7) (N := 19) (ci := 9) (k := 0) (index := 9) (i := 132) (r := 133) inGX7 rfl (by decide) fl_X7_9 (by decide) rfl rfl dX7_restore_47 ?_
      refine lv_iconst (v := 1) hx hcd dX7_restore_50 (by decide) ?_
      refine g_iald hC hW (i := 133) (by decide) rfl (by decide) dX7_restore_51 ?_
      obtain rfl := Option.some.inj ho
      exact g_iret hC hr hlk hsz hW dX7_restore_52
    · have ho := gif_n ho c3
      refine lv_iconst (v := 0) hx hcd dX7_restore_23 (by decide) ?_
      obtain rfl := Option.some.inj ho
      exact g_iret hC hr hlk hsz hW dX7_restore_24
  · have ho := gif_n ho c1
    refine lv_iconst (v := 0) hx hcd dX7_restore_8 (by decide) ?_
    refine lv_goto (tgt := 13) hx hcd dX7_restore_9 (by decide) ?_
    obtain ⟨σ6, eσ6, ho⟩ := lt_ex ho
    refine g_puti hC hW (C := RX7) (T := TX7) (N := 19) (ci := 9) (k := 8) (index := 48) (i := 132) inGX7 tyX7 tyX7_ok nmX7 rfl (by decide) fl_X7_48 rfl (by decide) rfl rfl rfl rfl dX7_restore_13 (fun H locs hW => ?_)
    rw [← eσ6] at hW
    refine lv_aload_n hx hcd dX7_restore_16 rfl (lv_at hl 0 rfl) ?_
    refine g_geti hC hW (C := RX7) (T := TX7) (N := 19) (ci := 9) (k := 8) (index := 48) (i := 132) inGX7 rfl (by decide) fl_X7_48 (by decide) rfl rfl dX7_restore_17 ?_
    refine lv_if_le (tgt := 25) hx hcd dX7_restore_20 (by decide) (fun c7 => ?_) (fun c7 => ?_)
    · have ho := gif_p ho c7
      refine lv_aload_n hx hcd dX7_restore_25 rfl (lv_at hl 0 rfl) ?_
      refine g_getr hC hW (C := RX7) (T := TX7) (N := 19) (ci := 9) (k := 3) (index := 19) (i := 132) (r := 136) inGX7 rfl (by decide) fl_X7_19 (by decide) rfl rfl dX7_restore_26 ?_
      refine lv_iconst (v := 0) hx hcd dX7_restore_29 (by decide) ?_
      refine lv_aload_n hx hcd dX7_restore_30 rfl (lv_at hl 0 rfl) ?_
      refine g_getr hC hW (C := RX7) (T := TX7) (N := 19) (ci := 9) (k := 0) (index := 9) (i := 132) (r := 133) inGX7 rfl (by decide) fl_X7_9 (by decide) rfl rfl dX7_restore_31 ?_
      refine lv_iconst (v := 0) hx hcd dX7_restore_34 (by decide) ?_
      refine lv_sipush (v := 162) hx hcd dX7_restore_35 (by decide) ?_
      obtain ⟨σ8, eσ8, ho⟩ := lt_ex ho
      refine g_copy hC hW hl.1 ml_X7_58 (i0 := 136) (i1 := 133) (n0 := 162) (n1 := 162) (by decide) (by decide) rfl rfl (by decide +kernel) ac_w ⟨Nat.le_of_ble_eq_true rfl, Nat.le_of_ble_eq_true rfl⟩ dX7_restore_38 (fun H locs hW => ?_)
      rw [← eσ8] at hW
      refine lv_aload_n hx hcd dX7_restore_41 rfl (lv_at hl 0 rfl) ?_
      refine lv_iconst (v := 0) hx hcd dX7_restore_42 (by decide) ?_
      obtain ⟨σ9, eσ9, ho⟩ := lt_ex ho
      refine g_puti hC hW (C := RX7) (T := TX7) (N := 19) (ci := 9) (k := 6) (index := 55) (i := 132) inGX7 tyX7 tyX7_ok nmX7 rfl (by decide) fl_X7_55 rfl (by decide) rfl rfl rfl rfl dX7_restore_43 (fun H locs hW => ?_)
      rw [← eσ9] at hW
      refine lv_aload_n hx hcd dX7_restore_46 rfl (lv_at hl 0 rfl) ?_
      refine g_getr hC hW (C := RX7) (T := TX7) (N := 19) (ci := 9) (k := 0) (index := 9) (i := 132) (r := 133) inGX7 rfl (by decide) fl_X7_9 (by decide) rfl rfl dX7_restore_47 ?_
      refine lv_iconst (v := 1) hx hcd dX7_restore_50 (by decide) ?_
      refine g_iald hC hW (i := 133) (by decide) rfl (by decide) dX7_restore_51 ?_
      obtain rfl := Option.some.inj ho
      exact g_iret hC hr hlk hsz hW dX7_restore_52
    · have ho := gif_n ho c7
      refine lv_iconst (v := 0) hx hcd dX7_restore_23 (by decide) ?_
      obtain rfl := Option.some.inj ho
      exact g_iret hC hr hlk hsz hW dX7_restore_24
