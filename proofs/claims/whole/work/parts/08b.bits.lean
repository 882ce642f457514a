noncomputable def J6_bitCount_0f7a4 (σ : gS) (x0 : Int32) : Option (Int32) :=
  lt_ (((x0 - ((ju x0 1) &&& (1431655765 : Int32))) &&& (858993459 : Int32)) + ((ju (x0 - ((ju x0 1) &&& (1431655765 : Int32))) 2) &&& (858993459 : Int32))) fun v1 => lt_ ((((v1 + (ju v1 4)) &&& (252645135 : Int32)) + (ju ((v1 + (ju v1 4)) &&& (252645135 : Int32)) 8)) + (ju (((v1 + (ju v1 4)) &&& (252645135 : Int32)) + (ju ((v1 + (ju v1 4)) &&& (252645135 : Int32)) 8)) 16)) fun v2 => some (v2 &&& (63 : Int32))
set_option maxHeartbeats 4000000 in
set_option maxRecDepth 100000 in
theorem c_J6_bitCount_0f7a4 (l : Launch) (D : va_G) (y : ClassId × ClassId × ClassId) (ad : Nat → Nat) (x0 : Int32) (σ : gS) (sz : Nat) {q : Int32} (h : J6_bitCount_0f7a4 σ x0 = some q) : Met l yJ6_bitCount_0f7a4 (Cond.code yJ6_bitCount_0f7a4 cJ6_bitCount_0f7a4 1 (some .int) :: gl) ({ frames := 0, cells := 0, slots := 0, locals := 0 }) (g_Pc D y ad σ sz [.int x0]) (g_Qi D y ad σ sz q) 0 0 (g_A ad sz) := by
  have ho := h
  unfold J6_bitCount_0f7a4 at ho
  refine g_start (by decide) (Nat.le_of_ble_eq_true rfl) (fun p e s m below meth c ls hC hr hlk hsz hW hl => ?_)
  have hx := hC.1
  have hcd := hC.2.1
  have hl : lv_has ls 1 [(0, .int x0)] := hl
  refine lv_iload_n hx hcd dJ6_bitCount_0f7a4_0 rfl (lv_at hl 0 rfl) ?_
  refine lv_iload_n hx hcd dJ6_bitCount_0f7a4_1 rfl (lv_at hl 0 rfl) ?_
  refine lv_iconst (v := 1) hx hcd dJ6_bitCount_0f7a4_2 (by decide) ?_
  refine lv_iushr (v := ju x0 1) hx hcd dJ6_bitCount_0f7a4_3 rfl ?_
  refine lv_ldcw (v := 1431655765) hx hcd hC.2.2.2.1 (hC.2.2.2.2.1 _ ck_J6_265) dJ6_bitCount_0f7a4_4 ?_
  refine lv_iand hx hcd dJ6_bitCount_0f7a4_7 ?_
  refine lv_isub hx hcd dJ6_bitCount_0f7a4_8 ?_
  refine lv_istore_n (lv' := [(0, .int (x0 - ((ju x0 1) &&& (1431655765 : Int32))))]) hx hcd dJ6_bitCount_0f7a4_9 rfl hl (by decide) rfl (fun ls hl => ?_)
  refine lv_iload_n hx hcd dJ6_bitCount_0f7a4_10 rfl (lv_at hl 0 rfl) ?_
  refine lv_ldcw (v := 858993459) hx hcd hC.2.2.2.1 (hC.2.2.2.2.1 _ ck_J6_266) dJ6_bitCount_0f7a4_11 ?_
  refine lv_iand hx hcd dJ6_bitCount_0f7a4_14 ?_
  refine lv_iload_n hx hcd dJ6_bitCount_0f7a4_15 rfl (lv_at hl 0 rfl) ?_
  refine lv_iconst (v := 2) hx hcd dJ6_bitCount_0f7a4_16 (by decide) ?_
  refine lv_iushr (v := ju (x0 - ((ju x0 1) &&& (1431655765 : Int32))) 2) hx hcd dJ6_bitCount_0f7a4_17 rfl ?_
  refine lv_ldcw (v := 858993459) hx hcd hC.2.2.2.1 (hC.2.2.2.2.1 _ ck_J6_266) dJ6_bitCount_0f7a4_18 ?_
  refine lv_iand hx hcd dJ6_bitCount_0f7a4_21 ?_
  refine lv_iadd hx hcd dJ6_bitCount_0f7a4_22 ?_
  obtain ⟨v1, ev1, ho⟩ := lt_ex ho
  rw [← ev1]
  refine lv_istore_n (lv' := [(0, .int v1)]) hx hcd dJ6_bitCount_0f7a4_23 rfl hl (by decide) rfl (fun ls hl => ?_)
  refine lv_iload_n hx hcd dJ6_bitCount_0f7a4_24 rfl (lv_at hl 0 rfl) ?_
  refine lv_iload_n hx hcd dJ6_bitCount_0f7a4_25 rfl (lv_at hl 0 rfl) ?_
  refine lv_iconst (v := 4) hx hcd dJ6_bitCount_0f7a4_26 (by decide) ?_
  refine lv_iushr (v := ju v1 4) hx hcd dJ6_bitCount_0f7a4_27 rfl ?_
  refine lv_iadd hx hcd dJ6_bitCount_0f7a4_28 ?_
  refine lv_ldcw (v := 252645135) hx hcd hC.2.2.2.1 (hC.2.2.2.2.1 _ ck_J6_267) dJ6_bitCount_0f7a4_29 ?_
  refine lv_iand hx hcd dJ6_bitCount_0f7a4_32 ?_
  refine lv_istore_n (lv' := [(0, .int ((v1 + (ju v1 4)) &&& (252645135 : Int32)))]) hx hcd dJ6_bitCount_0f7a4_33 rfl hl (by decide) rfl (fun ls hl => ?_)
  refine lv_iload_n hx hcd dJ6_bitCount_0f7a4_34 rfl (lv_at hl 0 rfl) ?_
  refine lv_iload_n hx hcd dJ6_bitCount_0f7a4_35 rfl (lv_at hl 0 rfl) ?_
  refine lv_bipush (v := 8) hx hcd dJ6_bitCount_0f7a4_36 (by decide) ?_
  refine lv_iushr (v := ju ((v1 + (ju v1 4)) &&& (252645135 : Int32)) 8) hx hcd dJ6_bitCount_0f7a4_38 rfl ?_
  refine lv_iadd hx hcd dJ6_bitCount_0f7a4_39 ?_
  refine lv_istore_n (lv' := [(0, .int (((v1 + (ju v1 4)) &&& (252645135 : Int32)) + (ju ((v1 + (ju v1 4)) &&& (252645135 : Int32)) 8)))]) hx hcd dJ6_bitCount_0f7a4_40 rfl hl (by decide) rfl (fun ls hl => ?_)
  refine lv_iload_n hx hcd dJ6_bitCount_0f7a4_41 rfl (lv_at hl 0 rfl) ?_
  refine lv_iload_n hx hcd dJ6_bitCount_0f7a4_42 rfl (lv_at hl 0 rfl) ?_
  refine lv_bipush (v := 16) hx hcd dJ6_bitCount_0f7a4_43 (by decide) ?_
  refine lv_iushr (v := ju (((v1 + (ju v1 4)) &&& (252645135 : Int32)) + (ju ((v1 + (ju v1 4)) &&& (252645135 : Int32)) 8)) 16) hx hcd dJ6_bitCount_0f7a4_45 rfl ?_
  refine lv_iadd hx hcd dJ6_bitCount_0f7a4_46 ?_
  obtain ⟨v2, ev2, ho⟩ := lt_ex ho
  rw [← ev2]
  refine lv_istore_n (lv' := [(0, .int v2)]) hx hcd dJ6_bitCount_0f7a4_47 rfl hl (by decide) rfl (fun ls hl => ?_)
  refine lv_iload_n hx hcd dJ6_bitCount_0f7a4_48 rfl (lv_at hl 0 rfl) ?_
  refine lv_bipush (v := 63) hx hcd dJ6_bitCount_0f7a4_49 (by decide) ?_
  refine lv_iand hx hcd dJ6_bitCount_0f7a4_51 ?_
  obtain rfl := Option.some.inj ho
  exact g_iret hC hr hlk hsz hW dJ6_bitCount_0f7a4_52
