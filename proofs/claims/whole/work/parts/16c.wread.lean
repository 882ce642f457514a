noncomputable def L_read (σ : gS) (f : (Nat → Int64)) : Option (Int32 × (Nat → Int64) × gS) :=
  (X6_read σ).bind fun q => match q.1 with
  | .inr r => some (0, vp_updL f 0 r.toInt64, q.2)
  | .inl E => if E = "java/lang/IllegalArgumentException" then some (1, f, q.2) else (if E = "java/lang/IllegalStateException" then some (2, f, q.2) else none)
set_option maxHeartbeats 4000000 in
set_option maxRecDepth 100000 in
theorem c_L_read (l : Launch) (hfl : l.stackTraces = false) (D : va_G) (y : ClassId × ClassId × ClassId) (ad : Nat → Nat) (σ : gS) (sz : Nat) (cL : ClassId) (oa : Nat) (f : (Nat → Int64)) {q : Int32 × (Nat → Int64) × gS} (h : L_read σ f = some q) : Met l yL_read (Cond.codeWith yL_read cL_read 3 (some .int) [(0, 8, 11, 13), (0, 8, 14, 15)] :: gl) ({ frames := 8, cells := 1, slots := 6, locals := 167 }) (g_PcL D y ad σ sz (cL, .long) oa (.inl (cL, 1, .inr (.inl f))) [.ref (ad 0), .ref oa]) (g_QL D y ad sz oa (q.1, .inl (cL, 1, .inr (.inl q.2.1)), q.2.2)) 1 6 (g_AL ad oa sz) := by
  have ho := h
  unfold L_read at ho
  obtain ⟨q6, h6, ho⟩ := gb_some ho
  refine g_startL (by decide) (Nat.le_of_ble_eq_true rfl) (fun p e s m below meth c ls hC hr hlk hsz hW hl ht hY hKL => ?_)
  have hx := hC.1
  have hcd := hC.2.1
  have hl : lv_has ls 3 [(0, .ref (ad 0)), (1, .ref oa)] := hl
  refine lv_aload_n hx hcd dL_read_0 rfl (lv_at hl 1 rfl) ?_
  refine lv_iconst (v := 0) hx hcd dL_read_1 (by decide) ?_
  refine lv_aload_n hx hcd dL_read_2 rfl (lv_at hl 0 rfl) ?_
  refine g_callX hW (g_runX (As := []) (rest := [.int 0, .ref oa]) hC hW rfl hY.1 (c_X6_read l hfl D y ad σ _ h6) ok_L_111 ⟨rfl, rfl, Nat.le_of_ble_eq_true rfl, Nat.le_of_ble_eq_true rfl⟩ rfl hl.1 rfl (Nat.le_of_ble_eq_true rfl) dL_read_3 ⟨Nat.le_of_ble_eq_true rfl, Nat.le_of_ble_eq_true rfl⟩) (fun r hr6 H locs hW => ?_) (fun E hE H locs ce q9 hW hce hcv hcl => ?_)
  · have ho : some (0, vp_updL f 0 r.toInt64, q6.2) = some q := by rw [hr6] at ho; exact ho
    obtain rfl := Option.some.inj ho
    refine lv_i2l (v := r.toInt64) hx hcd dL_read_6 rfl ?_
    refine g_last hC hKL hW dL_read_7 (fun H locs hW => ?_)
    refine lv_goto (tgt := 17) hx hcd dL_read_8 (by decide) ?_
    refine lv_iconst (v := 0) hx hcd dL_read_17 (by decide) ?_
    exact g_iretL hC hr hlk hsz hW dL_read_18
  · have ho : (if E = "java/lang/IllegalArgumentException" then some (1, f, q6.2) else (if E = "java/lang/IllegalStateException" then some (2, f, q6.2) else none)) = some q := by rw [hE] at ho; exact ho
    by_cases e0 : E = "java/lang/IllegalArgumentException"
    · have ho := gif_p ho e0
      subst e0
      obtain rfl := Option.some.inj ho
      refine vx_catch hC.2.2.2.1 [] ⟨0, 8, 11, 13⟩ [⟨0, 8, 14, 15⟩] (by rw [ht]; rfl) (fun z hz => absurd hz List.not_mem_nil) rfl (by decide) (hC.2.2.2.2.1 _ lk_13) (va_Nw.use rfl (hY.1.1 _ cst_IllegalArgumentException)) hce hcv hcl ?_
      refine lv_astore_n (lv' := [(2, .ref q9), (0, .ref (ad 0)), (1, .ref oa)]) hx hcd dL_read_11 rfl hl (by decide) rfl (fun ls hl => ?_)
      refine lv_iconst (v := 1) hx hcd dL_read_12 (by decide) ?_
      exact g_iretL hC hr hlk hsz hW dL_read_13
    have ho := gif_n ho e0
    by_cases e1 : E = "java/lang/IllegalStateException"
    · have ho := gif_p ho e1
      subst e1
      obtain rfl := Option.some.inj ho
      refine vx_catch hC.2.2.2.1 [⟨0, 8, 11, 13⟩] ⟨0, 8, 14, 15⟩ [] (by rw [ht]; rfl) (fun z hz => by simp only [List.mem_cons, List.not_mem_nil, or_false] at hz; rcases hz with rfl; exact Or.inr ⟨by decide, _, hC.2.2.2.2.1 _ lk_13, hY.2 ("java/lang/IllegalStateException", "java/lang/IllegalArgumentException") (by decide)⟩) rfl (by decide) (hC.2.2.2.2.1 _ lk_15) (va_Nw.use rfl (hY.1.1 _ cst_IllegalStateException)) hce hcv hcl ?_
      refine lv_astore_n (lv' := [(2, .ref q9), (0, .ref (ad 0)), (1, .ref oa)]) hx hcd dL_read_14 rfl hl (by decide) rfl (fun ls hl => ?_)
      refine lv_iconst (v := 2) hx hcd dL_read_15 (by decide) ?_
      exact g_iretL hC hr hlk hsz hW dL_read_16
    have ho := gif_n ho e1
    cases ho
