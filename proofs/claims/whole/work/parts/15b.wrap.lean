/-- a double that is a number -/
def n64 (r : UInt64) : Bool := decide (r &&& 0x7fffffffffffffff ≤ 0x7ff0000000000000)
theorem n64_v {r : UInt64} (h : n64 r = true) : vf_n64 r := by
  unfold n64 at h
  have h2 : r &&& 0x7fffffffffffffff ≤ 0x7ff0000000000000 := by simpa using h
  exact h2
noncomputable def L_addStand (σ : gS) (f : (Nat → Int64)) (x1 : Int32) (x2 : Int32) : Option (Int32 × (Nat → Int64) × gS) :=
  (X6_addStand σ x1 x2).bind fun q => match q.1 with
  | .inr r => some (0, vp_updL f 0 r.toInt64, q.2)
  | .inl E => if E = "java/lang/IllegalArgumentException" then some (1, f, q.2) else (if E = "java/lang/IllegalStateException" then some (2, f, q.2) else none)
set_option maxHeartbeats 4000000 in
set_option maxRecDepth 100000 in
theorem c_L_addStand (l : Launch) (hfl : l.stackTraces = false) (D : va_G) (y : ClassId × ClassId × ClassId) (ad : Nat → Nat) (x1 : Int32) (x2 : Int32) (σ : gS) (sz : Nat) (cL : ClassId) (oa : Nat) (f : (Nat → Int64)) {q : Int32 × (Nat → Int64) × gS} (h : L_addStand σ f x1 x2 = some q) : Met l yL_addStand (Cond.codeWith yL_addStand cL_addStand 5 (some .int) [(0, 10, 13, 13), (0, 10, 17, 15)] :: gl) ({ frames := 8, cells := 1, slots := 6, locals := 122 }) (g_PcL D y ad σ sz (cL, .long) oa (.inl (cL, 1, .inr (.inl f))) [.ref (ad 0), .int x1, .int x2, .ref oa]) (g_QL D y ad sz oa (q.1, .inl (cL, 1, .inr (.inl q.2.1)), q.2.2)) 1 6 (g_AL ad oa sz) := by
  have ho := h
  unfold L_addStand at ho
  obtain ⟨q6, h6, ho⟩ := gb_some ho
  refine g_startL (by decide) (Nat.le_of_ble_eq_true rfl) (fun p e s m below meth c ls hC hr hlk hsz hW hl ht hY hKL => ?_)
  have hx := hC.1
  have hcd := hC.2.1
  have hl : lv_has ls 5 [(0, .ref (ad 0)), (1, .int x1), (2, .int x2), (3, .ref oa)] := hl
  refine lv_aload_n hx hcd dL_addStand_0 rfl (lv_at hl 3 rfl) ?_
  refine lv_iconst (v := 0) hx hcd dL_addStand_1 (by decide) ?_
  refine lv_aload_n hx hcd dL_addStand_2 rfl (lv_at hl 0 rfl) ?_
  refine lv_iload_n hx hcd dL_addStand_3 rfl (lv_at hl 1 rfl) ?_
  refine lv_iload_n hx hcd dL_addStand_4 rfl (lv_at hl 2 rfl) ?_
  refine g_callX hW (g_runX (As := [.int x1, .int x2]) (rest := [.int 0, .ref oa]) hC hW rfl hY.1 (c_X6_addStand l hfl D y ad x1 x2 σ _ h6) ok_L_7 ⟨rfl, rfl, Nat.le_of_ble_eq_true rfl, Nat.le_of_ble_eq_true rfl⟩ rfl hl.1 rfl (Nat.le_of_ble_eq_true rfl) dL_addStand_5 ⟨Nat.le_of_ble_eq_true rfl, Nat.le_of_ble_eq_true rfl⟩) (fun r hr6 H locs hW => ?_) (fun E hE H locs ce q9 hW hce hcv hcl => ?_)
  · have ho : some (0, vp_updL f 0 r.toInt64, q6.2) = some q := by rw [hr6] at ho; exact ho
    obtain rfl := Option.some.inj ho
    refine lv_i2l (v := r.toInt64) hx hcd dL_addStand_8 rfl ?_
    refine g_last hC hKL hW dL_addStand_9 (fun H locs hW => ?_)
    refine lv_goto (tgt := 21) hx hcd dL_addStand_10 (by decide) ?_
    refine lv_iconst (v := 0) hx hcd dL_addStand_21 (by decide) ?_
    exact g_iretL hC hr hlk hsz hW dL_addStand_22
  · have ho : (if E = "java/lang/IllegalArgumentException" then some (1, f, q6.2) else (if E = "java/lang/IllegalStateException" then some (2, f, q6.2) else none)) = some q := by rw [hE] at ho; exact ho
    by_cases e0 : E = "java/lang/IllegalArgumentException"
    · have ho := gif_p ho e0
      subst e0
      obtain rfl := Option.some.inj ho
      refine vx_catch hC.2.2.2.1 [] ⟨0, 10, 13, 13⟩ [⟨0, 10, 17, 15⟩] (by rw [ht]; rfl) (fun z hz => absurd hz List.not_mem_nil) rfl (by decide) (hC.2.2.2.2.1 _ lk_13) (va_Nw.use rfl (hY.1.1 _ cst_IllegalArgumentException)) hce hcv hcl ?_
      refine lv_astore (lv' := [(4, .ref q9), (0, .ref (ad 0)), (1, .int x1), (2, .int x2), (3, .ref oa)]) hx hcd dL_addStand_13 hl (by decide) rfl (fun ls hl => ?_)
      refine lv_iconst (v := 1) hx hcd dL_addStand_15 (by decide) ?_
      exact g_iretL hC hr hlk hsz hW dL_addStand_16
    have ho := gif_n ho e0
    by_cases e1 : E = "java/lang/IllegalStateException"
    · have ho := gif_p ho e1
      subst e1
      obtain rfl := Option.some.inj ho
      refine vx_catch hC.2.2.2.1 [⟨0, 10, 13, 13⟩] ⟨0, 10, 17, 15⟩ [] (by rw [ht]; rfl) (fun z hz => by simp only [List.mem_cons, List.not_mem_nil, or_false] at hz; rcases hz with rfl; exact Or.inr ⟨by decide, _, hC.2.2.2.2.1 _ lk_13, hY.2 ("java/lang/IllegalStateException", "java/lang/IllegalArgumentException") (by decide)⟩) rfl (by decide) (hC.2.2.2.2.1 _ lk_15) (va_Nw.use rfl (hY.1.1 _ cst_IllegalStateException)) hce hcv hcl ?_
      refine lv_astore (lv' := [(4, .ref q9), (0, .ref (ad 0)), (1, .int x1), (2, .int x2), (3, .ref oa)]) hx hcd dL_addStand_17 hl (by decide) rfl (fun ls hl => ?_)
      refine lv_iconst (v := 2) hx hcd dL_addStand_19 (by decide) ?_
      exact g_iretL hC hr hlk hsz hW dL_addStand_20
    have ho := gif_n ho e1
    cases ho
noncomputable def L_pair (σ : gS) (f : (Nat → Int64)) (x1 : Int32) (x2 : Int32) (x3 : Int32) : Option (Int32 × (Nat → Int64) × gS) :=
  (X6_pair σ x1 x2 x3).bind fun q => match q.1 with
  | .inr r => some (0, vp_updL f 0 r.toInt64, q.2)
  | .inl E => if E = "java/lang/IndexOutOfBoundsException" then some (1, f, q.2) else (if E = "java/lang/IllegalArgumentException" then some (2, f, q.2) else none)
set_option maxHeartbeats 4000000 in
set_option maxRecDepth 100000 in
theorem c_L_pair (l : Launch) (hfl : l.stackTraces = false) (D : va_G) (y : ClassId × ClassId × ClassId) (ad : Nat → Nat) (x1 : Int32) (x2 : Int32) (x3 : Int32) (σ : gS) (sz : Nat) (cL : ClassId) (oa : Nat) (f : (Nat → Int64)) {q : Int32 × (Nat → Int64) × gS} (h : L_pair σ f x1 x2 x3 = some q) : Met l yL_pair (Cond.codeWith yL_pair cL_pair 6 (some .int) [(0, 12, 15, 21), (0, 12, 19, 13)] :: gl) ({ frames := 8, cells := 1, slots := 6, locals := 123 }) (g_PcL D y ad σ sz (cL, .long) oa (.inl (cL, 1, .inr (.inl f))) [.ref (ad 0), .int x1, .int x2, .int x3, .ref oa]) (g_QL D y ad sz oa (q.1, .inl (cL, 1, .inr (.inl q.2.1)), q.2.2)) 1 6 (g_AL ad oa sz) := by
  have ho := h
  unfold L_pair at ho
  obtain ⟨q6, h6, ho⟩ := gb_some ho
  refine g_startL (by decide) (Nat.le_of_ble_eq_true rfl) (fun p e s m below meth c ls hC hr hlk hsz hW hl ht hY hKL => ?_)
  have hx := hC.1
  have hcd := hC.2.1
  have hl : lv_has ls 6 [(0, .ref (ad 0)), (1, .int x1), (2, .int x2), (3, .int x3), (4, .ref oa)] := hl
  refine lv_aload hx hcd dL_pair_0 (lv_at hl 4 rfl) ?_
  refine lv_iconst (v := 0) hx hcd dL_pair_2 (by decide) ?_
  refine lv_aload_n hx hcd dL_pair_3 rfl (lv_at hl 0 rfl) ?_
  refine lv_iload_n hx hcd dL_pair_4 rfl (lv_at hl 1 rfl) ?_
  refine lv_iload_n hx hcd dL_pair_5 rfl (lv_at hl 2 rfl) ?_
  refine lv_iload_n hx hcd dL_pair_6 rfl (lv_at hl 3 rfl) ?_
  refine g_callX hW (g_runX (As := [.int x1, .int x2, .int x3]) (rest := [.int 0, .ref oa]) hC hW rfl hY.1 (c_X6_pair l hfl D y ad x1 x2 x3 σ _ h6) ok_L_17 ⟨rfl, rfl, Nat.le_of_ble_eq_true rfl, Nat.le_of_ble_eq_true rfl⟩ rfl hl.1 rfl (Nat.le_of_ble_eq_true rfl) dL_pair_7 ⟨Nat.le_of_ble_eq_true rfl, Nat.le_of_ble_eq_true rfl⟩) (fun r hr6 H locs hW => ?_) (fun E hE H locs ce q9 hW hce hcv hcl => ?_)
  · have ho : some (0, vp_updL f 0 r.toInt64, q6.2) = some q := by rw [hr6] at ho; exact ho
    obtain rfl := Option.some.inj ho
    refine lv_i2l (v := r.toInt64) hx hcd dL_pair_10 rfl ?_
    refine g_last hC hKL hW dL_pair_11 (fun H locs hW => ?_)
    refine lv_goto (tgt := 23) hx hcd dL_pair_12 (by decide) ?_
    refine lv_iconst (v := 0) hx hcd dL_pair_23 (by decide) ?_
    exact g_iretL hC hr hlk hsz hW dL_pair_24
  · have ho : (if E = "java/lang/IndexOutOfBoundsException" then some (1, f, q6.2) else (if E = "java/lang/IllegalArgumentException" then some (2, f, q6.2) else none)) = some q := by rw [hE] at ho; exact ho
    by_cases e0 : E = "java/lang/IndexOutOfBoundsException"
    · have ho := gif_p ho e0
      subst e0
      obtain rfl := Option.some.inj ho
      refine vx_catch hC.2.2.2.1 [] ⟨0, 12, 15, 21⟩ [⟨0, 12, 19, 13⟩] (by rw [ht]; rfl) (fun z hz => absurd hz List.not_mem_nil) rfl (by decide) (hC.2.2.2.2.1 _ lk_21) (va_Nw.use rfl (hY.1.1 _ cst_IndexOutOfBoundsException)) hce hcv hcl ?_
      refine lv_astore (lv' := [(5, .ref q9), (0, .ref (ad 0)), (1, .int x1), (2, .int x2), (3, .int x3), (4, .ref oa)]) hx hcd dL_pair_15 hl (by decide) rfl (fun ls hl => ?_)
      refine lv_iconst (v := 1) hx hcd dL_pair_17 (by decide) ?_
      exact g_iretL hC hr hlk hsz hW dL_pair_18
    have ho := gif_n ho e0
    by_cases e1 : E = "java/lang/IllegalArgumentException"
    · have ho := gif_p ho e1
      subst e1
      obtain rfl := Option.some.inj ho
      refine vx_catch hC.2.2.2.1 [⟨0, 12, 15, 21⟩] ⟨0, 12, 19, 13⟩ [] (by rw [ht]; rfl) (fun z hz => by simp only [List.mem_cons, List.not_mem_nil, or_false] at hz; rcases hz with rfl; exact Or.inr ⟨by decide, _, hC.2.2.2.2.1 _ lk_21, hY.2 ("java/lang/IllegalArgumentException", "java/lang/IndexOutOfBoundsException") (by decide)⟩) rfl (by decide) (hC.2.2.2.2.1 _ lk_13) (va_Nw.use rfl (hY.1.1 _ cst_IllegalArgumentException)) hce hcv hcl ?_
      refine lv_astore (lv' := [(5, .ref q9), (0, .ref (ad 0)), (1, .int x1), (2, .int x2), (3, .int x3), (4, .ref oa)]) hx hcd dL_pair_19 hl (by decide) rfl (fun ls hl => ?_)
      refine lv_iconst (v := 2) hx hcd dL_pair_21 (by decide) ?_
      exact g_iretL hC hr hlk hsz hW dL_pair_22
    have ho := gif_n ho e1
    cases ho
noncomputable def L_setOpen (σ : gS) (f : (Nat → Int64)) (x1 : Int32) (x2 : Int32) : Option (Int32 × (Nat → Int64) × gS) :=
  (X6_setOpen σ x1 x2).bind fun q => match q.1 with
  | .inr r => some (0, vp_updL f 0 (if r = 0 then 0 else 1), q.2)
  | .inl E => if E = "java/lang/IndexOutOfBoundsException" then some (1, f, q.2) else none
set_option maxHeartbeats 4000000 in
set_option maxRecDepth 100000 in
theorem c_L_setOpen (l : Launch) (hfl : l.stackTraces = false) (D : va_G) (y : ClassId × ClassId × ClassId) (ad : Nat → Nat) (x1 : Int32) (x2 : Int32) (σ : gS) (sz : Nat) (cL : ClassId) (oa : Nat) (f : (Nat → Int64)) {q : Int32 × (Nat → Int64) × gS} (h : L_setOpen σ f x1 x2 = some q) : Met l yL_setOpen (Cond.codeWith yL_setOpen cL_setOpen 5 (some .int) [(0, 17, 20, 21)] :: gl) ({ frames := 8, cells := 1, slots := 6, locals := 122 }) (g_PcL D y ad σ sz (cL, .long) oa (.inl (cL, 1, .inr (.inl f))) [.ref (ad 0), .int x1, .int x2, .ref oa]) (g_QL D y ad sz oa (q.1, .inl (cL, 1, .inr (.inl q.2.1)), q.2.2)) 1 6 (g_AL ad oa sz) := by
  have ho := h
  unfold L_setOpen at ho
  obtain ⟨q6, h6, ho⟩ := gb_some ho
  refine g_startL (by decide) (Nat.le_of_ble_eq_true rfl) (fun p e s m below meth c ls hC hr hlk hsz hW hl ht hY hKL => ?_)
  have hx := hC.1
  have hcd := hC.2.1
  have hl : lv_has ls 5 [(0, .ref (ad 0)), (1, .int x1), (2, .int x2), (3, .ref oa)] := hl
  refine lv_aload_n hx hcd dL_setOpen_0 rfl (lv_at hl 3 rfl) ?_
  refine lv_iconst (v := 0) hx hcd dL_setOpen_1 (by decide) ?_
  refine lv_aload_n hx hcd dL_setOpen_2 rfl (lv_at hl 0 rfl) ?_
  refine lv_iload_n hx hcd dL_setOpen_3 rfl (lv_at hl 1 rfl) ?_
  refine lv_iload_n hx hcd dL_setOpen_4 rfl (lv_at hl 2 rfl) ?_
  refine g_callX hW (g_runX (As := [.int x1, .int x2]) (rest := [.int 0, .ref oa]) hC hW rfl hY.1 (c_X6_setOpen l hfl D y ad x1 x2 σ _ h6) ok_L_23 ⟨rfl, rfl, Nat.le_of_ble_eq_true rfl, Nat.le_of_ble_eq_true rfl⟩ rfl hl.1 rfl (Nat.le_of_ble_eq_true rfl) dL_setOpen_5 ⟨Nat.le_of_ble_eq_true rfl, Nat.le_of_ble_eq_true rfl⟩) (fun r hr6 H locs hW => ?_) (fun E hE H locs ce q9 hW hce hcv hcl => ?_)
  · have ho : some (0, vp_updL f 0 (if r = 0 then 0 else 1), q6.2) = some q := by rw [hr6] at ho; exact ho
    obtain rfl := Option.some.inj ho
    refine lv_if_eq (tgt := 15) hx hcd dL_setOpen_8 (by decide) (fun c1 => ?_) (fun c1 => ?_)
    · rw [if_pos c1]
      refine lv_lconst (v := 0) hx hcd dL_setOpen_15 (by decide) ?_
      refine g_last hC hKL hW dL_setOpen_16 (fun H locs hW => ?_)
      refine lv_goto (tgt := 24) hx hcd dL_setOpen_17 (by decide) ?_
      refine lv_iconst (v := 0) hx hcd dL_setOpen_24 (by decide) ?_
      exact g_iretL hC hr hlk hsz hW dL_setOpen_25
    · rw [if_neg c1]
      refine lv_lconst (v := 1) hx hcd dL_setOpen_11 (by decide) ?_
      refine lv_goto (tgt := 16) hx hcd dL_setOpen_12 (by decide) ?_
      refine g_last hC hKL hW dL_setOpen_16 (fun H locs hW => ?_)
      refine lv_goto (tgt := 24) hx hcd dL_setOpen_17 (by decide) ?_
      refine lv_iconst (v := 0) hx hcd dL_setOpen_24 (by decide) ?_
      exact g_iretL hC hr hlk hsz hW dL_setOpen_25
  · have ho : (if E = "java/lang/IndexOutOfBoundsException" then some (1, f, q6.2) else none) = some q := by rw [hE] at ho; exact ho
    by_cases e0 : E = "java/lang/IndexOutOfBoundsException"
    · have ho := gif_p ho e0
      subst e0
      obtain rfl := Option.some.inj ho
      refine vx_catch hC.2.2.2.1 [] ⟨0, 17, 20, 21⟩ [] (by rw [ht]; rfl) (fun z hz => absurd hz List.not_mem_nil) rfl (by decide) (hC.2.2.2.2.1 _ lk_21) (va_Nw.use rfl (hY.1.1 _ cst_IndexOutOfBoundsException)) hce hcv hcl ?_
      refine lv_astore (lv' := [(4, .ref q9), (0, .ref (ad 0)), (1, .int x1), (2, .int x2), (3, .ref oa)]) hx hcd dL_setOpen_20 hl (by decide) rfl (fun ls hl => ?_)
      refine lv_iconst (v := 1) hx hcd dL_setOpen_22 (by decide) ?_
      exact g_iretL hC hr hlk hsz hW dL_setOpen_23
    have ho := gif_n ho e0
    cases ho
noncomputable def L_setBuffer (σ : gS) (f : (Nat → Int64)) (x1 : Int32) : Option (Int32 × (Nat → Int64) × gS) :=
  (X6_setBuffer σ x1).bind fun q => match q.1 with
  | .inr r => some (0, vp_updL f 0 r.toInt64, q.2)
  | .inl E => if E = "java/lang/IllegalArgumentException" then some (1, f, q.2) else none
set_option maxHeartbeats 4000000 in
set_option maxRecDepth 100000 in
theorem c_L_setBuffer (l : Launch) (hfl : l.stackTraces = false) (D : va_G) (y : ClassId × ClassId × ClassId) (ad : Nat → Nat) (x1 : Int32) (σ : gS) (sz : Nat) (cL : ClassId) (oa : Nat) (f : (Nat → Int64)) {q : Int32 × (Nat → Int64) × gS} (h : L_setBuffer σ f x1 = some q) : Met l yL_setBuffer (Cond.codeWith yL_setBuffer cL_setBuffer 4 (some .int) [(0, 9, 12, 13)] :: gl) ({ frames := 8, cells := 1, slots := 6, locals := 122 }) (g_PcL D y ad σ sz (cL, .long) oa (.inl (cL, 1, .inr (.inl f))) [.ref (ad 0), .int x1, .ref oa]) (g_QL D y ad sz oa (q.1, .inl (cL, 1, .inr (.inl q.2.1)), q.2.2)) 1 6 (g_AL ad oa sz) := by
  have ho := h
  unfold L_setBuffer at ho
  obtain ⟨q6, h6, ho⟩ := gb_some ho
  refine g_startL (by decide) (Nat.le_of_ble_eq_true rfl) (fun p e s m below meth c ls hC hr hlk hsz hW hl ht hY hKL => ?_)
  have hx := hC.1
  have hcd := hC.2.1
  have hl : lv_has ls 4 [(0, .ref (ad 0)), (1, .int x1), (2, .ref oa)] := hl
  refine lv_aload_n hx hcd dL_setBuffer_0 rfl (lv_at hl 2 rfl) ?_
  refine lv_iconst (v := 0) hx hcd dL_setBuffer_1 (by decide) ?_
  refine lv_aload_n hx hcd dL_setBuffer_2 rfl (lv_at hl 0 rfl) ?_
  refine lv_iload_n hx hcd dL_setBuffer_3 rfl (lv_at hl 1 rfl) ?_
  refine g_callX hW (g_runX (As := [.int x1]) (rest := [.int 0, .ref oa]) hC hW rfl hY.1 (c_X6_setBuffer l hfl D y ad x1 σ _ h6) ok_L_27 ⟨rfl, rfl, Nat.le_of_ble_eq_true rfl, Nat.le_of_ble_eq_true rfl⟩ rfl hl.1 rfl (Nat.le_of_ble_eq_true rfl) dL_setBuffer_4 ⟨Nat.le_of_ble_eq_true rfl, Nat.le_of_ble_eq_true rfl⟩) (fun r hr6 H locs hW => ?_) (fun E hE H locs ce q9 hW hce hcv hcl => ?_)
  · have ho : some (0, vp_updL f 0 r.toInt64, q6.2) = some q := by rw [hr6] at ho; exact ho
    obtain rfl := Option.some.inj ho
    refine lv_i2l (v := r.toInt64) hx hcd dL_setBuffer_7 rfl ?_
    refine g_last hC hKL hW dL_setBuffer_8 (fun H locs hW => ?_)
    refine lv_goto (tgt := 15) hx hcd dL_setBuffer_9 (by decide) ?_
    refine lv_iconst (v := 0) hx hcd dL_setBuffer_15 (by decide) ?_
    exact g_iretL hC hr hlk hsz hW dL_setBuffer_16
  · have ho : (if E = "java/lang/IllegalArgumentException" then some (1, f, q6.2) else none) = some q := by rw [hE] at ho; exact ho
    by_cases e0 : E = "java/lang/IllegalArgumentException"
    · have ho := gif_p ho e0
      subst e0
      obtain rfl := Option.some.inj ho
      refine vx_catch hC.2.2.2.1 [] ⟨0, 9, 12, 13⟩ [] (by rw [ht]; rfl) (fun z hz => absurd hz List.not_mem_nil) rfl (by decide) (hC.2.2.2.2.1 _ lk_13) (va_Nw.use rfl (hY.1.1 _ cst_IllegalArgumentException)) hce hcv hcl ?_
      refine lv_astore_n (lv' := [(3, .ref q9), (0, .ref (ad 0)), (1, .int x1), (2, .ref oa)]) hx hcd dL_setBuffer_12 rfl hl (by decide) rfl (fun ls hl => ?_)
      refine lv_iconst (v := 1) hx hcd dL_setBuffer_13 (by decide) ?_
      exact g_iretL hC hr hlk hsz hW dL_setBuffer_14
    have ho := gif_n ho e0
    cases ho
noncomputable def L_stand (σ : gS) (f : (Nat → Int64)) (x1 : Int32) (x2 : Int32) : Option (Int32 × (Nat → Int64) × gS) :=
  (X6_stand σ x1 x2).bind fun q => match q.1 with
  | .inr r => some (0, vp_updL f 0 r.toInt64, q.2)
  | .inl E => if E = "java/lang/IndexOutOfBoundsException" then some (1, f, q.2) else (if E = "java/lang/IllegalArgumentException" then some (2, f, q.2) else none)
set_option maxHeartbeats 4000000 in
set_option maxRecDepth 100000 in
theorem c_L_stand (l : Launch) (hfl : l.stackTraces = false) (D : va_G) (y : ClassId × ClassId × ClassId) (ad : Nat → Nat) (x1 : Int32) (x2 : Int32) (σ : gS) (sz : Nat) (cL : ClassId) (oa : Nat) (f : (Nat → Int64)) {q : Int32 × (Nat → Int64) × gS} (h : L_stand σ f x1 x2 = some q) : Met l yL_stand (Cond.codeWith yL_stand cL_stand 5 (some .int) [(0, 10, 13, 21), (0, 10, 17, 13)] :: gl) ({ frames := 8, cells := 1, slots := 6, locals := 137 }) (g_PcL D y ad σ sz (cL, .long) oa (.inl (cL, 1, .inr (.inl f))) [.ref (ad 0), .int x1, .int x2, .ref oa]) (g_QL D y ad sz oa (q.1, .inl (cL, 1, .inr (.inl q.2.1)), q.2.2)) 1 6 (g_AL ad oa sz) := by
  have ho := h
  unfold L_stand at ho
  obtain ⟨q6, h6, ho⟩ := gb_some ho
  refine g_startL (by decide) (Nat.le_of_ble_eq_true rfl) (fun p e s m below meth c ls hC hr hlk hsz hW hl ht hY hKL => ?_)
  have hx := hC.1
  have hcd := hC.2.1
  have hl : lv_has ls 5 [(0, .ref (ad 0)), (1, .int x1), (2, .int x2), (3, .ref oa)] := hl
  refine lv_aload_n hx hcd dL_stand_0 rfl (lv_at hl 3 rfl) ?_
  refine lv_iconst (v := 0) hx hcd dL_stand_1 (by decide) ?_
  refine lv_aload_n hx hcd dL_stand_2 rfl (lv_at hl 0 rfl) ?_
  refine lv_iload_n hx hcd dL_stand_3 rfl (lv_at hl 1 rfl) ?_
  refine lv_iload_n hx hcd dL_stand_4 rfl (lv_at hl 2 rfl) ?_
  refine g_callX hW (g_runX (As := [.int x1, .int x2]) (rest := [.int 0, .ref oa]) hC hW rfl hY.1 (c_X6_stand l hfl D y ad x1 x2 σ _ h6) ok_L_31 ⟨rfl, rfl, Nat.le_of_ble_eq_true rfl, Nat.le_of_ble_eq_true rfl⟩ rfl hl.1 rfl (Nat.le_of_ble_eq_true rfl) dL_stand_5 ⟨Nat.le_of_ble_eq_true rfl, Nat.le_of_ble_eq_true rfl⟩) (fun r hr6 H locs hW => ?_) (fun E hE H locs ce q9 hW hce hcv hcl => ?_)
  · have ho : some (0, vp_updL f 0 r.toInt64, q6.2) = some q := by rw [hr6] at ho; exact ho
    obtain rfl := Option.some.inj ho
    refine lv_i2l (v := r.toInt64) hx hcd dL_stand_8 rfl ?_
    refine g_last hC hKL hW dL_stand_9 (fun H locs hW => ?_)
    refine lv_goto (tgt := 21) hx hcd dL_stand_10 (by decide) ?_
    refine lv_iconst (v := 0) hx hcd dL_stand_21 (by decide) ?_
    exact g_iretL hC hr hlk hsz hW dL_stand_22
  · have ho : (if E = "java/lang/IndexOutOfBoundsException" then some (1, f, q6.2) else (if E = "java/lang/IllegalArgumentException" then some (2, f, q6.2) else none)) = some q := by rw [hE] at ho; exact ho
    by_cases e0 : E = "java/lang/IndexOutOfBoundsException"
    · have ho := gif_p ho e0
      subst e0
      obtain rfl := Option.some.inj ho
      refine vx_catch hC.2.2.2.1 [] ⟨0, 10, 13, 21⟩ [⟨0, 10, 17, 13⟩] (by rw [ht]; rfl) (fun z hz => absurd hz List.not_mem_nil) rfl (by decide) (hC.2.2.2.2.1 _ lk_21) (va_Nw.use rfl (hY.1.1 _ cst_IndexOutOfBoundsException)) hce hcv hcl ?_
      refine lv_astore (lv' := [(4, .ref q9), (0, .ref (ad 0)), (1, .int x1), (2, .int x2), (3, .ref oa)]) hx hcd dL_stand_13 hl (by decide) rfl (fun ls hl => ?_)
      refine lv_iconst (v := 1) hx hcd dL_stand_15 (by decide) ?_
      exact g_iretL hC hr hlk hsz hW dL_stand_16
    have ho := gif_n ho e0
    by_cases e1 : E = "java/lang/IllegalArgumentException"
    · have ho := gif_p ho e1
      subst e1
      obtain rfl := Option.some.inj ho
      refine vx_catch hC.2.2.2.1 [⟨0, 10, 13, 21⟩] ⟨0, 10, 17, 13⟩ [] (by rw [ht]; rfl) (fun z hz => by simp only [List.mem_cons, List.not_mem_nil, or_false] at hz; rcases hz with rfl; exact Or.inr ⟨by decide, _, hC.2.2.2.2.1 _ lk_21, hY.2 ("java/lang/IllegalArgumentException", "java/lang/IndexOutOfBoundsException") (by decide)⟩) rfl (by decide) (hC.2.2.2.2.1 _ lk_13) (va_Nw.use rfl (hY.1.1 _ cst_IllegalArgumentException)) hce hcv hcl ?_
      refine lv_astore (lv' := [(4, .ref q9), (0, .ref (ad 0)), (1, .int x1), (2, .int x2), (3, .ref oa)]) hx hcd dL_stand_17 hl (by decide) rfl (fun ls hl => ?_)
      refine lv_iconst (v := 2) hx hcd dL_stand_19 (by decide) ?_
      exact g_iretL hC hr hlk hsz hW dL_stand_20
    have ho := gif_n ho e1
    cases ho
noncomputable def L_at (σ : gS) (f : (Nat → Int64)) (x1 : Int32) (x2 : Int32) : Option (Int32 × (Nat → Int64) × gS) :=
  (X6_at σ x1 x2).bind fun q => match q.1 with
  | .inr r => some (0, vp_updL f 0 r.toInt64, q.2)
  | .inl E => if E = "java/lang/IndexOutOfBoundsException" then some (1, f, q.2) else (if E = "java/lang/IllegalArgumentException" then some (2, f, q.2) else (if E = "java/util/NoSuchElementException" then some (3, f, q.2) else none))
set_option maxHeartbeats 4000000 in
set_option maxRecDepth 100000 in
theorem c_L_at (l : Launch) (hfl : l.stackTraces = false) (D : va_G) (y : ClassId × ClassId × ClassId) (ad : Nat → Nat) (x1 : Int32) (x2 : Int32) (σ : gS) (sz : Nat) (cL : ClassId) (oa : Nat) (f : (Nat → Int64)) {q : Int32 × (Nat → Int64) × gS} (h : L_at σ f x1 x2 = some q) : Met l yL_at (Cond.codeWith yL_at cL_at 5 (some .int) [(0, 10, 13, 21), (0, 10, 17, 13), (0, 10, 21, 37)] :: gl) ({ frames := 8, cells := 1, slots := 6, locals := 123 }) (g_PcL D y ad σ sz (cL, .long) oa (.inl (cL, 1, .inr (.inl f))) [.ref (ad 0), .int x1, .int x2, .ref oa]) (g_QL D y ad sz oa (q.1, .inl (cL, 1, .inr (.inl q.2.1)), q.2.2)) 1 6 (g_AL ad oa sz) := by
  have ho := h
  unfold L_at at ho
  obtain ⟨q6, h6, ho⟩ := gb_some ho
  refine g_startL (by decide) (Nat.le_of_ble_eq_true rfl) (fun p e s m below meth c ls hC hr hlk hsz hW hl ht hY hKL => ?_)
  have hx := hC.1
  have hcd := hC.2.1
  have hl : lv_has ls 5 [(0, .ref (ad 0)), (1, .int x1), (2, .int x2), (3, .ref oa)] := hl
  refine lv_aload_n hx hcd dL_at_0 rfl (lv_at hl 3 rfl) ?_
  refine lv_iconst (v := 0) hx hcd dL_at_1 (by decide) ?_
  refine lv_aload_n hx hcd dL_at_2 rfl (lv_at hl 0 rfl) ?_
  refine lv_iload_n hx hcd dL_at_3 rfl (lv_at hl 1 rfl) ?_
  refine lv_iload_n hx hcd dL_at_4 rfl (lv_at hl 2 rfl) ?_
  refine g_callX hW (g_runX (As := [.int x1, .int x2]) (rest := [.int 0, .ref oa]) hC hW rfl hY.1 (c_X6_at l hfl D y ad x1 x2 σ _ h6) ok_L_34 ⟨rfl, rfl, Nat.le_of_ble_eq_true rfl, Nat.le_of_ble_eq_true rfl⟩ rfl hl.1 rfl (Nat.le_of_ble_eq_true rfl) dL_at_5 ⟨Nat.le_of_ble_eq_true rfl, Nat.le_of_ble_eq_true rfl⟩) (fun r hr6 H locs hW => ?_) (fun E hE H locs ce q9 hW hce hcv hcl => ?_)
  · have ho : some (0, vp_updL f 0 r.toInt64, q6.2) = some q := by rw [hr6] at ho; exact ho
    obtain rfl := Option.some.inj ho
    refine lv_i2l (v := r.toInt64) hx hcd dL_at_8 rfl ?_
    refine g_last hC hKL hW dL_at_9 (fun H locs hW => ?_)
    refine lv_goto (tgt := 25) hx hcd dL_at_10 (by decide) ?_
    refine lv_iconst (v := 0) hx hcd dL_at_25 (by decide) ?_
    exact g_iretL hC hr hlk hsz hW dL_at_26
  · have ho : (if E = "java/lang/IndexOutOfBoundsException" then some (1, f, q6.2) else (if E = "java/lang/IllegalArgumentException" then some (2, f, q6.2) else (if E = "java/util/NoSuchElementException" then some (3, f, q6.2) else none))) = some q := by rw [hE] at ho; exact ho
    by_cases e0 : E = "java/lang/IndexOutOfBoundsException"
    · have ho := gif_p ho e0
      subst e0
      obtain rfl := Option.some.inj ho
      refine vx_catch hC.2.2.2.1 [] ⟨0, 10, 13, 21⟩ [⟨0, 10, 17, 13⟩, ⟨0, 10, 21, 37⟩] (by rw [ht]; rfl) (fun z hz => absurd hz List.not_mem_nil) rfl (by decide) (hC.2.2.2.2.1 _ lk_21) (va_Nw.use rfl (hY.1.1 _ cst_IndexOutOfBoundsException)) hce hcv hcl ?_
      refine lv_astore (lv' := [(4, .ref q9), (0, .ref (ad 0)), (1, .int x1), (2, .int x2), (3, .ref oa)]) hx hcd dL_at_13 hl (by decide) rfl (fun ls hl => ?_)
      refine lv_iconst (v := 1) hx hcd dL_at_15 (by decide) ?_
      exact g_iretL hC hr hlk hsz hW dL_at_16
    have ho := gif_n ho e0
    by_cases e1 : E = "java/lang/IllegalArgumentException"
    · have ho := gif_p ho e1
      subst e1
      obtain rfl := Option.some.inj ho
      refine vx_catch hC.2.2.2.1 [⟨0, 10, 13, 21⟩] ⟨0, 10, 17, 13⟩ [⟨0, 10, 21, 37⟩] (by rw [ht]; rfl) (fun z hz => by simp only [List.mem_cons, List.not_mem_nil, or_false] at hz; rcases hz with rfl; exact Or.inr ⟨by decide, _, hC.2.2.2.2.1 _ lk_21, hY.2 ("java/lang/IllegalArgumentException", "java/lang/IndexOutOfBoundsException") (by decide)⟩) rfl (by decide) (hC.2.2.2.2.1 _ lk_13) (va_Nw.use rfl (hY.1.1 _ cst_IllegalArgumentException)) hce hcv hcl ?_
      refine lv_astore (lv' := [(4, .ref q9), (0, .ref (ad 0)), (1, .int x1), (2, .int x2), (3, .ref oa)]) hx hcd dL_at_17 hl (by decide) rfl (fun ls hl => ?_)
      refine lv_iconst (v := 2) hx hcd dL_at_19 (by decide) ?_
      exact g_iretL hC hr hlk hsz hW dL_at_20
    have ho := gif_n ho e1
    by_cases e2 : E = "java/util/NoSuchElementException"
    · have ho := gif_p ho e2
      subst e2
      obtain rfl := Option.some.inj ho
      refine vx_catch hC.2.2.2.1 [⟨0, 10, 13, 21⟩, ⟨0, 10, 17, 13⟩] ⟨0, 10, 21, 37⟩ [] (by rw [ht]; rfl) (fun z hz => by
        simp only [List.mem_cons, List.not_mem_nil, or_false] at hz
        rcases hz with rfl | rfl
        · exact Or.inr ⟨by decide, _, hC.2.2.2.2.1 _ lk_21, hY.2 ("java/util/NoSuchElementException", "java/lang/IndexOutOfBoundsException") (by decide)⟩
        · exact Or.inr ⟨by decide, _, hC.2.2.2.2.1 _ lk_13, hY.2 ("java/util/NoSuchElementException", "java/lang/IllegalArgumentException") (by decide)⟩) rfl (by decide) (hC.2.2.2.2.1 _ lk_37) (va_Nw.use rfl (hY.1.1 _ cst_NoSuchElementException)) hce hcv hcl ?_
      refine lv_astore (lv' := [(4, .ref q9), (0, .ref (ad 0)), (1, .int x1), (2, .int x2), (3, .ref oa)]) hx hcd dL_at_21 hl (by decide) rfl (fun ls hl => ?_)
      refine lv_iconst (v := 3) hx hcd dL_at_23 (by decide) ?_
      exact g_iretL hC hr hlk hsz hW dL_at_24
    have ho := gif_n ho e2
    cases ho
noncomputable def L_gap (σ : gS) (f : (Nat → Int64)) (x1 : Int32) (x2 : Int32) : Option (Int32 × (Nat → Int64) × gS) :=
  (X6_gap σ x1 x2).bind fun q => match q.1 with
  | .inr r => some (0, vp_updL f 0 r.toInt64, q.2)
  | .inl E => if E = "java/lang/IndexOutOfBoundsException" then some (1, f, q.2) else (if E = "java/lang/IllegalArgumentException" then some (2, f, q.2) else none)
set_option maxHeartbeats 4000000 in
set_option maxRecDepth 100000 in
theorem c_L_gap (l : Launch) (hfl : l.stackTraces = false) (D : va_G) (y : ClassId × ClassId × ClassId) (ad : Nat → Nat) (x1 : Int32) (x2 : Int32) (σ : gS) (sz : Nat) (cL : ClassId) (oa : Nat) (f : (Nat → Int64)) {q : Int32 × (Nat → Int64) × gS} (h : L_gap σ f x1 x2 = some q) : Met l yL_gap (Cond.codeWith yL_gap cL_gap 5 (some .int) [(0, 10, 13, 21), (0, 10, 17, 13)] :: gl) ({ frames := 8, cells := 1, slots := 6, locals := 122 }) (g_PcL D y ad σ sz (cL, .long) oa (.inl (cL, 1, .inr (.inl f))) [.ref (ad 0), .int x1, .int x2, .ref oa]) (g_QL D y ad sz oa (q.1, .inl (cL, 1, .inr (.inl q.2.1)), q.2.2)) 1 6 (g_AL ad oa sz) := by
  have ho := h
  unfold L_gap at ho
  obtain ⟨q6, h6, ho⟩ := gb_some ho
  refine g_startL (by decide) (Nat.le_of_ble_eq_true rfl) (fun p e s m below meth c ls hC hr hlk hsz hW hl ht hY hKL => ?_)
  have hx := hC.1
  have hcd := hC.2.1
  have hl : lv_has ls 5 [(0, .ref (ad 0)), (1, .int x1), (2, .int x2), (3, .ref oa)] := hl
  refine lv_aload_n hx hcd dL_gap_0 rfl (lv_at hl 3 rfl) ?_
  refine lv_iconst (v := 0) hx hcd dL_gap_1 (by decide) ?_
  refine lv_aload_n hx hcd dL_gap_2 rfl (lv_at hl 0 rfl) ?_
  refine lv_iload_n hx hcd dL_gap_3 rfl (lv_at hl 1 rfl) ?_
  refine lv_iload_n hx hcd dL_gap_4 rfl (lv_at hl 2 rfl) ?_
  refine g_callX hW (g_runX (As := [.int x1, .int x2]) (rest := [.int 0, .ref oa]) hC hW rfl hY.1 (c_X6_gap l hfl D y ad x1 x2 σ _ h6) ok_L_39 ⟨rfl, rfl, Nat.le_of_ble_eq_true rfl, Nat.le_of_ble_eq_true rfl⟩ rfl hl.1 rfl (Nat.le_of_ble_eq_true rfl) dL_gap_5 ⟨Nat.le_of_ble_eq_true rfl, Nat.le_of_ble_eq_true rfl⟩) (fun r hr6 H locs hW => ?_) (fun E hE H locs ce q9 hW hce hcv hcl => ?_)
  · have ho : some (0, vp_updL f 0 r.toInt64, q6.2) = some q := by rw [hr6] at ho; exact ho
    obtain rfl := Option.some.inj ho
    refine lv_i2l (v := r.toInt64) hx hcd dL_gap_8 rfl ?_
    refine g_last hC hKL hW dL_gap_9 (fun H locs hW => ?_)
    refine lv_goto (tgt := 21) hx hcd dL_gap_10 (by decide) ?_
    refine lv_iconst (v := 0) hx hcd dL_gap_21 (by decide) ?_
    exact g_iretL hC hr hlk hsz hW dL_gap_22
  · have ho : (if E = "java/lang/IndexOutOfBoundsException" then some (1, f, q6.2) else (if E = "java/lang/IllegalArgumentException" then some (2, f, q6.2) else none)) = some q := by rw [hE] at ho; exact ho
    by_cases e0 : E = "java/lang/IndexOutOfBoundsException"
    · have ho := gif_p ho e0
      subst e0
      obtain rfl := Option.some.inj ho
      refine vx_catch hC.2.2.2.1 [] ⟨0, 10, 13, 21⟩ [⟨0, 10, 17, 13⟩] (by rw [ht]; rfl) (fun z hz => absurd hz List.not_mem_nil) rfl (by decide) (hC.2.2.2.2.1 _ lk_21) (va_Nw.use rfl (hY.1.1 _ cst_IndexOutOfBoundsException)) hce hcv hcl ?_
      refine lv_astore (lv' := [(4, .ref q9), (0, .ref (ad 0)), (1, .int x1), (2, .int x2), (3, .ref oa)]) hx hcd dL_gap_13 hl (by decide) rfl (fun ls hl => ?_)
      refine lv_iconst (v := 1) hx hcd dL_gap_15 (by decide) ?_
      exact g_iretL hC hr hlk hsz hW dL_gap_16
    have ho := gif_n ho e0
    by_cases e1 : E = "java/lang/IllegalArgumentException"
    · have ho := gif_p ho e1
      subst e1
      obtain rfl := Option.some.inj ho
      refine vx_catch hC.2.2.2.1 [⟨0, 10, 13, 21⟩] ⟨0, 10, 17, 13⟩ [] (by rw [ht]; rfl) (fun z hz => by simp only [List.mem_cons, List.not_mem_nil, or_false] at hz; rcases hz with rfl; exact Or.inr ⟨by decide, _, hC.2.2.2.2.1 _ lk_21, hY.2 ("java/lang/IllegalArgumentException", "java/lang/IndexOutOfBoundsException") (by decide)⟩) rfl (by decide) (hC.2.2.2.2.1 _ lk_13) (va_Nw.use rfl (hY.1.1 _ cst_IllegalArgumentException)) hce hcv hcl ?_
      refine lv_astore (lv' := [(4, .ref q9), (0, .ref (ad 0)), (1, .int x1), (2, .int x2), (3, .ref oa)]) hx hcd dL_gap_17 hl (by decide) rfl (fun ls hl => ?_)
      refine lv_iconst (v := 2) hx hcd dL_gap_19 (by decide) ?_
      exact g_iretL hC hr hlk hsz hW dL_gap_20
    have ho := gif_n ho e1
    cases ho
noncomputable def L_addTurn (σ : gS) (f : (Nat → Int64)) (x1 : Int32) (x2 : Int32) (x3 : Int32) (x4 : Int32) : Option (Int32 × (Nat → Int64) × gS) :=
  (X6_addTurn σ x1 x2 x3 x4).bind fun q => match q.1 with
  | .inr r => some (0, vp_updL f 0 r.toInt64, q.2)
  | .inl E => if E = "java/lang/IllegalArgumentException" then some (1, f, q.2) else (if E = "java/lang/IllegalStateException" then some (2, f, q.2) else none)
set_option maxHeartbeats 4000000 in
set_option maxRecDepth 100000 in
theorem c_L_addTurn (l : Launch) (hfl : l.stackTraces = false) (D : va_G) (y : ClassId × ClassId × ClassId) (ad : Nat → Nat) (x1 : Int32) (x2 : Int32) (x3 : Int32) (x4 : Int32) (σ : gS) (sz : Nat) (cL : ClassId) (oa : Nat) (f : (Nat → Int64)) {q : Int32 × (Nat → Int64) × gS} (h : L_addTurn σ f x1 x2 x3 x4 = some q) : Met l yL_addTurn (Cond.codeWith yL_addTurn cL_addTurn 7 (some .int) [(0, 14, 17, 13), (0, 14, 21, 15)] :: gl) ({ frames := 8, cells := 1, slots := 6, locals := 124 }) (g_PcL D y ad σ sz (cL, .long) oa (.inl (cL, 1, .inr (.inl f))) [.ref (ad 0), .int x1, .int x2, .int x3, .int x4, .ref oa]) (g_QL D y ad sz oa (q.1, .inl (cL, 1, .inr (.inl q.2.1)), q.2.2)) 1 6 (g_AL ad oa sz) := by
  have ho := h
  unfold L_addTurn at ho
  obtain ⟨q6, h6, ho⟩ := gb_some ho
  refine g_startL (by decide) (Nat.le_of_ble_eq_true rfl) (fun p e s m below meth c ls hC hr hlk hsz hW hl ht hY hKL => ?_)
  have hx := hC.1
  have hcd := hC.2.1
  have hl : lv_has ls 7 [(0, .ref (ad 0)), (1, .int x1), (2, .int x2), (3, .int x3), (4, .int x4), (5, .ref oa)] := hl
  refine lv_aload hx hcd dL_addTurn_0 (lv_at hl 5 rfl) ?_
  refine lv_iconst (v := 0) hx hcd dL_addTurn_2 (by decide) ?_
  refine lv_aload_n hx hcd dL_addTurn_3 rfl (lv_at hl 0 rfl) ?_
  refine lv_iload_n hx hcd dL_addTurn_4 rfl (lv_at hl 1 rfl) ?_
  refine lv_iload_n hx hcd dL_addTurn_5 rfl (lv_at hl 2 rfl) ?_
  refine lv_iload_n hx hcd dL_addTurn_6 rfl (lv_at hl 3 rfl) ?_
  refine lv_iload hx hcd dL_addTurn_7 (lv_at hl 4 rfl) ?_
  refine g_callX hW (g_runX (As := [.int x1, .int x2, .int x3, .int x4]) (rest := [.int 0, .ref oa]) hC hW rfl hY.1 (c_X6_addTurn l hfl D y ad x1 x2 x3 x4 σ _ h6) ok_L_42 ⟨rfl, rfl, Nat.le_of_ble_eq_true rfl, Nat.le_of_ble_eq_true rfl⟩ rfl hl.1 rfl (Nat.le_of_ble_eq_true rfl) dL_addTurn_9 ⟨Nat.le_of_ble_eq_true rfl, Nat.le_of_ble_eq_true rfl⟩) (fun r hr6 H locs hW => ?_) (fun E hE H locs ce q9 hW hce hcv hcl => ?_)
  · have ho : some (0, vp_updL f 0 r.toInt64, q6.2) = some q := by rw [hr6] at ho; exact ho
    obtain rfl := Option.some.inj ho
    refine lv_i2l (v := r.toInt64) hx hcd dL_addTurn_12 rfl ?_
    refine g_last hC hKL hW dL_addTurn_13 (fun H locs hW => ?_)
    refine lv_goto (tgt := 25) hx hcd dL_addTurn_14 (by decide) ?_
    refine lv_iconst (v := 0) hx hcd dL_addTurn_25 (by decide) ?_
    exact g_iretL hC hr hlk hsz hW dL_addTurn_26
  · have ho : (if E = "java/lang/IllegalArgumentException" then some (1, f, q6.2) else (if E = "java/lang/IllegalStateException" then some (2, f, q6.2) else none)) = some q := by rw [hE] at ho; exact ho
    by_cases e0 : E = "java/lang/IllegalArgumentException"
    · have ho := gif_p ho e0
      subst e0
      obtain rfl := Option.some.inj ho
      refine vx_catch hC.2.2.2.1 [] ⟨0, 14, 17, 13⟩ [⟨0, 14, 21, 15⟩] (by rw [ht]; rfl) (fun z hz => absurd hz List.not_mem_nil) rfl (by decide) (hC.2.2.2.2.1 _ lk_13) (va_Nw.use rfl (hY.1.1 _ cst_IllegalArgumentException)) hce hcv hcl ?_
      refine lv_astore (lv' := [(6, .ref q9), (0, .ref (ad 0)), (1, .int x1), (2, .int x2), (3, .int x3), (4, .int x4), (5, .ref oa)]) hx hcd dL_addTurn_17 hl (by decide) rfl (fun ls hl => ?_)
      refine lv_iconst (v := 1) hx hcd dL_addTurn_19 (by decide) ?_
      exact g_iretL hC hr hlk hsz hW dL_addTurn_20
    have ho := gif_n ho e0
    by_cases e1 : E = "java/lang/IllegalStateException"
    · have ho := gif_p ho e1
      subst e1
      obtain rfl := Option.some.inj ho
      refine vx_catch hC.2.2.2.1 [⟨0, 14, 17, 13⟩] ⟨0, 14, 21, 15⟩ [] (by rw [ht]; rfl) (fun z hz => by simp only [List.mem_cons, List.not_mem_nil, or_false] at hz; rcases hz with rfl; exact Or.inr ⟨by decide, _, hC.2.2.2.2.1 _ lk_13, hY.2 ("java/lang/IllegalStateException", "java/lang/IllegalArgumentException") (by decide)⟩) rfl (by decide) (hC.2.2.2.2.1 _ lk_15) (va_Nw.use rfl (hY.1.1 _ cst_IllegalStateException)) hce hcv hcl ?_
      refine lv_astore (lv' := [(6, .ref q9), (0, .ref (ad 0)), (1, .int x1), (2, .int x2), (3, .int x3), (4, .int x4), (5, .ref oa)]) hx hcd dL_addTurn_21 hl (by decide) rfl (fun ls hl => ?_)
      refine lv_iconst (v := 2) hx hcd dL_addTurn_23 (by decide) ?_
      exact g_iretL hC hr hlk hsz hW dL_addTurn_24
    have ho := gif_n ho e1
    cases ho
noncomputable def L_turn (σ : gS) (f : (Nat → Int64)) (x1 : Int32) (x2 : Int32) : Option (Int32 × (Nat → Int64) × gS) :=
  (X6_turn σ x1 x2).bind fun q => match q.1 with
  | .inr r => some (0, vp_updL f 0 r.toInt64, q.2)
  | .inl E => if E = "java/lang/IndexOutOfBoundsException" then some (1, f, q.2) else (if E = "java/lang/IllegalArgumentException" then some (2, f, q.2) else none)
set_option maxHeartbeats 4000000 in
set_option maxRecDepth 100000 in
theorem c_L_turn (l : Launch) (hfl : l.stackTraces = false) (D : va_G) (y : ClassId × ClassId × ClassId) (ad : Nat → Nat) (x1 : Int32) (x2 : Int32) (σ : gS) (sz : Nat) (cL : ClassId) (oa : Nat) (f : (Nat → Int64)) {q : Int32 × (Nat → Int64) × gS} (h : L_turn σ f x1 x2 = some q) : Met l yL_turn (Cond.codeWith yL_turn cL_turn 5 (some .int) [(0, 10, 13, 21), (0, 10, 17, 13)] :: gl) ({ frames := 8, cells := 1, slots := 6, locals := 122 }) (g_PcL D y ad σ sz (cL, .long) oa (.inl (cL, 1, .inr (.inl f))) [.ref (ad 0), .int x1, .int x2, .ref oa]) (g_QL D y ad sz oa (q.1, .inl (cL, 1, .inr (.inl q.2.1)), q.2.2)) 1 6 (g_AL ad oa sz) := by
  have ho := h
  unfold L_turn at ho
  obtain ⟨q6, h6, ho⟩ := gb_some ho
  refine g_startL (by decide) (Nat.le_of_ble_eq_true rfl) (fun p e s m below meth c ls hC hr hlk hsz hW hl ht hY hKL => ?_)
  have hx := hC.1
  have hcd := hC.2.1
  have hl : lv_has ls 5 [(0, .ref (ad 0)), (1, .int x1), (2, .int x2), (3, .ref oa)] := hl
  refine lv_aload_n hx hcd dL_turn_0 rfl (lv_at hl 3 rfl) ?_
  refine lv_iconst (v := 0) hx hcd dL_turn_1 (by decide) ?_
  refine lv_aload_n hx hcd dL_turn_2 rfl (lv_at hl 0 rfl) ?_
  refine lv_iload_n hx hcd dL_turn_3 rfl (lv_at hl 1 rfl) ?_
  refine lv_iload_n hx hcd dL_turn_4 rfl (lv_at hl 2 rfl) ?_
  refine g_callX hW (g_runX (As := [.int x1, .int x2]) (rest := [.int 0, .ref oa]) hC hW rfl hY.1 (c_X6_turn l hfl D y ad x1 x2 σ _ h6) ok_L_46 ⟨rfl, rfl, Nat.le_of_ble_eq_true rfl, Nat.le_of_ble_eq_true rfl⟩ rfl hl.1 rfl (Nat.le_of_ble_eq_true rfl) dL_turn_5 ⟨Nat.le_of_ble_eq_true rfl, Nat.le_of_ble_eq_true rfl⟩) (fun r hr6 H locs hW => ?_) (fun E hE H locs ce q9 hW hce hcv hcl => ?_)
  · have ho : some (0, vp_updL f 0 r.toInt64, q6.2) = some q := by rw [hr6] at ho; exact ho
    obtain rfl := Option.some.inj ho
    refine lv_i2l (v := r.toInt64) hx hcd dL_turn_8 rfl ?_
    refine g_last hC hKL hW dL_turn_9 (fun H locs hW => ?_)
    refine lv_goto (tgt := 21) hx hcd dL_turn_10 (by decide) ?_
    refine lv_iconst (v := 0) hx hcd dL_turn_21 (by decide) ?_
    exact g_iretL hC hr hlk hsz hW dL_turn_22
  · have ho : (if E = "java/lang/IndexOutOfBoundsException" then some (1, f, q6.2) else (if E = "java/lang/IllegalArgumentException" then some (2, f, q6.2) else none)) = some q := by rw [hE] at ho; exact ho
    by_cases e0 : E = "java/lang/IndexOutOfBoundsException"
    · have ho := gif_p ho e0
      subst e0
      obtain rfl := Option.some.inj ho
      refine vx_catch hC.2.2.2.1 [] ⟨0, 10, 13, 21⟩ [⟨0, 10, 17, 13⟩] (by rw [ht]; rfl) (fun z hz => absurd hz List.not_mem_nil) rfl (by decide) (hC.2.2.2.2.1 _ lk_21) (va_Nw.use rfl (hY.1.1 _ cst_IndexOutOfBoundsException)) hce hcv hcl ?_
      refine lv_astore (lv' := [(4, .ref q9), (0, .ref (ad 0)), (1, .int x1), (2, .int x2), (3, .ref oa)]) hx hcd dL_turn_13 hl (by decide) rfl (fun ls hl => ?_)
      refine lv_iconst (v := 1) hx hcd dL_turn_15 (by decide) ?_
      exact g_iretL hC hr hlk hsz hW dL_turn_16
    have ho := gif_n ho e0
    by_cases e1 : E = "java/lang/IllegalArgumentException"
    · have ho := gif_p ho e1
      subst e1
      obtain rfl := Option.some.inj ho
      refine vx_catch hC.2.2.2.1 [⟨0, 10, 13, 21⟩] ⟨0, 10, 17, 13⟩ [] (by rw [ht]; rfl) (fun z hz => by simp only [List.mem_cons, List.not_mem_nil, or_false] at hz; rcases hz with rfl; exact Or.inr ⟨by decide, _, hC.2.2.2.2.1 _ lk_21, hY.2 ("java/lang/IllegalArgumentException", "java/lang/IndexOutOfBoundsException") (by decide)⟩) rfl (by decide) (hC.2.2.2.2.1 _ lk_13) (va_Nw.use rfl (hY.1.1 _ cst_IllegalArgumentException)) hce hcv hcl ?_
      refine lv_astore (lv' := [(4, .ref q9), (0, .ref (ad 0)), (1, .int x1), (2, .int x2), (3, .ref oa)]) hx hcd dL_turn_17 hl (by decide) rfl (fun ls hl => ?_)
      refine lv_iconst (v := 2) hx hcd dL_turn_19 (by decide) ?_
      exact g_iretL hC hr hlk hsz hW dL_turn_20
    have ho := gif_n ho e1
    cases ho
noncomputable def L_ofStay (σ : gS) (f : (Nat → Int64)) (x1 : Int32) (x2 : Int32) (x3 : Int32) : Option (Int32 × (Nat → Int64) × gS) :=
  (X6_ofStay σ x1 x2 x3).bind fun q => match q.1 with
  | .inr r => some (0, vp_updL f 0 r.toInt64, q.2)
  | .inl E => if E = "java/lang/IndexOutOfBoundsException" then some (1, f, q.2) else (if E = "java/lang/IllegalArgumentException" then some (2, f, q.2) else none)
set_option maxHeartbeats 4000000 in
set_option maxRecDepth 100000 in
theorem c_L_ofStay (l : Launch) (hfl : l.stackTraces = false) (D : va_G) (y : ClassId × ClassId × ClassId) (ad : Nat → Nat) (x1 : Int32) (x2 : Int32) (x3 : Int32) (σ : gS) (sz : Nat) (cL : ClassId) (oa : Nat) (f : (Nat → Int64)) {q : Int32 × (Nat → Int64) × gS} (h : L_ofStay σ f x1 x2 x3 = some q) : Met l yL_ofStay (Cond.codeWith yL_ofStay cL_ofStay 6 (some .int) [(0, 12, 15, 21), (0, 12, 19, 13)] :: gl) ({ frames := 8, cells := 1, slots := 6, locals := 124 }) (g_PcL D y ad σ sz (cL, .long) oa (.inl (cL, 1, .inr (.inl f))) [.ref (ad 0), .int x1, .int x2, .int x3, .ref oa]) (g_QL D y ad sz oa (q.1, .inl (cL, 1, .inr (.inl q.2.1)), q.2.2)) 1 6 (g_AL ad oa sz) := by
  have ho := h
  unfold L_ofStay at ho
  obtain ⟨q6, h6, ho⟩ := gb_some ho
  refine g_startL (by decide) (Nat.le_of_ble_eq_true rfl) (fun p e s m below meth c ls hC hr hlk hsz hW hl ht hY hKL => ?_)
  have hx := hC.1
  have hcd := hC.2.1
  have hl : lv_has ls 6 [(0, .ref (ad 0)), (1, .int x1), (2, .int x2), (3, .int x3), (4, .ref oa)] := hl
  refine lv_aload hx hcd dL_ofStay_0 (lv_at hl 4 rfl) ?_
  refine lv_iconst (v := 0) hx hcd dL_ofStay_2 (by decide) ?_
  refine lv_aload_n hx hcd dL_ofStay_3 rfl (lv_at hl 0 rfl) ?_
  refine lv_iload_n hx hcd dL_ofStay_4 rfl (lv_at hl 1 rfl) ?_
  refine lv_iload_n hx hcd dL_ofStay_5 rfl (lv_at hl 2 rfl) ?_
  refine lv_iload_n hx hcd dL_ofStay_6 rfl (lv_at hl 3 rfl) ?_
  refine g_callX hW (g_runX (As := [.int x1, .int x2, .int x3]) (rest := [.int 0, .ref oa]) hC hW rfl hY.1 (c_X6_ofStay l hfl D y ad x1 x2 x3 σ _ h6) ok_L_49 ⟨rfl, rfl, Nat.le_of_ble_eq_true rfl, Nat.le_of_ble_eq_true rfl⟩ rfl hl.1 rfl (Nat.le_of_ble_eq_true rfl) dL_ofStay_7 ⟨Nat.le_of_ble_eq_true rfl, Nat.le_of_ble_eq_true rfl⟩) (fun r hr6 H locs hW => ?_) (fun E hE H locs ce q9 hW hce hcv hcl => ?_)
  · have ho : some (0, vp_updL f 0 r.toInt64, q6.2) = some q := by rw [hr6] at ho; exact ho
    obtain rfl := Option.some.inj ho
    refine lv_i2l (v := r.toInt64) hx hcd dL_ofStay_10 rfl ?_
    refine g_last hC hKL hW dL_ofStay_11 (fun H locs hW => ?_)
    refine lv_goto (tgt := 23) hx hcd dL_ofStay_12 (by decide) ?_
    refine lv_iconst (v := 0) hx hcd dL_ofStay_23 (by decide) ?_
    exact g_iretL hC hr hlk hsz hW dL_ofStay_24
  · have ho : (if E = "java/lang/IndexOutOfBoundsException" then some (1, f, q6.2) else (if E = "java/lang/IllegalArgumentException" then some (2, f, q6.2) else none)) = some q := by rw [hE] at ho; exact ho
    by_cases e0 : E = "java/lang/IndexOutOfBoundsException"
    · have ho := gif_p ho e0
      subst e0
      obtain rfl := Option.some.inj ho
      refine vx_catch hC.2.2.2.1 [] ⟨0, 12, 15, 21⟩ [⟨0, 12, 19, 13⟩] (by rw [ht]; rfl) (fun z hz => absurd hz List.not_mem_nil) rfl (by decide) (hC.2.2.2.2.1 _ lk_21) (va_Nw.use rfl (hY.1.1 _ cst_IndexOutOfBoundsException)) hce hcv hcl ?_
      refine lv_astore (lv' := [(5, .ref q9), (0, .ref (ad 0)), (1, .int x1), (2, .int x2), (3, .int x3), (4, .ref oa)]) hx hcd dL_ofStay_15 hl (by decide) rfl (fun ls hl => ?_)
      refine lv_iconst (v := 1) hx hcd dL_ofStay_17 (by decide) ?_
      exact g_iretL hC hr hlk hsz hW dL_ofStay_18
    have ho := gif_n ho e0
    by_cases e1 : E = "java/lang/IllegalArgumentException"
    · have ho := gif_p ho e1
      subst e1
      obtain rfl := Option.some.inj ho
      refine vx_catch hC.2.2.2.1 [⟨0, 12, 15, 21⟩] ⟨0, 12, 19, 13⟩ [] (by rw [ht]; rfl) (fun z hz => by simp only [List.mem_cons, List.not_mem_nil, or_false] at hz; rcases hz with rfl; exact Or.inr ⟨by decide, _, hC.2.2.2.2.1 _ lk_21, hY.2 ("java/lang/IllegalArgumentException", "java/lang/IndexOutOfBoundsException") (by decide)⟩) rfl (by decide) (hC.2.2.2.2.1 _ lk_13) (va_Nw.use rfl (hY.1.1 _ cst_IllegalArgumentException)) hce hcv hcl ?_
      refine lv_astore (lv' := [(5, .ref q9), (0, .ref (ad 0)), (1, .int x1), (2, .int x2), (3, .int x3), (4, .ref oa)]) hx hcd dL_ofStay_19 hl (by decide) rfl (fun ls hl => ?_)
      refine lv_iconst (v := 2) hx hcd dL_ofStay_21 (by decide) ?_
      exact g_iretL hC hr hlk hsz hW dL_ofStay_22
    have ho := gif_n ho e1
    cases ho
noncomputable def L_place (σ : gS) (f : (Nat → Int64)) (x1 : Int32) (x2 : Int32) (x3 : Int32) : Option (Int32 × (Nat → Int64) × gS) :=
  (X6_place σ x1 x2 x3).bind fun q => match q.1 with
  | .inr r => some (0, vp_updL f 0 r.toInt64, q.2)
  | .inl E => if E = "java/lang/IndexOutOfBoundsException" then some (1, f, q.2) else (if E = "java/lang/UnsupportedOperationException" then some (2, f, q.2) else none)
set_option maxHeartbeats 4000000 in
set_option maxRecDepth 100000 in
theorem c_L_place (l : Launch) (hfl : l.stackTraces = false) (D : va_G) (y : ClassId × ClassId × ClassId) (ad : Nat → Nat) (x1 : Int32) (x2 : Int32) (x3 : Int32) (σ : gS) (sz : Nat) (cL : ClassId) (oa : Nat) (f : (Nat → Int64)) {q : Int32 × (Nat → Int64) × gS} (h : L_place σ f x1 x2 x3 = some q) : Met l yL_place (Cond.codeWith yL_place cL_place 6 (some .int) [(0, 12, 15, 21), (0, 12, 19, 55)] :: gl) ({ frames := 8, cells := 1, slots := 6, locals := 126 }) (g_PcL D y ad σ sz (cL, .long) oa (.inl (cL, 1, .inr (.inl f))) [.ref (ad 0), .int x1, .int x2, .int x3, .ref oa]) (g_QL D y ad sz oa (q.1, .inl (cL, 1, .inr (.inl q.2.1)), q.2.2)) 1 6 (g_AL ad oa sz) := by
  have ho := h
  unfold L_place at ho
  obtain ⟨q6, h6, ho⟩ := gb_some ho
  refine g_startL (by decide) (Nat.le_of_ble_eq_true rfl) (fun p e s m below meth c ls hC hr hlk hsz hW hl ht hY hKL => ?_)
  have hx := hC.1
  have hcd := hC.2.1
  have hl : lv_has ls 6 [(0, .ref (ad 0)), (1, .int x1), (2, .int x2), (3, .int x3), (4, .ref oa)] := hl
  refine lv_aload hx hcd dL_place_0 (lv_at hl 4 rfl) ?_
  refine lv_iconst (v := 0) hx hcd dL_place_2 (by decide) ?_
  refine lv_aload_n hx hcd dL_place_3 rfl (lv_at hl 0 rfl) ?_
  refine lv_iload_n hx hcd dL_place_4 rfl (lv_at hl 1 rfl) ?_
  refine lv_iload_n hx hcd dL_place_5 rfl (lv_at hl 2 rfl) ?_
  refine lv_iload_n hx hcd dL_place_6 rfl (lv_at hl 3 rfl) ?_
  refine g_callX hW (g_runX (As := [.int x1, .int x2, .int x3]) (rest := [.int 0, .ref oa]) hC hW rfl hY.1 (c_X6_place l hfl D y ad x1 x2 x3 σ _ h6) ok_L_52 ⟨rfl, rfl, Nat.le_of_ble_eq_true rfl, Nat.le_of_ble_eq_true rfl⟩ rfl hl.1 rfl (Nat.le_of_ble_eq_true rfl) dL_place_7 ⟨Nat.le_of_ble_eq_true rfl, Nat.le_of_ble_eq_true rfl⟩) (fun r hr6 H locs hW => ?_) (fun E hE H locs ce q9 hW hce hcv hcl => ?_)
  · have ho : some (0, vp_updL f 0 r.toInt64, q6.2) = some q := by rw [hr6] at ho; exact ho
    obtain rfl := Option.some.inj ho
    refine lv_i2l (v := r.toInt64) hx hcd dL_place_10 rfl ?_
    refine g_last hC hKL hW dL_place_11 (fun H locs hW => ?_)
    refine lv_goto (tgt := 23) hx hcd dL_place_12 (by decide) ?_
    refine lv_iconst (v := 0) hx hcd dL_place_23 (by decide) ?_
    exact g_iretL hC hr hlk hsz hW dL_place_24
  · have ho : (if E = "java/lang/IndexOutOfBoundsException" then some (1, f, q6.2) else (if E = "java/lang/UnsupportedOperationException" then some (2, f, q6.2) else none)) = some q := by rw [hE] at ho; exact ho
    by_cases e0 : E = "java/lang/IndexOutOfBoundsException"
    · have ho := gif_p ho e0
      subst e0
      obtain rfl := Option.some.inj ho
      refine vx_catch hC.2.2.2.1 [] ⟨0, 12, 15, 21⟩ [⟨0, 12, 19, 55⟩] (by rw [ht]; rfl) (fun z hz => absurd hz List.not_mem_nil) rfl (by decide) (hC.2.2.2.2.1 _ lk_21) (va_Nw.use rfl (hY.1.1 _ cst_IndexOutOfBoundsException)) hce hcv hcl ?_
      refine lv_astore (lv' := [(5, .ref q9), (0, .ref (ad 0)), (1, .int x1), (2, .int x2), (3, .int x3), (4, .ref oa)]) hx hcd dL_place_15 hl (by decide) rfl (fun ls hl => ?_)
      refine lv_iconst (v := 1) hx hcd dL_place_17 (by decide) ?_
      exact g_iretL hC hr hlk hsz hW dL_place_18
    have ho := gif_n ho e0
    by_cases e1 : E = "java/lang/UnsupportedOperationException"
    · have ho := gif_p ho e1
      subst e1
      obtain rfl := Option.some.inj ho
      refine vx_catch hC.2.2.2.1 [⟨0, 12, 15, 21⟩] ⟨0, 12, 19, 55⟩ [] (by rw [ht]; rfl) (fun z hz => by simp only [List.mem_cons, List.not_mem_nil, or_false] at hz; rcases hz with rfl; exact Or.inr ⟨by decide, _, hC.2.2.2.2.1 _ lk_21, hY.2 ("java/lang/UnsupportedOperationException", "java/lang/IndexOutOfBoundsException") (by decide)⟩) rfl (by decide) (hC.2.2.2.2.1 _ lk_55) (va_Nw.use rfl (hY.1.1 _ cst_UnsupportedOperationException)) hce hcv hcl ?_
      refine lv_astore (lv' := [(5, .ref q9), (0, .ref (ad 0)), (1, .int x1), (2, .int x2), (3, .int x3), (4, .ref oa)]) hx hcd dL_place_19 hl (by decide) rfl (fun ls hl => ?_)
      refine lv_iconst (v := 2) hx hcd dL_place_21 (by decide) ?_
      exact g_iretL hC hr hlk hsz hW dL_place_22
    have ho := gif_n ho e1
    cases ho
noncomputable def L_whyNot (σ : gS) (f : (Nat → Int64)) (x1 : Int32) (x2 : Int32) (x3 : Int32) : Option (Int32 × (Nat → Int64) × gS) :=
  (X6_whyNot σ x1 x2 x3).bind fun q => match q.1 with
  | .inr r => some (0, vp_updL f 0 r.toInt64, q.2)
  | .inl E => if E = "java/lang/IndexOutOfBoundsException" then some (1, f, q.2) else none
set_option maxHeartbeats 4000000 in
set_option maxRecDepth 100000 in
theorem c_L_whyNot (l : Launch) (hfl : l.stackTraces = false) (D : va_G) (y : ClassId × ClassId × ClassId) (ad : Nat → Nat) (x1 : Int32) (x2 : Int32) (x3 : Int32) (σ : gS) (sz : Nat) (cL : ClassId) (oa : Nat) (f : (Nat → Int64)) {q : Int32 × (Nat → Int64) × gS} (h : L_whyNot σ f x1 x2 x3 = some q) : Met l yL_whyNot (Cond.codeWith yL_whyNot cL_whyNot 6 (some .int) [(0, 12, 15, 21)] :: gl) ({ frames := 8, cells := 1, slots := 6, locals := 123 }) (g_PcL D y ad σ sz (cL, .long) oa (.inl (cL, 1, .inr (.inl f))) [.ref (ad 0), .int x1, .int x2, .int x3, .ref oa]) (g_QL D y ad sz oa (q.1, .inl (cL, 1, .inr (.inl q.2.1)), q.2.2)) 1 6 (g_AL ad oa sz) := by
  have ho := h
  unfold L_whyNot at ho
  obtain ⟨q6, h6, ho⟩ := gb_some ho
  refine g_startL (by decide) (Nat.le_of_ble_eq_true rfl) (fun p e s m below meth c ls hC hr hlk hsz hW hl ht hY hKL => ?_)
  have hx := hC.1
  have hcd := hC.2.1
  have hl : lv_has ls 6 [(0, .ref (ad 0)), (1, .int x1), (2, .int x2), (3, .int x3), (4, .ref oa)] := hl
  refine lv_aload hx hcd dL_whyNot_0 (lv_at hl 4 rfl) ?_
  refine lv_iconst (v := 0) hx hcd dL_whyNot_2 (by decide) ?_
  refine lv_aload_n hx hcd dL_whyNot_3 rfl (lv_at hl 0 rfl) ?_
  refine lv_iload_n hx hcd dL_whyNot_4 rfl (lv_at hl 1 rfl) ?_
  refine lv_iload_n hx hcd dL_whyNot_5 rfl (lv_at hl 2 rfl) ?_
  refine lv_iload_n hx hcd dL_whyNot_6 rfl (lv_at hl 3 rfl) ?_
  refine g_callX hW (g_runX (As := [.int x1, .int x2, .int x3]) (rest := [.int 0, .ref oa]) hC hW rfl hY.1 (c_X6_whyNot l hfl D y ad x1 x2 x3 σ _ h6) ok_L_57 ⟨rfl, rfl, Nat.le_of_ble_eq_true rfl, Nat.le_of_ble_eq_true rfl⟩ rfl hl.1 rfl (Nat.le_of_ble_eq_true rfl) dL_whyNot_7 ⟨Nat.le_of_ble_eq_true rfl, Nat.le_of_ble_eq_true rfl⟩) (fun r hr6 H locs hW => ?_) (fun E hE H locs ce q9 hW hce hcv hcl => ?_)
  · have ho : some (0, vp_updL f 0 r.toInt64, q6.2) = some q := by rw [hr6] at ho; exact ho
    obtain rfl := Option.some.inj ho
    refine lv_i2l (v := r.toInt64) hx hcd dL_whyNot_10 rfl ?_
    refine g_last hC hKL hW dL_whyNot_11 (fun H locs hW => ?_)
    refine lv_goto (tgt := 19) hx hcd dL_whyNot_12 (by decide) ?_
    refine lv_iconst (v := 0) hx hcd dL_whyNot_19 (by decide) ?_
    exact g_iretL hC hr hlk hsz hW dL_whyNot_20
  · have ho : (if E = "java/lang/IndexOutOfBoundsException" then some (1, f, q6.2) else none) = some q := by rw [hE] at ho; exact ho
    by_cases e0 : E = "java/lang/IndexOutOfBoundsException"
    · have ho := gif_p ho e0
      subst e0
      obtain rfl := Option.some.inj ho
      refine vx_catch hC.2.2.2.1 [] ⟨0, 12, 15, 21⟩ [] (by rw [ht]; rfl) (fun z hz => absurd hz List.not_mem_nil) rfl (by decide) (hC.2.2.2.2.1 _ lk_21) (va_Nw.use rfl (hY.1.1 _ cst_IndexOutOfBoundsException)) hce hcv hcl ?_
      refine lv_astore (lv' := [(5, .ref q9), (0, .ref (ad 0)), (1, .int x1), (2, .int x2), (3, .int x3), (4, .ref oa)]) hx hcd dL_whyNot_15 hl (by decide) rfl (fun ls hl => ?_)
      refine lv_iconst (v := 1) hx hcd dL_whyNot_17 (by decide) ?_
      exact g_iretL hC hr hlk hsz hW dL_whyNot_18
    have ho := gif_n ho e0
    cases ho
noncomputable def L_options (σ : gS) (f : (Nat → Int64)) (x1 : Int32) (x2 : Int32) : Option (Int32 × (Nat → Int64) × gS) :=
  (X6_options σ x1 x2).bind fun q => match q.1 with
  | .inr r => some (0, vp_updL f 0 r.toInt64, q.2)
  | .inl E => if E = "java/lang/IndexOutOfBoundsException" then some (1, f, q.2) else none
set_option maxHeartbeats 4000000 in
set_option maxRecDepth 100000 in
theorem c_L_options (l : Launch) (hfl : l.stackTraces = false) (D : va_G) (y : ClassId × ClassId × ClassId) (ad : Nat → Nat) (x1 : Int32) (x2 : Int32) (σ : gS) (sz : Nat) (cL : ClassId) (oa : Nat) (f : (Nat → Int64)) {q : Int32 × (Nat → Int64) × gS} (h : L_options σ f x1 x2 = some q) : Met l yL_options (Cond.codeWith yL_options cL_options 5 (some .int) [(0, 10, 13, 21)] :: gl) ({ frames := 8, cells := 1, slots := 6, locals := 122 }) (g_PcL D y ad σ sz (cL, .long) oa (.inl (cL, 1, .inr (.inl f))) [.ref (ad 0), .int x1, .int x2, .ref oa]) (g_QL D y ad sz oa (q.1, .inl (cL, 1, .inr (.inl q.2.1)), q.2.2)) 1 6 (g_AL ad oa sz) := by
  have ho := h
  unfold L_options at ho
  obtain ⟨q6, h6, ho⟩ := gb_some ho
  refine g_startL (by decide) (Nat.le_of_ble_eq_true rfl) (fun p e s m below meth c ls hC hr hlk hsz hW hl ht hY hKL => ?_)
  have hx := hC.1
  have hcd := hC.2.1
  have hl : lv_has ls 5 [(0, .ref (ad 0)), (1, .int x1), (2, .int x2), (3, .ref oa)] := hl
  refine lv_aload_n hx hcd dL_options_0 rfl (lv_at hl 3 rfl) ?_
  refine lv_iconst (v := 0) hx hcd dL_options_1 (by decide) ?_
  refine lv_aload_n hx hcd dL_options_2 rfl (lv_at hl 0 rfl) ?_
  refine lv_iload_n hx hcd dL_options_3 rfl (lv_at hl 1 rfl) ?_
  refine lv_iload_n hx hcd dL_options_4 rfl (lv_at hl 2 rfl) ?_
  refine g_callX hW (g_runX (As := [.int x1, .int x2]) (rest := [.int 0, .ref oa]) hC hW rfl hY.1 (c_X6_options l hfl D y ad x1 x2 σ _ h6) ok_L_60 ⟨rfl, rfl, Nat.le_of_ble_eq_true rfl, Nat.le_of_ble_eq_true rfl⟩ rfl hl.1 rfl (Nat.le_of_ble_eq_true rfl) dL_options_5 ⟨Nat.le_of_ble_eq_true rfl, Nat.le_of_ble_eq_true rfl⟩) (fun r hr6 H locs hW => ?_) (fun E hE H locs ce q9 hW hce hcv hcl => ?_)
  · have ho : some (0, vp_updL f 0 r.toInt64, q6.2) = some q := by rw [hr6] at ho; exact ho
    obtain rfl := Option.some.inj ho
    refine lv_i2l (v := r.toInt64) hx hcd dL_options_8 rfl ?_
    refine g_last hC hKL hW dL_options_9 (fun H locs hW => ?_)
    refine lv_goto (tgt := 17) hx hcd dL_options_10 (by decide) ?_
    refine lv_iconst (v := 0) hx hcd dL_options_17 (by decide) ?_
    exact g_iretL hC hr hlk hsz hW dL_options_18
  · have ho : (if E = "java/lang/IndexOutOfBoundsException" then some (1, f, q6.2) else none) = some q := by rw [hE] at ho; exact ho
    by_cases e0 : E = "java/lang/IndexOutOfBoundsException"
    · have ho := gif_p ho e0
      subst e0
      obtain rfl := Option.some.inj ho
      refine vx_catch hC.2.2.2.1 [] ⟨0, 10, 13, 21⟩ [] (by rw [ht]; rfl) (fun z hz => absurd hz List.not_mem_nil) rfl (by decide) (hC.2.2.2.2.1 _ lk_21) (va_Nw.use rfl (hY.1.1 _ cst_IndexOutOfBoundsException)) hce hcv hcl ?_
      refine lv_astore (lv' := [(4, .ref q9), (0, .ref (ad 0)), (1, .int x1), (2, .int x2), (3, .ref oa)]) hx hcd dL_options_13 hl (by decide) rfl (fun ls hl => ?_)
      refine lv_iconst (v := 1) hx hcd dL_options_15 (by decide) ?_
      exact g_iretL hC hr hlk hsz hW dL_options_16
    have ho := gif_n ho e0
    cases ho
noncomputable def L_cheapest (σ : gS) (f : (Nat → Int64)) (x1 : Int32) (x2 : Int32) : Option (Int32 × (Nat → Int64) × gS) :=
  (X6_cheapest σ x1 x2).bind fun q => match q.1 with
  | .inr r => some (0, vp_updL f 0 r.toInt64, q.2)
  | .inl E => if E = "java/lang/IndexOutOfBoundsException" then some (1, f, q.2) else (if E = "java/util/NoSuchElementException" then some (2, f, q.2) else none)
set_option maxHeartbeats 4000000 in
set_option maxRecDepth 100000 in
theorem c_L_cheapest (l : Launch) (hfl : l.stackTraces = false) (D : va_G) (y : ClassId × ClassId × ClassId) (ad : Nat → Nat) (x1 : Int32) (x2 : Int32) (σ : gS) (sz : Nat) (cL : ClassId) (oa : Nat) (f : (Nat → Int64)) {q : Int32 × (Nat → Int64) × gS} (h : L_cheapest σ f x1 x2 = some q) : Met l yL_cheapest (Cond.codeWith yL_cheapest cL_cheapest 5 (some .int) [(0, 10, 13, 21), (0, 10, 17, 37)] :: gl) ({ frames := 8, cells := 1, slots := 6, locals := 123 }) (g_PcL D y ad σ sz (cL, .long) oa (.inl (cL, 1, .inr (.inl f))) [.ref (ad 0), .int x1, .int x2, .ref oa]) (g_QL D y ad sz oa (q.1, .inl (cL, 1, .inr (.inl q.2.1)), q.2.2)) 1 6 (g_AL ad oa sz) := by
  have ho := h
  unfold L_cheapest at ho
  obtain ⟨q6, h6, ho⟩ := gb_some ho
  refine g_startL (by decide) (Nat.le_of_ble_eq_true rfl) (fun p e s m below meth c ls hC hr hlk hsz hW hl ht hY hKL => ?_)
  have hx := hC.1
  have hcd := hC.2.1
  have hl : lv_has ls 5 [(0, .ref (ad 0)), (1, .int x1), (2, .int x2), (3, .ref oa)] := hl
  refine lv_aload_n hx hcd dL_cheapest_0 rfl (lv_at hl 3 rfl) ?_
  refine lv_iconst (v := 0) hx hcd dL_cheapest_1 (by decide) ?_
  refine lv_aload_n hx hcd dL_cheapest_2 rfl (lv_at hl 0 rfl) ?_
  refine lv_iload_n hx hcd dL_cheapest_3 rfl (lv_at hl 1 rfl) ?_
  refine lv_iload_n hx hcd dL_cheapest_4 rfl (lv_at hl 2 rfl) ?_
  refine g_callX hW (g_runX (As := [.int x1, .int x2]) (rest := [.int 0, .ref oa]) hC hW rfl hY.1 (c_X6_cheapest l hfl D y ad x1 x2 σ _ h6) ok_L_63 ⟨rfl, rfl, Nat.le_of_ble_eq_true rfl, Nat.le_of_ble_eq_true rfl⟩ rfl hl.1 rfl (Nat.le_of_ble_eq_true rfl) dL_cheapest_5 ⟨Nat.le_of_ble_eq_true rfl, Nat.le_of_ble_eq_true rfl⟩) (fun r hr6 H locs hW => ?_) (fun E hE H locs ce q9 hW hce hcv hcl => ?_)
  · have ho : some (0, vp_updL f 0 r.toInt64, q6.2) = some q := by rw [hr6] at ho; exact ho
    obtain rfl := Option.some.inj ho
    refine lv_i2l (v := r.toInt64) hx hcd dL_cheapest_8 rfl ?_
    refine g_last hC hKL hW dL_cheapest_9 (fun H locs hW => ?_)
    refine lv_goto (tgt := 21) hx hcd dL_cheapest_10 (by decide) ?_
    refine lv_iconst (v := 0) hx hcd dL_cheapest_21 (by decide) ?_
    exact g_iretL hC hr hlk hsz hW dL_cheapest_22
  · have ho : (if E = "java/lang/IndexOutOfBoundsException" then some (1, f, q6.2) else (if E = "java/util/NoSuchElementException" then some (2, f, q6.2) else none)) = some q := by rw [hE] at ho; exact ho
    by_cases e0 : E = "java/lang/IndexOutOfBoundsException"
    · have ho := gif_p ho e0
      subst e0
      obtain rfl := Option.some.inj ho
      refine vx_catch hC.2.2.2.1 [] ⟨0, 10, 13, 21⟩ [⟨0, 10, 17, 37⟩] (by rw [ht]; rfl) (fun z hz => absurd hz List.not_mem_nil) rfl (by decide) (hC.2.2.2.2.1 _ lk_21) (va_Nw.use rfl (hY.1.1 _ cst_IndexOutOfBoundsException)) hce hcv hcl ?_
      refine lv_astore (lv' := [(4, .ref q9), (0, .ref (ad 0)), (1, .int x1), (2, .int x2), (3, .ref oa)]) hx hcd dL_cheapest_13 hl (by decide) rfl (fun ls hl => ?_)
      refine lv_iconst (v := 1) hx hcd dL_cheapest_15 (by decide) ?_
      exact g_iretL hC hr hlk hsz hW dL_cheapest_16
    have ho := gif_n ho e0
    by_cases e1 : E = "java/util/NoSuchElementException"
    · have ho := gif_p ho e1
      subst e1
      obtain rfl := Option.some.inj ho
      refine vx_catch hC.2.2.2.1 [⟨0, 10, 13, 21⟩] ⟨0, 10, 17, 37⟩ [] (by rw [ht]; rfl) (fun z hz => by simp only [List.mem_cons, List.not_mem_nil, or_false] at hz; rcases hz with rfl; exact Or.inr ⟨by decide, _, hC.2.2.2.2.1 _ lk_21, hY.2 ("java/util/NoSuchElementException", "java/lang/IndexOutOfBoundsException") (by decide)⟩) rfl (by decide) (hC.2.2.2.2.1 _ lk_37) (va_Nw.use rfl (hY.1.1 _ cst_NoSuchElementException)) hce hcv hcl ?_
      refine lv_astore (lv' := [(4, .ref q9), (0, .ref (ad 0)), (1, .int x1), (2, .int x2), (3, .ref oa)]) hx hcd dL_cheapest_17 hl (by decide) rfl (fun ls hl => ?_)
      refine lv_iconst (v := 2) hx hcd dL_cheapest_19 (by decide) ?_
      exact g_iretL hC hr hlk hsz hW dL_cheapest_20
    have ho := gif_n ho e1
    cases ho
noncomputable def L_lift (σ : gS) (f : (Nat → Int64)) (x1 : Int32) (x2 : Int32) : Option (Int32 × (Nat → Int64) × gS) :=
  (X6_lift σ x1 x2).bind fun q => match q.1 with
  | .inr r => some (0, vp_updL f 0 r.toInt64, q.2)
  | .inl E => if E = "java/lang/IndexOutOfBoundsException" then some (1, f, q.2) else (if E = "java/lang/IllegalStateException" then some (2, f, q.2) else none)
set_option maxHeartbeats 4000000 in
set_option maxRecDepth 100000 in
theorem c_L_lift (l : Launch) (hfl : l.stackTraces = false) (D : va_G) (y : ClassId × ClassId × ClassId) (ad : Nat → Nat) (x1 : Int32) (x2 : Int32) (σ : gS) (sz : Nat) (cL : ClassId) (oa : Nat) (f : (Nat → Int64)) {q : Int32 × (Nat → Int64) × gS} (h : L_lift σ f x1 x2 = some q) : Met l yL_lift (Cond.codeWith yL_lift cL_lift 5 (some .int) [(0, 10, 13, 21), (0, 10, 17, 15)] :: gl) ({ frames := 8, cells := 1, slots := 6, locals := 124 }) (g_PcL D y ad σ sz (cL, .long) oa (.inl (cL, 1, .inr (.inl f))) [.ref (ad 0), .int x1, .int x2, .ref oa]) (g_QL D y ad sz oa (q.1, .inl (cL, 1, .inr (.inl q.2.1)), q.2.2)) 1 6 (g_AL ad oa sz) := by
  have ho := h
  unfold L_lift at ho
  obtain ⟨q6, h6, ho⟩ := gb_some ho
  refine g_startL (by decide) (Nat.le_of_ble_eq_true rfl) (fun p e s m below meth c ls hC hr hlk hsz hW hl ht hY hKL => ?_)
  have hx := hC.1
  have hcd := hC.2.1
  have hl : lv_has ls 5 [(0, .ref (ad 0)), (1, .int x1), (2, .int x2), (3, .ref oa)] := hl
  refine lv_aload_n hx hcd dL_lift_0 rfl (lv_at hl 3 rfl) ?_
  refine lv_iconst (v := 0) hx hcd dL_lift_1 (by decide) ?_
  refine lv_aload_n hx hcd dL_lift_2 rfl (lv_at hl 0 rfl) ?_
  refine lv_iload_n hx hcd dL_lift_3 rfl (lv_at hl 1 rfl) ?_
  refine lv_iload_n hx hcd dL_lift_4 rfl (lv_at hl 2 rfl) ?_
  refine g_callX hW (g_runX (As := [.int x1, .int x2]) (rest := [.int 0, .ref oa]) hC hW rfl hY.1 (c_X6_lift l hfl D y ad x1 x2 σ _ h6) ok_L_66 ⟨rfl, rfl, Nat.le_of_ble_eq_true rfl, Nat.le_of_ble_eq_true rfl⟩ rfl hl.1 rfl (Nat.le_of_ble_eq_true rfl) dL_lift_5 ⟨Nat.le_of_ble_eq_true rfl, Nat.le_of_ble_eq_true rfl⟩) (fun r hr6 H locs hW => ?_) (fun E hE H locs ce q9 hW hce hcv hcl => ?_)
  · have ho : some (0, vp_updL f 0 r.toInt64, q6.2) = some q := by rw [hr6] at ho; exact ho
    obtain rfl := Option.some.inj ho
    refine lv_i2l (v := r.toInt64) hx hcd dL_lift_8 rfl ?_
    refine g_last hC hKL hW dL_lift_9 (fun H locs hW => ?_)
    refine lv_goto (tgt := 21) hx hcd dL_lift_10 (by decide) ?_
    refine lv_iconst (v := 0) hx hcd dL_lift_21 (by decide) ?_
    exact g_iretL hC hr hlk hsz hW dL_lift_22
  · have ho : (if E = "java/lang/IndexOutOfBoundsException" then some (1, f, q6.2) else (if E = "java/lang/IllegalStateException" then some (2, f, q6.2) else none)) = some q := by rw [hE] at ho; exact ho
    by_cases e0 : E = "java/lang/IndexOutOfBoundsException"
    · have ho := gif_p ho e0
      subst e0
      obtain rfl := Option.some.inj ho
      refine vx_catch hC.2.2.2.1 [] ⟨0, 10, 13, 21⟩ [⟨0, 10, 17, 15⟩] (by rw [ht]; rfl) (fun z hz => absurd hz List.not_mem_nil) rfl (by decide) (hC.2.2.2.2.1 _ lk_21) (va_Nw.use rfl (hY.1.1 _ cst_IndexOutOfBoundsException)) hce hcv hcl ?_
      refine lv_astore (lv' := [(4, .ref q9), (0, .ref (ad 0)), (1, .int x1), (2, .int x2), (3, .ref oa)]) hx hcd dL_lift_13 hl (by decide) rfl (fun ls hl => ?_)
      refine lv_iconst (v := 1) hx hcd dL_lift_15 (by decide) ?_
      exact g_iretL hC hr hlk hsz hW dL_lift_16
    have ho := gif_n ho e0
    by_cases e1 : E = "java/lang/IllegalStateException"
    · have ho := gif_p ho e1
      subst e1
      obtain rfl := Option.some.inj ho
      refine vx_catch hC.2.2.2.1 [⟨0, 10, 13, 21⟩] ⟨0, 10, 17, 15⟩ [] (by rw [ht]; rfl) (fun z hz => by simp only [List.mem_cons, List.not_mem_nil, or_false] at hz; rcases hz with rfl; exact Or.inr ⟨by decide, _, hC.2.2.2.2.1 _ lk_21, hY.2 ("java/lang/IllegalStateException", "java/lang/IndexOutOfBoundsException") (by decide)⟩) rfl (by decide) (hC.2.2.2.2.1 _ lk_15) (va_Nw.use rfl (hY.1.1 _ cst_IllegalStateException)) hce hcv hcl ?_
      refine lv_astore (lv' := [(4, .ref q9), (0, .ref (ad 0)), (1, .int x1), (2, .int x2), (3, .ref oa)]) hx hcd dL_lift_17 hl (by decide) rfl (fun ls hl => ?_)
      refine lv_iconst (v := 2) hx hcd dL_lift_19 (by decide) ?_
      exact g_iretL hC hr hlk hsz hW dL_lift_20
    have ho := gif_n ho e1
    cases ho
noncomputable def L_reason (σ : gS) (f : (Nat → Int64)) : Option (Int32 × (Nat → Int64) × gS) :=
  (X6_reason σ).bind fun q => match q.1 with
  | .inr r => some (0, vp_updL f 0 r.toInt64, q.2)
  | .inl E => if E = "java/util/NoSuchElementException" then some (1, f, q.2) else none
set_option maxHeartbeats 4000000 in
set_option maxRecDepth 100000 in
theorem c_L_reason (l : Launch) (hfl : l.stackTraces = false) (D : va_G) (y : ClassId × ClassId × ClassId) (ad : Nat → Nat) (σ : gS) (sz : Nat) (cL : ClassId) (oa : Nat) (f : (Nat → Int64)) {q : Int32 × (Nat → Int64) × gS} (h : L_reason σ f = some q) : Met l yL_reason (Cond.codeWith yL_reason cL_reason 3 (some .int) [(0, 8, 11, 37)] :: gl) ({ frames := 8, cells := 1, slots := 6, locals := 120 }) (g_PcL D y ad σ sz (cL, .long) oa (.inl (cL, 1, .inr (.inl f))) [.ref (ad 0), .ref oa]) (g_QL D y ad sz oa (q.1, .inl (cL, 1, .inr (.inl q.2.1)), q.2.2)) 1 6 (g_AL ad oa sz) := by
  have ho := h
  unfold L_reason at ho
  obtain ⟨q6, h6, ho⟩ := gb_some ho
  refine g_startL (by decide) (Nat.le_of_ble_eq_true rfl) (fun p e s m below meth c ls hC hr hlk hsz hW hl ht hY hKL => ?_)
  have hx := hC.1
  have hcd := hC.2.1
  have hl : lv_has ls 3 [(0, .ref (ad 0)), (1, .ref oa)] := hl
  refine lv_aload_n hx hcd dL_reason_0 rfl (lv_at hl 1 rfl) ?_
  refine lv_iconst (v := 0) hx hcd dL_reason_1 (by decide) ?_
  refine lv_aload_n hx hcd dL_reason_2 rfl (lv_at hl 0 rfl) ?_
  refine g_callX hW (g_runX (As := []) (rest := [.int 0, .ref oa]) hC hW rfl hY.1 (c_X6_reason l hfl D y ad σ _ h6) ok_L_69 ⟨rfl, rfl, Nat.le_of_ble_eq_true rfl, Nat.le_of_ble_eq_true rfl⟩ rfl hl.1 rfl (Nat.le_of_ble_eq_true rfl) dL_reason_3 ⟨Nat.le_of_ble_eq_true rfl, Nat.le_of_ble_eq_true rfl⟩) (fun r hr6 H locs hW => ?_) (fun E hE H locs ce q9 hW hce hcv hcl => ?_)
  · have ho : some (0, vp_updL f 0 r.toInt64, q6.2) = some q := by rw [hr6] at ho; exact ho
    obtain rfl := Option.some.inj ho
    refine lv_i2l (v := r.toInt64) hx hcd dL_reason_6 rfl ?_
    refine g_last hC hKL hW dL_reason_7 (fun H locs hW => ?_)
    refine lv_goto (tgt := 14) hx hcd dL_reason_8 (by decide) ?_
    refine lv_iconst (v := 0) hx hcd dL_reason_14 (by decide) ?_
    exact g_iretL hC hr hlk hsz hW dL_reason_15
  · have ho : (if E = "java/util/NoSuchElementException" then some (1, f, q6.2) else none) = some q := by rw [hE] at ho; exact ho
    by_cases e0 : E = "java/util/NoSuchElementException"
    · have ho := gif_p ho e0
      subst e0
      obtain rfl := Option.some.inj ho
      refine vx_catch hC.2.2.2.1 [] ⟨0, 8, 11, 37⟩ [] (by rw [ht]; rfl) (fun z hz => absurd hz List.not_mem_nil) rfl (by decide) (hC.2.2.2.2.1 _ lk_37) (va_Nw.use rfl (hY.1.1 _ cst_NoSuchElementException)) hce hcv hcl ?_
      refine lv_astore_n (lv' := [(2, .ref q9), (0, .ref (ad 0)), (1, .ref oa)]) hx hcd dL_reason_11 rfl hl (by decide) rfl (fun ls hl => ?_)
      refine lv_iconst (v := 1) hx hcd dL_reason_12 (by decide) ?_
      exact g_iretL hC hr hlk hsz hW dL_reason_13
    have ho := gif_n ho e0
    cases ho
noncomputable def L_tow (σ : gS) (f : (Nat → Int64)) (x1 : Int32) (x2 : Int32) : Option (Int32 × (Nat → Int64) × gS) :=
  (X6_tow σ x1 x2).bind fun q => match q.1 with
  | .inr r => some (0, vp_updL f 0 r.toInt64, q.2)
  | .inl E => if E = "java/lang/IndexOutOfBoundsException" then some (1, f, q.2) else (if E = "java/lang/IllegalArgumentException" then some (2, f, q.2) else (if E = "java/lang/IllegalStateException" then some (3, f, q.2) else none))
set_option maxHeartbeats 4000000 in
set_option maxRecDepth 100000 in
theorem c_L_tow (l : Launch) (hfl : l.stackTraces = false) (D : va_G) (y : ClassId × ClassId × ClassId) (ad : Nat → Nat) (x1 : Int32) (x2 : Int32) (σ : gS) (sz : Nat) (cL : ClassId) (oa : Nat) (f : (Nat → Int64)) {q : Int32 × (Nat → Int64) × gS} (h : L_tow σ f x1 x2 = some q) : Met l yL_tow (Cond.codeWith yL_tow cL_tow 5 (some .int) [(0, 10, 13, 21), (0, 10, 17, 13), (0, 10, 21, 15)] :: gl) ({ frames := 8, cells := 1, slots := 6, locals := 122 }) (g_PcL D y ad σ sz (cL, .long) oa (.inl (cL, 1, .inr (.inl f))) [.ref (ad 0), .int x1, .int x2, .ref oa]) (g_QL D y ad sz oa (q.1, .inl (cL, 1, .inr (.inl q.2.1)), q.2.2)) 1 6 (g_AL ad oa sz) := by
  have ho := h
  unfold L_tow at ho
  obtain ⟨q6, h6, ho⟩ := gb_some ho
  refine g_startL (by decide) (Nat.le_of_ble_eq_true rfl) (fun p e s m below meth c ls hC hr hlk hsz hW hl ht hY hKL => ?_)
  have hx := hC.1
  have hcd := hC.2.1
  have hl : lv_has ls 5 [(0, .ref (ad 0)), (1, .int x1), (2, .int x2), (3, .ref oa)] := hl
  refine lv_aload_n hx hcd dL_tow_0 rfl (lv_at hl 3 rfl) ?_
  refine lv_iconst (v := 0) hx hcd dL_tow_1 (by decide) ?_
  refine lv_aload_n hx hcd dL_tow_2 rfl (lv_at hl 0 rfl) ?_
  refine lv_iload_n hx hcd dL_tow_3 rfl (lv_at hl 1 rfl) ?_
  refine lv_iload_n hx hcd dL_tow_4 rfl (lv_at hl 2 rfl) ?_
  refine g_callX hW (g_runX (As := [.int x1, .int x2]) (rest := [.int 0, .ref oa]) hC hW rfl hY.1 (c_X6_tow l hfl D y ad x1 x2 σ _ h6) ok_L_73 ⟨rfl, rfl, Nat.le_of_ble_eq_true rfl, Nat.le_of_ble_eq_true rfl⟩ rfl hl.1 rfl (Nat.le_of_ble_eq_true rfl) dL_tow_5 ⟨Nat.le_of_ble_eq_true rfl, Nat.le_of_ble_eq_true rfl⟩) (fun r hr6 H locs hW => ?_) (fun E hE H locs ce q9 hW hce hcv hcl => ?_)
  · have ho : some (0, vp_updL f 0 r.toInt64, q6.2) = some q := by rw [hr6] at ho; exact ho
    obtain rfl := Option.some.inj ho
    refine lv_i2l (v := r.toInt64) hx hcd dL_tow_8 rfl ?_
    refine g_last hC hKL hW dL_tow_9 (fun H locs hW => ?_)
    refine lv_goto (tgt := 25) hx hcd dL_tow_10 (by decide) ?_
    refine lv_iconst (v := 0) hx hcd dL_tow_25 (by decide) ?_
    exact g_iretL hC hr hlk hsz hW dL_tow_26
  · have ho : (if E = "java/lang/IndexOutOfBoundsException" then some (1, f, q6.2) else (if E = "java/lang/IllegalArgumentException" then some (2, f, q6.2) else (if E = "java/lang/IllegalStateException" then some (3, f, q6.2) else none))) = some q := by rw [hE] at ho; exact ho
    by_cases e0 : E = "java/lang/IndexOutOfBoundsException"
    · have ho := gif_p ho e0
      subst e0
      obtain rfl := Option.some.inj ho
      refine vx_catch hC.2.2.2.1 [] ⟨0, 10, 13, 21⟩ [⟨0, 10, 17, 13⟩, ⟨0, 10, 21, 15⟩] (by rw [ht]; rfl) (fun z hz => absurd hz List.not_mem_nil) rfl (by decide) (hC.2.2.2.2.1 _ lk_21) (va_Nw.use rfl (hY.1.1 _ cst_IndexOutOfBoundsException)) hce hcv hcl ?_
      refine lv_astore (lv' := [(4, .ref q9), (0, .ref (ad 0)), (1, .int x1), (2, .int x2), (3, .ref oa)]) hx hcd dL_tow_13 hl (by decide) rfl (fun ls hl => ?_)
      refine lv_iconst (v := 1) hx hcd dL_tow_15 (by decide) ?_
      exact g_iretL hC hr hlk hsz hW dL_tow_16
    have ho := gif_n ho e0
    by_cases e1 : E = "java/lang/IllegalArgumentException"
    · have ho := gif_p ho e1
      subst e1
      obtain rfl := Option.some.inj ho
      refine vx_catch hC.2.2.2.1 [⟨0, 10, 13, 21⟩] ⟨0, 10, 17, 13⟩ [⟨0, 10, 21, 15⟩] (by rw [ht]; rfl) (fun z hz => by simp only [List.mem_cons, List.not_mem_nil, or_false] at hz; rcases hz with rfl; exact Or.inr ⟨by decide, _, hC.2.2.2.2.1 _ lk_21, hY.2 ("java/lang/IllegalArgumentException", "java/lang/IndexOutOfBoundsException") (by decide)⟩) rfl (by decide) (hC.2.2.2.2.1 _ lk_13) (va_Nw.use rfl (hY.1.1 _ cst_IllegalArgumentException)) hce hcv hcl ?_
      refine lv_astore (lv' := [(4, .ref q9), (0, .ref (ad 0)), (1, .int x1), (2, .int x2), (3, .ref oa)]) hx hcd dL_tow_17 hl (by decide) rfl (fun ls hl => ?_)
      refine lv_iconst (v := 2) hx hcd dL_tow_19 (by decide) ?_
      exact g_iretL hC hr hlk hsz hW dL_tow_20
    have ho := gif_n ho e1
    by_cases e2 : E = "java/lang/IllegalStateException"
    · have ho := gif_p ho e2
      subst e2
      obtain rfl := Option.some.inj ho
      refine vx_catch hC.2.2.2.1 [⟨0, 10, 13, 21⟩, ⟨0, 10, 17, 13⟩] ⟨0, 10, 21, 15⟩ [] (by rw [ht]; rfl) (fun z hz => by
        simp only [List.mem_cons, List.not_mem_nil, or_false] at hz
        rcases hz with rfl | rfl
        · exact Or.inr ⟨by decide, _, hC.2.2.2.2.1 _ lk_21, hY.2 ("java/lang/IllegalStateException", "java/lang/IndexOutOfBoundsException") (by decide)⟩
        · exact Or.inr ⟨by decide, _, hC.2.2.2.2.1 _ lk_13, hY.2 ("java/lang/IllegalStateException", "java/lang/IllegalArgumentException") (by decide)⟩) rfl (by decide) (hC.2.2.2.2.1 _ lk_15) (va_Nw.use rfl (hY.1.1 _ cst_IllegalStateException)) hce hcv hcl ?_
      refine lv_astore (lv' := [(4, .ref q9), (0, .ref (ad 0)), (1, .int x1), (2, .int x2), (3, .ref oa)]) hx hcd dL_tow_21 hl (by decide) rfl (fun ls hl => ?_)
      refine lv_iconst (v := 3) hx hcd dL_tow_23 (by decide) ?_
      exact g_iretL hC hr hlk hsz hW dL_tow_24
    have ho := gif_n ho e2
    cases ho
noncomputable def L_untow (σ : gS) (f : (Nat → Int64)) (x1 : Int32) : Option (Int32 × (Nat → Int64) × gS) :=
  (X6_untow σ x1).bind fun q => match q.1 with
  | .inr r => some (0, vp_updL f 0 r.toInt64, q.2)
  | .inl E => if E = "java/lang/IndexOutOfBoundsException" then some (1, f, q.2) else (if E = "java/lang/IllegalStateException" then some (2, f, q.2) else none)
set_option maxHeartbeats 4000000 in
set_option maxRecDepth 100000 in
theorem c_L_untow (l : Launch) (hfl : l.stackTraces = false) (D : va_G) (y : ClassId × ClassId × ClassId) (ad : Nat → Nat) (x1 : Int32) (σ : gS) (sz : Nat) (cL : ClassId) (oa : Nat) (f : (Nat → Int64)) {q : Int32 × (Nat → Int64) × gS} (h : L_untow σ f x1 = some q) : Met l yL_untow (Cond.codeWith yL_untow cL_untow 4 (some .int) [(0, 9, 12, 21), (0, 9, 15, 15)] :: gl) ({ frames := 8, cells := 1, slots := 6, locals := 121 }) (g_PcL D y ad σ sz (cL, .long) oa (.inl (cL, 1, .inr (.inl f))) [.ref (ad 0), .int x1, .ref oa]) (g_QL D y ad sz oa (q.1, .inl (cL, 1, .inr (.inl q.2.1)), q.2.2)) 1 6 (g_AL ad oa sz) := by
  have ho := h
  unfold L_untow at ho
  obtain ⟨q6, h6, ho⟩ := gb_some ho
  refine g_startL (by decide) (Nat.le_of_ble_eq_true rfl) (fun p e s m below meth c ls hC hr hlk hsz hW hl ht hY hKL => ?_)
  have hx := hC.1
  have hcd := hC.2.1
  have hl : lv_has ls 4 [(0, .ref (ad 0)), (1, .int x1), (2, .ref oa)] := hl
  refine lv_aload_n hx hcd dL_untow_0 rfl (lv_at hl 2 rfl) ?_
  refine lv_iconst (v := 0) hx hcd dL_untow_1 (by decide) ?_
  refine lv_aload_n hx hcd dL_untow_2 rfl (lv_at hl 0 rfl) ?_
  refine lv_iload_n hx hcd dL_untow_3 rfl (lv_at hl 1 rfl) ?_
  refine g_callX hW (g_runX (As := [.int x1]) (rest := [.int 0, .ref oa]) hC hW rfl hY.1 (c_X6_untow l hfl D y ad x1 σ _ h6) ok_L_76 ⟨rfl, rfl, Nat.le_of_ble_eq_true rfl, Nat.le_of_ble_eq_true rfl⟩ rfl hl.1 rfl (Nat.le_of_ble_eq_true rfl) dL_untow_4 ⟨Nat.le_of_ble_eq_true rfl, Nat.le_of_ble_eq_true rfl⟩) (fun r hr6 H locs hW => ?_) (fun E hE H locs ce q9 hW hce hcv hcl => ?_)
  · have ho : some (0, vp_updL f 0 r.toInt64, q6.2) = some q := by rw [hr6] at ho; exact ho
    obtain rfl := Option.some.inj ho
    refine lv_i2l (v := r.toInt64) hx hcd dL_untow_7 rfl ?_
    refine g_last hC hKL hW dL_untow_8 (fun H locs hW => ?_)
    refine lv_goto (tgt := 18) hx hcd dL_untow_9 (by decide) ?_
    refine lv_iconst (v := 0) hx hcd dL_untow_18 (by decide) ?_
    exact g_iretL hC hr hlk hsz hW dL_untow_19
  · have ho : (if E = "java/lang/IndexOutOfBoundsException" then some (1, f, q6.2) else (if E = "java/lang/IllegalStateException" then some (2, f, q6.2) else none)) = some q := by rw [hE] at ho; exact ho
    by_cases e0 : E = "java/lang/IndexOutOfBoundsException"
    · have ho := gif_p ho e0
      subst e0
      obtain rfl := Option.some.inj ho
      refine vx_catch hC.2.2.2.1 [] ⟨0, 9, 12, 21⟩ [⟨0, 9, 15, 15⟩] (by rw [ht]; rfl) (fun z hz => absurd hz List.not_mem_nil) rfl (by decide) (hC.2.2.2.2.1 _ lk_21) (va_Nw.use rfl (hY.1.1 _ cst_IndexOutOfBoundsException)) hce hcv hcl ?_
      refine lv_astore_n (lv' := [(3, .ref q9), (0, .ref (ad 0)), (1, .int x1), (2, .ref oa)]) hx hcd dL_untow_12 rfl hl (by decide) rfl (fun ls hl => ?_)
      refine lv_iconst (v := 1) hx hcd dL_untow_13 (by decide) ?_
      exact g_iretL hC hr hlk hsz hW dL_untow_14
    have ho := gif_n ho e0
    by_cases e1 : E = "java/lang/IllegalStateException"
    · have ho := gif_p ho e1
      subst e1
      obtain rfl := Option.some.inj ho
      refine vx_catch hC.2.2.2.1 [⟨0, 9, 12, 21⟩] ⟨0, 9, 15, 15⟩ [] (by rw [ht]; rfl) (fun z hz => by simp only [List.mem_cons, List.not_mem_nil, or_false] at hz; rcases hz with rfl; exact Or.inr ⟨by decide, _, hC.2.2.2.2.1 _ lk_21, hY.2 ("java/lang/IllegalStateException", "java/lang/IndexOutOfBoundsException") (by decide)⟩) rfl (by decide) (hC.2.2.2.2.1 _ lk_15) (va_Nw.use rfl (hY.1.1 _ cst_IllegalStateException)) hce hcv hcl ?_
      refine lv_astore_n (lv' := [(3, .ref q9), (0, .ref (ad 0)), (1, .int x1), (2, .ref oa)]) hx hcd dL_untow_15 rfl hl (by decide) rfl (fun ls hl => ?_)
      refine lv_iconst (v := 2) hx hcd dL_untow_16 (by decide) ?_
      exact g_iretL hC hr hlk hsz hW dL_untow_17
    have ho := gif_n ho e1
    cases ho
noncomputable def L_delay (σ : gS) (f : (Nat → Int64)) (x1 : Int32) (x2 : Int32) : Option (Int32 × (Nat → Int64) × gS) :=
  (X6_delay σ x1 x2).bind fun q => match q.1 with
  | .inr r => some (0, vp_updL f 0 r.toInt64, q.2)
  | .inl E => if E = "java/lang/IndexOutOfBoundsException" then some (1, f, q.2) else (if E = "java/lang/IllegalArgumentException" then some (2, f, q.2) else (if E = "java/lang/IllegalStateException" then some (3, f, q.2) else none))
set_option maxHeartbeats 4000000 in
set_option maxRecDepth 100000 in
theorem c_L_delay (l : Launch) (hfl : l.stackTraces = false) (D : va_G) (y : ClassId × ClassId × ClassId) (ad : Nat → Nat) (x1 : Int32) (x2 : Int32) (σ : gS) (sz : Nat) (cL : ClassId) (oa : Nat) (f : (Nat → Int64)) {q : Int32 × (Nat → Int64) × gS} (h : L_delay σ f x1 x2 = some q) : Met l yL_delay (Cond.codeWith yL_delay cL_delay 5 (some .int) [(0, 10, 13, 21), (0, 10, 17, 13), (0, 10, 21, 15)] :: gl) ({ frames := 8, cells := 1, slots := 6, locals := 122 }) (g_PcL D y ad σ sz (cL, .long) oa (.inl (cL, 1, .inr (.inl f))) [.ref (ad 0), .int x1, .int x2, .ref oa]) (g_QL D y ad sz oa (q.1, .inl (cL, 1, .inr (.inl q.2.1)), q.2.2)) 1 6 (g_AL ad oa sz) := by
  have ho := h
  unfold L_delay at ho
  obtain ⟨q6, h6, ho⟩ := gb_some ho
  refine g_startL (by decide) (Nat.le_of_ble_eq_true rfl) (fun p e s m below meth c ls hC hr hlk hsz hW hl ht hY hKL => ?_)
  have hx := hC.1
  have hcd := hC.2.1
  have hl : lv_has ls 5 [(0, .ref (ad 0)), (1, .int x1), (2, .int x2), (3, .ref oa)] := hl
  refine lv_aload_n hx hcd dL_delay_0 rfl (lv_at hl 3 rfl) ?_
  refine lv_iconst (v := 0) hx hcd dL_delay_1 (by decide) ?_
  refine lv_aload_n hx hcd dL_delay_2 rfl (lv_at hl 0 rfl) ?_
  refine lv_iload_n hx hcd dL_delay_3 rfl (lv_at hl 1 rfl) ?_
  refine lv_iload_n hx hcd dL_delay_4 rfl (lv_at hl 2 rfl) ?_
  refine g_callX hW (g_runX (As := [.int x1, .int x2]) (rest := [.int 0, .ref oa]) hC hW rfl hY.1 (c_X6_delay l hfl D y ad x1 x2 σ _ h6) ok_L_79 ⟨rfl, rfl, Nat.le_of_ble_eq_true rfl, Nat.le_of_ble_eq_true rfl⟩ rfl hl.1 rfl (Nat.le_of_ble_eq_true rfl) dL_delay_5 ⟨Nat.le_of_ble_eq_true rfl, Nat.le_of_ble_eq_true rfl⟩) (fun r hr6 H locs hW => ?_) (fun E hE H locs ce q9 hW hce hcv hcl => ?_)
  · have ho : some (0, vp_updL f 0 r.toInt64, q6.2) = some q := by rw [hr6] at ho; exact ho
    obtain rfl := Option.some.inj ho
    refine lv_i2l (v := r.toInt64) hx hcd dL_delay_8 rfl ?_
    refine g_last hC hKL hW dL_delay_9 (fun H locs hW => ?_)
    refine lv_goto (tgt := 25) hx hcd dL_delay_10 (by decide) ?_
    refine lv_iconst (v := 0) hx hcd dL_delay_25 (by decide) ?_
    exact g_iretL hC hr hlk hsz hW dL_delay_26
  · have ho : (if E = "java/lang/IndexOutOfBoundsException" then some (1, f, q6.2) else (if E = "java/lang/IllegalArgumentException" then some (2, f, q6.2) else (if E = "java/lang/IllegalStateException" then some (3, f, q6.2) else none))) = some q := by rw [hE] at ho; exact ho
    by_cases e0 : E = "java/lang/IndexOutOfBoundsException"
    · have ho := gif_p ho e0
      subst e0
      obtain rfl := Option.some.inj ho
      refine vx_catch hC.2.2.2.1 [] ⟨0, 10, 13, 21⟩ [⟨0, 10, 17, 13⟩, ⟨0, 10, 21, 15⟩] (by rw [ht]; rfl) (fun z hz => absurd hz List.not_mem_nil) rfl (by decide) (hC.2.2.2.2.1 _ lk_21) (va_Nw.use rfl (hY.1.1 _ cst_IndexOutOfBoundsException)) hce hcv hcl ?_
      refine lv_astore (lv' := [(4, .ref q9), (0, .ref (ad 0)), (1, .int x1), (2, .int x2), (3, .ref oa)]) hx hcd dL_delay_13 hl (by decide) rfl (fun ls hl => ?_)
      refine lv_iconst (v := 1) hx hcd dL_delay_15 (by decide) ?_
      exact g_iretL hC hr hlk hsz hW dL_delay_16
    have ho := gif_n ho e0
    by_cases e1 : E = "java/lang/IllegalArgumentException"
    · have ho := gif_p ho e1
      subst e1
      obtain rfl := Option.some.inj ho
      refine vx_catch hC.2.2.2.1 [⟨0, 10, 13, 21⟩] ⟨0, 10, 17, 13⟩ [⟨0, 10, 21, 15⟩] (by rw [ht]; rfl) (fun z hz => by simp only [List.mem_cons, List.not_mem_nil, or_false] at hz; rcases hz with rfl; exact Or.inr ⟨by decide, _, hC.2.2.2.2.1 _ lk_21, hY.2 ("java/lang/IllegalArgumentException", "java/lang/IndexOutOfBoundsException") (by decide)⟩) rfl (by decide) (hC.2.2.2.2.1 _ lk_13) (va_Nw.use rfl (hY.1.1 _ cst_IllegalArgumentException)) hce hcv hcl ?_
      refine lv_astore (lv' := [(4, .ref q9), (0, .ref (ad 0)), (1, .int x1), (2, .int x2), (3, .ref oa)]) hx hcd dL_delay_17 hl (by decide) rfl (fun ls hl => ?_)
      refine lv_iconst (v := 2) hx hcd dL_delay_19 (by decide) ?_
      exact g_iretL hC hr hlk hsz hW dL_delay_20
    have ho := gif_n ho e1
    by_cases e2 : E = "java/lang/IllegalStateException"
    · have ho := gif_p ho e2
      subst e2
      obtain rfl := Option.some.inj ho
      refine vx_catch hC.2.2.2.1 [⟨0, 10, 13, 21⟩, ⟨0, 10, 17, 13⟩] ⟨0, 10, 21, 15⟩ [] (by rw [ht]; rfl) (fun z hz => by
        simp only [List.mem_cons, List.not_mem_nil, or_false] at hz
        rcases hz with rfl | rfl
        · exact Or.inr ⟨by decide, _, hC.2.2.2.2.1 _ lk_21, hY.2 ("java/lang/IllegalStateException", "java/lang/IndexOutOfBoundsException") (by decide)⟩
        · exact Or.inr ⟨by decide, _, hC.2.2.2.2.1 _ lk_13, hY.2 ("java/lang/IllegalStateException", "java/lang/IllegalArgumentException") (by decide)⟩) rfl (by decide) (hC.2.2.2.2.1 _ lk_15) (va_Nw.use rfl (hY.1.1 _ cst_IllegalStateException)) hce hcv hcl ?_
      refine lv_astore (lv' := [(4, .ref q9), (0, .ref (ad 0)), (1, .int x1), (2, .int x2), (3, .ref oa)]) hx hcd dL_delay_21 hl (by decide) rfl (fun ls hl => ?_)
      refine lv_iconst (v := 3) hx hcd dL_delay_23 (by decide) ?_
      exact g_iretL hC hr hlk hsz hW dL_delay_24
    have ho := gif_n ho e2
    cases ho
noncomputable def L_towGain (σ : gS) (f : (Nat → Int64)) (x1 : Int32) (x2 : Int32) : Option (Int32 × (Nat → Int64) × gS) :=
  (X6_towGain σ x1 x2).bind fun q => match q.1 with
  | .inr r => some (0, vp_updL f 0 r.toInt64, q.2)
  | .inl E => if E = "java/lang/IndexOutOfBoundsException" then some (1, f, q.2) else (if E = "java/lang/IllegalArgumentException" then some (2, f, q.2) else (if E = "java/lang/IllegalStateException" then some (3, f, q.2) else none))
set_option maxHeartbeats 4000000 in
set_option maxRecDepth 100000 in
theorem c_L_towGain (l : Launch) (hfl : l.stackTraces = false) (D : va_G) (y : ClassId × ClassId × ClassId) (ad : Nat → Nat) (x1 : Int32) (x2 : Int32) (σ : gS) (sz : Nat) (cL : ClassId) (oa : Nat) (f : (Nat → Int64)) {q : Int32 × (Nat → Int64) × gS} (h : L_towGain σ f x1 x2 = some q) : Met l yL_towGain (Cond.codeWith yL_towGain cL_towGain 5 (some .int) [(0, 10, 13, 21), (0, 10, 17, 13), (0, 10, 21, 15)] :: gl) ({ frames := 8, cells := 1, slots := 6, locals := 144 }) (g_PcL D y ad σ sz (cL, .long) oa (.inl (cL, 1, .inr (.inl f))) [.ref (ad 0), .int x1, .int x2, .ref oa]) (g_QL D y ad sz oa (q.1, .inl (cL, 1, .inr (.inl q.2.1)), q.2.2)) 1 6 (g_AL ad oa sz) := by
  have ho := h
  unfold L_towGain at ho
  obtain ⟨q6, h6, ho⟩ := gb_some ho
  refine g_startL (by decide) (Nat.le_of_ble_eq_true rfl) (fun p e s m below meth c ls hC hr hlk hsz hW hl ht hY hKL => ?_)
  have hx := hC.1
  have hcd := hC.2.1
  have hl : lv_has ls 5 [(0, .ref (ad 0)), (1, .int x1), (2, .int x2), (3, .ref oa)] := hl
  refine lv_aload_n hx hcd dL_towGain_0 rfl (lv_at hl 3 rfl) ?_
  refine lv_iconst (v := 0) hx hcd dL_towGain_1 (by decide) ?_
  refine lv_aload_n hx hcd dL_towGain_2 rfl (lv_at hl 0 rfl) ?_
  refine lv_iload_n hx hcd dL_towGain_3 rfl (lv_at hl 1 rfl) ?_
  refine lv_iload_n hx hcd dL_towGain_4 rfl (lv_at hl 2 rfl) ?_
  refine g_callX hW (g_runX (As := [.int x1, .int x2]) (rest := [.int 0, .ref oa]) hC hW rfl hY.1 (c_X6_towGain l hfl D y ad x1 x2 σ _ h6) ok_L_82 ⟨rfl, rfl, Nat.le_of_ble_eq_true rfl, Nat.le_of_ble_eq_true rfl⟩ rfl hl.1 rfl (Nat.le_of_ble_eq_true rfl) dL_towGain_5 ⟨Nat.le_of_ble_eq_true rfl, Nat.le_of_ble_eq_true rfl⟩) (fun r hr6 H locs hW => ?_) (fun E hE H locs ce q9 hW hce hcv hcl => ?_)
  · have ho : some (0, vp_updL f 0 r.toInt64, q6.2) = some q := by rw [hr6] at ho; exact ho
    obtain rfl := Option.some.inj ho
    refine lv_i2l (v := r.toInt64) hx hcd dL_towGain_8 rfl ?_
    refine g_last hC hKL hW dL_towGain_9 (fun H locs hW => ?_)
    refine lv_goto (tgt := 25) hx hcd dL_towGain_10 (by decide) ?_
    refine lv_iconst (v := 0) hx hcd dL_towGain_25 (by decide) ?_
    exact g_iretL hC hr hlk hsz hW dL_towGain_26
  · have ho : (if E = "java/lang/IndexOutOfBoundsException" then some (1, f, q6.2) else (if E = "java/lang/IllegalArgumentException" then some (2, f, q6.2) else (if E = "java/lang/IllegalStateException" then some (3, f, q6.2) else none))) = some q := by rw [hE] at ho; exact ho
    by_cases e0 : E = "java/lang/IndexOutOfBoundsException"
    · have ho := gif_p ho e0
      subst e0
      obtain rfl := Option.some.inj ho
      refine vx_catch hC.2.2.2.1 [] ⟨0, 10, 13, 21⟩ [⟨0, 10, 17, 13⟩, ⟨0, 10, 21, 15⟩] (by rw [ht]; rfl) (fun z hz => absurd hz List.not_mem_nil) rfl (by decide) (hC.2.2.2.2.1 _ lk_21) (va_Nw.use rfl (hY.1.1 _ cst_IndexOutOfBoundsException)) hce hcv hcl ?_
      refine lv_astore (lv' := [(4, .ref q9), (0, .ref (ad 0)), (1, .int x1), (2, .int x2), (3, .ref oa)]) hx hcd dL_towGain_13 hl (by decide) rfl (fun ls hl => ?_)
      refine lv_iconst (v := 1) hx hcd dL_towGain_15 (by decide) ?_
      exact g_iretL hC hr hlk hsz hW dL_towGain_16
    have ho := gif_n ho e0
    by_cases e1 : E = "java/lang/IllegalArgumentException"
    · have ho := gif_p ho e1
      subst e1
      obtain rfl := Option.some.inj ho
      refine vx_catch hC.2.2.2.1 [⟨0, 10, 13, 21⟩] ⟨0, 10, 17, 13⟩ [⟨0, 10, 21, 15⟩] (by rw [ht]; rfl) (fun z hz => by simp only [List.mem_cons, List.not_mem_nil, or_false] at hz; rcases hz with rfl; exact Or.inr ⟨by decide, _, hC.2.2.2.2.1 _ lk_21, hY.2 ("java/lang/IllegalArgumentException", "java/lang/IndexOutOfBoundsException") (by decide)⟩) rfl (by decide) (hC.2.2.2.2.1 _ lk_13) (va_Nw.use rfl (hY.1.1 _ cst_IllegalArgumentException)) hce hcv hcl ?_
      refine lv_astore (lv' := [(4, .ref q9), (0, .ref (ad 0)), (1, .int x1), (2, .int x2), (3, .ref oa)]) hx hcd dL_towGain_17 hl (by decide) rfl (fun ls hl => ?_)
      refine lv_iconst (v := 2) hx hcd dL_towGain_19 (by decide) ?_
      exact g_iretL hC hr hlk hsz hW dL_towGain_20
    have ho := gif_n ho e1
    by_cases e2 : E = "java/lang/IllegalStateException"
    · have ho := gif_p ho e2
      subst e2
      obtain rfl := Option.some.inj ho
      refine vx_catch hC.2.2.2.1 [⟨0, 10, 13, 21⟩, ⟨0, 10, 17, 13⟩] ⟨0, 10, 21, 15⟩ [] (by rw [ht]; rfl) (fun z hz => by
        simp only [List.mem_cons, List.not_mem_nil, or_false] at hz
        rcases hz with rfl | rfl
        · exact Or.inr ⟨by decide, _, hC.2.2.2.2.1 _ lk_21, hY.2 ("java/lang/IllegalStateException", "java/lang/IndexOutOfBoundsException") (by decide)⟩
        · exact Or.inr ⟨by decide, _, hC.2.2.2.2.1 _ lk_13, hY.2 ("java/lang/IllegalStateException", "java/lang/IllegalArgumentException") (by decide)⟩) rfl (by decide) (hC.2.2.2.2.1 _ lk_15) (va_Nw.use rfl (hY.1.1 _ cst_IllegalStateException)) hce hcv hcl ?_
      refine lv_astore (lv' := [(4, .ref q9), (0, .ref (ad 0)), (1, .int x1), (2, .int x2), (3, .ref oa)]) hx hcd dL_towGain_21 hl (by decide) rfl (fun ls hl => ?_)
      refine lv_iconst (v := 3) hx hcd dL_towGain_23 (by decide) ?_
      exact g_iretL hC hr hlk hsz hW dL_towGain_24
    have ho := gif_n ho e2
    cases ho
noncomputable def L_leastMoves (σ : gS) (f : (Nat → Int64)) : Option (Int32 × (Nat → Int64) × gS) :=
  (X6_leastMoves σ).bind fun q => match q.1 with
  | .inr r => some (0, vp_updL f 0 r.toInt64, q.2)
  | .inl E => if E = "java/util/NoSuchElementException" then some (1, f, q.2) else none
set_option maxHeartbeats 4000000 in
set_option maxRecDepth 100000 in
theorem c_L_leastMoves (l : Launch) (hfl : l.stackTraces = false) (D : va_G) (y : ClassId × ClassId × ClassId) (ad : Nat → Nat) (σ : gS) (sz : Nat) (cL : ClassId) (oa : Nat) (f : (Nat → Int64)) {q : Int32 × (Nat → Int64) × gS} (h : L_leastMoves σ f = some q) : Met l yL_leastMoves (Cond.codeWith yL_leastMoves cL_leastMoves 3 (some .int) [(0, 8, 11, 37)] :: gl) ({ frames := 14, cells := 1, slots := 6, locals := 326 }) (g_PcL D y ad σ sz (cL, .long) oa (.inl (cL, 1, .inr (.inl f))) [.ref (ad 0), .ref oa]) (g_QL D y ad sz oa (q.1, .inl (cL, 1, .inr (.inl q.2.1)), q.2.2)) 1 6 (g_AL ad oa sz) := by
  have ho := h
  unfold L_leastMoves at ho
  obtain ⟨q6, h6, ho⟩ := gb_some ho
  refine g_startL (by decide) (Nat.le_of_ble_eq_true rfl) (fun p e s m below meth c ls hC hr hlk hsz hW hl ht hY hKL => ?_)
  have hx := hC.1
  have hcd := hC.2.1
  have hl : lv_has ls 3 [(0, .ref (ad 0)), (1, .ref oa)] := hl
  refine lv_aload_n hx hcd dL_leastMoves_0 rfl (lv_at hl 1 rfl) ?_
  refine lv_iconst (v := 0) hx hcd dL_leastMoves_1 (by decide) ?_
  refine lv_aload_n hx hcd dL_leastMoves_2 rfl (lv_at hl 0 rfl) ?_
  refine g_callX hW (g_runX (As := []) (rest := [.int 0, .ref oa]) hC hW rfl hY.1 (c_X6_leastMoves l hfl D y ad σ _ h6) ok_L_85 ⟨rfl, rfl, Nat.le_of_ble_eq_true rfl, Nat.le_of_ble_eq_true rfl⟩ rfl hl.1 rfl (Nat.le_of_ble_eq_true rfl) dL_leastMoves_3 ⟨Nat.le_of_ble_eq_true rfl, Nat.le_of_ble_eq_true rfl⟩) (fun r hr6 H locs hW => ?_) (fun E hE H locs ce q9 hW hce hcv hcl => ?_)
  · have ho : some (0, vp_updL f 0 r.toInt64, q6.2) = some q := by rw [hr6] at ho; exact ho
    obtain rfl := Option.some.inj ho
    refine lv_i2l (v := r.toInt64) hx hcd dL_leastMoves_6 rfl ?_
    refine g_last hC hKL hW dL_leastMoves_7 (fun H locs hW => ?_)
    refine lv_goto (tgt := 14) hx hcd dL_leastMoves_8 (by decide) ?_
    refine lv_iconst (v := 0) hx hcd dL_leastMoves_14 (by decide) ?_
    exact g_iretL hC hr hlk hsz hW dL_leastMoves_15
  · have ho : (if E = "java/util/NoSuchElementException" then some (1, f, q6.2) else none) = some q := by rw [hE] at ho; exact ho
    by_cases e0 : E = "java/util/NoSuchElementException"
    · have ho := gif_p ho e0
      subst e0
      obtain rfl := Option.some.inj ho
      refine vx_catch hC.2.2.2.1 [] ⟨0, 8, 11, 37⟩ [] (by rw [ht]; rfl) (fun z hz => absurd hz List.not_mem_nil) rfl (by decide) (hC.2.2.2.2.1 _ lk_37) (va_Nw.use rfl (hY.1.1 _ cst_NoSuchElementException)) hce hcv hcl ?_
      refine lv_astore_n (lv' := [(2, .ref q9), (0, .ref (ad 0)), (1, .ref oa)]) hx hcd dL_leastMoves_11 rfl hl (by decide) rfl (fun ls hl => ?_)
      refine lv_iconst (v := 1) hx hcd dL_leastMoves_12 (by decide) ?_
      exact g_iretL hC hr hlk hsz hW dL_leastMoves_13
    have ho := gif_n ho e0
    cases ho
noncomputable def L_leastAgain (σ : gS) (f : (Nat → Int64)) : Option (Int32 × (Nat → Int64) × gS) :=
  (X6_leastAgain σ).bind fun q => match q.1 with
  | .inr r => some (0, vp_updL f 0 r.toInt64, q.2)
  | .inl E => if E = "java/util/NoSuchElementException" then some (1, f, q.2) else none
set_option maxHeartbeats 4000000 in
set_option maxRecDepth 100000 in
theorem c_L_leastAgain (l : Launch) (hfl : l.stackTraces = false) (D : va_G) (y : ClassId × ClassId × ClassId) (ad : Nat → Nat) (σ : gS) (sz : Nat) (cL : ClassId) (oa : Nat) (f : (Nat → Int64)) {q : Int32 × (Nat → Int64) × gS} (h : L_leastAgain σ f = some q) : Met l yL_leastAgain (Cond.codeWith yL_leastAgain cL_leastAgain 3 (some .int) [(0, 8, 11, 37)] :: gl) ({ frames := 8, cells := 1, slots := 6, locals := 141 }) (g_PcL D y ad σ sz (cL, .long) oa (.inl (cL, 1, .inr (.inl f))) [.ref (ad 0), .ref oa]) (g_QL D y ad sz oa (q.1, .inl (cL, 1, .inr (.inl q.2.1)), q.2.2)) 1 6 (g_AL ad oa sz) := by
  have ho := h
  unfold L_leastAgain at ho
  obtain ⟨q6, h6, ho⟩ := gb_some ho
  refine g_startL (by decide) (Nat.le_of_ble_eq_true rfl) (fun p e s m below meth c ls hC hr hlk hsz hW hl ht hY hKL => ?_)
  have hx := hC.1
  have hcd := hC.2.1
  have hl : lv_has ls 3 [(0, .ref (ad 0)), (1, .ref oa)] := hl
  refine lv_aload_n hx hcd dL_leastAgain_0 rfl (lv_at hl 1 rfl) ?_
  refine lv_iconst (v := 0) hx hcd dL_leastAgain_1 (by decide) ?_
  refine lv_aload_n hx hcd dL_leastAgain_2 rfl (lv_at hl 0 rfl) ?_
  refine g_callX hW (g_runX (As := []) (rest := [.int 0, .ref oa]) hC hW rfl hY.1 (c_X6_leastAgain l hfl D y ad σ _ h6) ok_L_88 ⟨rfl, rfl, Nat.le_of_ble_eq_true rfl, Nat.le_of_ble_eq_true rfl⟩ rfl hl.1 rfl (Nat.le_of_ble_eq_true rfl) dL_leastAgain_3 ⟨Nat.le_of_ble_eq_true rfl, Nat.le_of_ble_eq_true rfl⟩) (fun r hr6 H locs hW => ?_) (fun E hE H locs ce q9 hW hce hcv hcl => ?_)
  · have ho : some (0, vp_updL f 0 r.toInt64, q6.2) = some q := by rw [hr6] at ho; exact ho
    obtain rfl := Option.some.inj ho
    refine lv_i2l (v := r.toInt64) hx hcd dL_leastAgain_6 rfl ?_
    refine g_last hC hKL hW dL_leastAgain_7 (fun H locs hW => ?_)
    refine lv_goto (tgt := 14) hx hcd dL_leastAgain_8 (by decide) ?_
    refine lv_iconst (v := 0) hx hcd dL_leastAgain_14 (by decide) ?_
    exact g_iretL hC hr hlk hsz hW dL_leastAgain_15
  · have ho : (if E = "java/util/NoSuchElementException" then some (1, f, q6.2) else none) = some q := by rw [hE] at ho; exact ho
    by_cases e0 : E = "java/util/NoSuchElementException"
    · have ho := gif_p ho e0
      subst e0
      obtain rfl := Option.some.inj ho
      refine vx_catch hC.2.2.2.1 [] ⟨0, 8, 11, 37⟩ [] (by rw [ht]; rfl) (fun z hz => absurd hz List.not_mem_nil) rfl (by decide) (hC.2.2.2.2.1 _ lk_37) (va_Nw.use rfl (hY.1.1 _ cst_NoSuchElementException)) hce hcv hcl ?_
      refine lv_astore_n (lv' := [(2, .ref q9), (0, .ref (ad 0)), (1, .ref oa)]) hx hcd dL_leastAgain_11 rfl hl (by decide) rfl (fun ls hl => ?_)
      refine lv_iconst (v := 1) hx hcd dL_leastAgain_12 (by decide) ?_
      exact g_iretL hC hr hlk hsz hW dL_leastAgain_13
    have ho := gif_n ho e0
    cases ho
noncomputable def L_moveOf (σ : gS) (f : (Nat → Int64)) (x1 : Int32) (x2 : Int32) : Option (Int32 × (Nat → Int64) × gS) :=
  (X6_moveOf σ x1 x2).bind fun q => match q.1 with
  | .inr r => some (0, vp_updL f 0 r.toInt64, q.2)
  | .inl E => if E = "java/util/NoSuchElementException" then some (1, f, q.2) else none
set_option maxHeartbeats 4000000 in
set_option maxRecDepth 100000 in
theorem c_L_moveOf (l : Launch) (hfl : l.stackTraces = false) (D : va_G) (y : ClassId × ClassId × ClassId) (ad : Nat → Nat) (x1 : Int32) (x2 : Int32) (σ : gS) (sz : Nat) (cL : ClassId) (oa : Nat) (f : (Nat → Int64)) {q : Int32 × (Nat → Int64) × gS} (h : L_moveOf σ f x1 x2 = some q) : Met l yL_moveOf (Cond.codeWith yL_moveOf cL_moveOf 5 (some .int) [(0, 10, 13, 37)] :: gl) ({ frames := 14, cells := 1, slots := 6, locals := 328 }) (g_PcL D y ad σ sz (cL, .long) oa (.inl (cL, 1, .inr (.inl f))) [.ref (ad 0), .int x1, .int x2, .ref oa]) (g_QL D y ad sz oa (q.1, .inl (cL, 1, .inr (.inl q.2.1)), q.2.2)) 1 6 (g_AL ad oa sz) := by
  have ho := h
  unfold L_moveOf at ho
  obtain ⟨q6, h6, ho⟩ := gb_some ho
  refine g_startL (by decide) (Nat.le_of_ble_eq_true rfl) (fun p e s m below meth c ls hC hr hlk hsz hW hl ht hY hKL => ?_)
  have hx := hC.1
  have hcd := hC.2.1
  have hl : lv_has ls 5 [(0, .ref (ad 0)), (1, .int x1), (2, .int x2), (3, .ref oa)] := hl
  refine lv_aload_n hx hcd dL_moveOf_0 rfl (lv_at hl 3 rfl) ?_
  refine lv_iconst (v := 0) hx hcd dL_moveOf_1 (by decide) ?_
  refine lv_aload_n hx hcd dL_moveOf_2 rfl (lv_at hl 0 rfl) ?_
  refine lv_iload_n hx hcd dL_moveOf_3 rfl (lv_at hl 1 rfl) ?_
  refine lv_iload_n hx hcd dL_moveOf_4 rfl (lv_at hl 2 rfl) ?_
  refine g_callX hW (g_runX (As := [.int x1, .int x2]) (rest := [.int 0, .ref oa]) hC hW rfl hY.1 (c_X6_moveOf l hfl D y ad x1 x2 σ _ h6) ok_L_91 ⟨rfl, rfl, Nat.le_of_ble_eq_true rfl, Nat.le_of_ble_eq_true rfl⟩ rfl hl.1 rfl (Nat.le_of_ble_eq_true rfl) dL_moveOf_5 ⟨Nat.le_of_ble_eq_true rfl, Nat.le_of_ble_eq_true rfl⟩) (fun r hr6 H locs hW => ?_) (fun E hE H locs ce q9 hW hce hcv hcl => ?_)
  · have ho : some (0, vp_updL f 0 r.toInt64, q6.2) = some q := by rw [hr6] at ho; exact ho
    obtain rfl := Option.some.inj ho
    refine lv_i2l (v := r.toInt64) hx hcd dL_moveOf_8 rfl ?_
    refine g_last hC hKL hW dL_moveOf_9 (fun H locs hW => ?_)
    refine lv_goto (tgt := 17) hx hcd dL_moveOf_10 (by decide) ?_
    refine lv_iconst (v := 0) hx hcd dL_moveOf_17 (by decide) ?_
    exact g_iretL hC hr hlk hsz hW dL_moveOf_18
  · have ho : (if E = "java/util/NoSuchElementException" then some (1, f, q6.2) else none) = some q := by rw [hE] at ho; exact ho
    by_cases e0 : E = "java/util/NoSuchElementException"
    · have ho := gif_p ho e0
      subst e0
      obtain rfl := Option.some.inj ho
      refine vx_catch hC.2.2.2.1 [] ⟨0, 10, 13, 37⟩ [] (by rw [ht]; rfl) (fun z hz => absurd hz List.not_mem_nil) rfl (by decide) (hC.2.2.2.2.1 _ lk_37) (va_Nw.use rfl (hY.1.1 _ cst_NoSuchElementException)) hce hcv hcl ?_
      refine lv_astore (lv' := [(4, .ref q9), (0, .ref (ad 0)), (1, .int x1), (2, .int x2), (3, .ref oa)]) hx hcd dL_moveOf_13 hl (by decide) rfl (fun ls hl => ?_)
      refine lv_iconst (v := 1) hx hcd dL_moveOf_15 (by decide) ?_
      exact g_iretL hC hr hlk hsz hW dL_moveOf_16
    have ho := gif_n ho e0
    cases ho
noncomputable def L_repair (σ : gS) (f : (Nat → Int64)) : Option (Int32 × (Nat → Int64) × gS) :=
  (X6_repair σ).bind fun q => match q.1 with
  | .inr r => some (0, vp_updL f 0 r.toInt64, q.2)
  | .inl E => if E = "java/util/NoSuchElementException" then some (1, f, q.2) else none
set_option maxHeartbeats 4000000 in
set_option maxRecDepth 100000 in
theorem c_L_repair (l : Launch) (hfl : l.stackTraces = false) (D : va_G) (y : ClassId × ClassId × ClassId) (ad : Nat → Nat) (σ : gS) (sz : Nat) (cL : ClassId) (oa : Nat) (f : (Nat → Int64)) {q : Int32 × (Nat → Int64) × gS} (h : L_repair σ f = some q) : Met l yL_repair (Cond.codeWith yL_repair cL_repair 3 (some .int) [(0, 8, 11, 37)] :: gl) ({ frames := 14, cells := 1, slots := 6, locals := 327 }) (g_PcL D y ad σ sz (cL, .long) oa (.inl (cL, 1, .inr (.inl f))) [.ref (ad 0), .ref oa]) (g_QL D y ad sz oa (q.1, .inl (cL, 1, .inr (.inl q.2.1)), q.2.2)) 1 6 (g_AL ad oa sz) := by
  have ho := h
  unfold L_repair at ho
  obtain ⟨q6, h6, ho⟩ := gb_some ho
  refine g_startL (by decide) (Nat.le_of_ble_eq_true rfl) (fun p e s m below meth c ls hC hr hlk hsz hW hl ht hY hKL => ?_)
  have hx := hC.1
  have hcd := hC.2.1
  have hl : lv_has ls 3 [(0, .ref (ad 0)), (1, .ref oa)] := hl
  refine lv_aload_n hx hcd dL_repair_0 rfl (lv_at hl 1 rfl) ?_
  refine lv_iconst (v := 0) hx hcd dL_repair_1 (by decide) ?_
  refine lv_aload_n hx hcd dL_repair_2 rfl (lv_at hl 0 rfl) ?_
  refine g_callX hW (g_runX (As := []) (rest := [.int 0, .ref oa]) hC hW rfl hY.1 (c_X6_repair l hfl D y ad σ _ h6) ok_L_95 ⟨rfl, rfl, Nat.le_of_ble_eq_true rfl, Nat.le_of_ble_eq_true rfl⟩ rfl hl.1 rfl (Nat.le_of_ble_eq_true rfl) dL_repair_3 ⟨Nat.le_of_ble_eq_true rfl, Nat.le_of_ble_eq_true rfl⟩) (fun r hr6 H locs hW => ?_) (fun E hE H locs ce q9 hW hce hcv hcl => ?_)
  · have ho : some (0, vp_updL f 0 r.toInt64, q6.2) = some q := by rw [hr6] at ho; exact ho
    obtain rfl := Option.some.inj ho
    refine lv_i2l (v := r.toInt64) hx hcd dL_repair_6 rfl ?_
    refine g_last hC hKL hW dL_repair_7 (fun H locs hW => ?_)
    refine lv_goto (tgt := 14) hx hcd dL_repair_8 (by decide) ?_
    refine lv_iconst (v := 0) hx hcd dL_repair_14 (by decide) ?_
    exact g_iretL hC hr hlk hsz hW dL_repair_15
  · have ho : (if E = "java/util/NoSuchElementException" then some (1, f, q6.2) else none) = some q := by rw [hE] at ho; exact ho
    by_cases e0 : E = "java/util/NoSuchElementException"
    · have ho := gif_p ho e0
      subst e0
      obtain rfl := Option.some.inj ho
      refine vx_catch hC.2.2.2.1 [] ⟨0, 8, 11, 37⟩ [] (by rw [ht]; rfl) (fun z hz => absurd hz List.not_mem_nil) rfl (by decide) (hC.2.2.2.2.1 _ lk_37) (va_Nw.use rfl (hY.1.1 _ cst_NoSuchElementException)) hce hcv hcl ?_
      refine lv_astore_n (lv' := [(2, .ref q9), (0, .ref (ad 0)), (1, .ref oa)]) hx hcd dL_repair_11 rfl hl (by decide) rfl (fun ls hl => ?_)
      refine lv_iconst (v := 1) hx hcd dL_repair_12 (by decide) ?_
      exact g_iretL hC hr hlk hsz hW dL_repair_13
    have ho := gif_n ho e0
    cases ho
noncomputable def L_account (σ : gS) (f : (Nat → Int64)) (x1 : Int32) : Option (Int32 × (Nat → Int64) × gS) :=
  (X6_account σ x1).bind fun q => match q.1 with
  | .inr r => some (0, vp_updL f 0 r.toInt64, q.2)
  | .inl E => if E = "java/lang/IllegalArgumentException" then some (1, f, q.2) else none
set_option maxHeartbeats 4000000 in
set_option maxRecDepth 100000 in
theorem c_L_account (l : Launch) (hfl : l.stackTraces = false) (D : va_G) (y : ClassId × ClassId × ClassId) (ad : Nat → Nat) (x1 : Int32) (σ : gS) (sz : Nat) (cL : ClassId) (oa : Nat) (f : (Nat → Int64)) {q : Int32 × (Nat → Int64) × gS} (h : L_account σ f x1 = some q) : Met l yL_account (Cond.codeWith yL_account cL_account 4 (some .int) [(0, 9, 12, 13)] :: gl) ({ frames := 8, cells := 1, slots := 6, locals := 121 }) (g_PcL D y ad σ sz (cL, .long) oa (.inl (cL, 1, .inr (.inl f))) [.ref (ad 0), .int x1, .ref oa]) (g_QL D y ad sz oa (q.1, .inl (cL, 1, .inr (.inl q.2.1)), q.2.2)) 1 6 (g_AL ad oa sz) := by
  have ho := h
  unfold L_account at ho
  obtain ⟨q6, h6, ho⟩ := gb_some ho
  refine g_startL (by decide) (Nat.le_of_ble_eq_true rfl) (fun p e s m below meth c ls hC hr hlk hsz hW hl ht hY hKL => ?_)
  have hx := hC.1
  have hcd := hC.2.1
  have hl : lv_has ls 4 [(0, .ref (ad 0)), (1, .int x1), (2, .ref oa)] := hl
  refine lv_aload_n hx hcd dL_account_0 rfl (lv_at hl 2 rfl) ?_
  refine lv_iconst (v := 0) hx hcd dL_account_1 (by decide) ?_
  refine lv_aload_n hx hcd dL_account_2 rfl (lv_at hl 0 rfl) ?_
  refine lv_iload_n hx hcd dL_account_3 rfl (lv_at hl 1 rfl) ?_
  refine g_callX hW (g_runX (As := [.int x1]) (rest := [.int 0, .ref oa]) hC hW rfl hY.1 (c_X6_account l hfl D y ad x1 σ _ h6) ok_L_98 ⟨rfl, rfl, Nat.le_of_ble_eq_true rfl, Nat.le_of_ble_eq_true rfl⟩ rfl hl.1 rfl (Nat.le_of_ble_eq_true rfl) dL_account_4 ⟨Nat.le_of_ble_eq_true rfl, Nat.le_of_ble_eq_true rfl⟩) (fun r hr6 H locs hW => ?_) (fun E hE H locs ce q9 hW hce hcv hcl => ?_)
  · have ho : some (0, vp_updL f 0 r.toInt64, q6.2) = some q := by rw [hr6] at ho; exact ho
    obtain rfl := Option.some.inj ho
    refine lv_i2l (v := r.toInt64) hx hcd dL_account_7 rfl ?_
    refine g_last hC hKL hW dL_account_8 (fun H locs hW => ?_)
    refine lv_goto (tgt := 15) hx hcd dL_account_9 (by decide) ?_
    refine lv_iconst (v := 0) hx hcd dL_account_15 (by decide) ?_
    exact g_iretL hC hr hlk hsz hW dL_account_16
  · have ho : (if E = "java/lang/IllegalArgumentException" then some (1, f, q6.2) else none) = some q := by rw [hE] at ho; exact ho
    by_cases e0 : E = "java/lang/IllegalArgumentException"
    · have ho := gif_p ho e0
      subst e0
      obtain rfl := Option.some.inj ho
      refine vx_catch hC.2.2.2.1 [] ⟨0, 9, 12, 13⟩ [] (by rw [ht]; rfl) (fun z hz => absurd hz List.not_mem_nil) rfl (by decide) (hC.2.2.2.2.1 _ lk_13) (va_Nw.use rfl (hY.1.1 _ cst_IllegalArgumentException)) hce hcv hcl ?_
      refine lv_astore_n (lv' := [(3, .ref q9), (0, .ref (ad 0)), (1, .int x1), (2, .ref oa)]) hx hcd dL_account_12 rfl hl (by decide) rfl (fun ls hl => ?_)
      refine lv_iconst (v := 1) hx hcd dL_account_13 (by decide) ?_
      exact g_iretL hC hr hlk hsz hW dL_account_14
    have ho := gif_n ho e0
    cases ho
noncomputable def L_meanCost (σ : gS) (f : (Nat → UInt64)) : Option (Int32 × (Nat → UInt64) × gS) :=
  (X6_meanCost σ).bind fun q => match q.1 with
  | .inr r => gd (n64 (FP.f2d r)) (some (0, va_up f 0 (FP.f2d r), q.2))
  | .inl E => if E = "java/lang/ArithmeticException" then some (1, f, q.2) else none
set_option maxHeartbeats 4000000 in
set_option maxRecDepth 100000 in
theorem c_L_meanCost (l : Launch) (hfl : l.stackTraces = false) (D : va_G) (y : ClassId × ClassId × ClassId) (ad : Nat → Nat) (σ : gS) (sz : Nat) (cL : ClassId) (oa : Nat) (f : (Nat → UInt64)) {q : Int32 × (Nat → UInt64) × gS} (h : L_meanCost σ f = some q) : Met l yL_meanCost (Cond.codeWith yL_meanCost cL_meanCost 3 (some .int) [(0, 8, 11, 105)] :: gl) ({ frames := 8, cells := 1, slots := 6, locals := 121 }) (g_PcL D y ad σ sz (cL, .double) oa (.inl (cL, 1, .inr (.inr (.inr (.inl f))))) [.ref (ad 0), .ref oa]) (g_QL D y ad sz oa (q.1, .inl (cL, 1, .inr (.inr (.inr (.inl q.2.1)))), q.2.2)) 1 6 (g_AL ad oa sz) := by
  have ho := h
  unfold L_meanCost at ho
  obtain ⟨q6, h6, ho⟩ := gb_some ho
  refine g_startL (by decide) (Nat.le_of_ble_eq_true rfl) (fun p e s m below meth c ls hC hr hlk hsz hW hl ht hY hKL => ?_)
  have hx := hC.1
  have hcd := hC.2.1
  have hl : lv_has ls 3 [(0, .ref (ad 0)), (1, .ref oa)] := hl
  refine lv_aload_n hx hcd dL_meanCost_0 rfl (lv_at hl 1 rfl) ?_
  refine lv_iconst (v := 0) hx hcd dL_meanCost_1 (by decide) ?_
  refine lv_aload_n hx hcd dL_meanCost_2 rfl (lv_at hl 0 rfl) ?_
  refine g_callXf hW (g_runX (As := []) (rest := [.int 0, .ref oa]) hC hW rfl hY.1 (c_X6_meanCost l hfl D y ad σ _ h6) ok_L_101 ⟨rfl, rfl, Nat.le_of_ble_eq_true rfl, Nat.le_of_ble_eq_true rfl⟩ rfl hl.1 rfl (Nat.le_of_ble_eq_true rfl) dL_meanCost_3 ⟨Nat.le_of_ble_eq_true rfl, Nat.le_of_ble_eq_true rfl⟩) (fun r hr6 H locs hW => ?_) (fun E hE H locs ce q9 hW hce hcv hcl => ?_)
  · have ho : gd (n64 (FP.f2d r)) (some (0, va_up f 0 (FP.f2d r), q6.2)) = some q := by rw [hr6] at ho; exact ho
    obtain ⟨z1, ho⟩ := gd_some ho
    obtain rfl := Option.some.inj ho
    refine lv_f2d hx hcd dL_meanCost_6 (n64_v z1) ?_
    refine g_dast hC hKL hW dL_meanCost_7 (fun H locs hW => ?_)
    refine lv_goto (tgt := 14) hx hcd dL_meanCost_8 (by decide) ?_
    refine lv_iconst (v := 0) hx hcd dL_meanCost_14 (by decide) ?_
    exact g_iretL hC hr hlk hsz hW dL_meanCost_15
  · have ho : (if E = "java/lang/ArithmeticException" then some (1, f, q6.2) else none) = some q := by rw [hE] at ho; exact ho
    by_cases e0 : E = "java/lang/ArithmeticException"
    · have ho := gif_p ho e0
      subst e0
      obtain rfl := Option.some.inj ho
      refine vx_catch hC.2.2.2.1 [] ⟨0, 8, 11, 105⟩ [] (by rw [ht]; rfl) (fun z hz => absurd hz List.not_mem_nil) rfl (by decide) (hC.2.2.2.2.1 _ lk_105) (va_Nw.use rfl (hY.1.1 _ cst_ArithmeticException)) hce hcv hcl ?_
      refine lv_astore_n (lv' := [(2, .ref q9), (0, .ref (ad 0)), (1, .ref oa)]) hx hcd dL_meanCost_11 rfl hl (by decide) rfl (fun ls hl => ?_)
      refine lv_iconst (v := 1) hx hcd dL_meanCost_12 (by decide) ?_
      exact g_iretL hC hr hlk hsz hW dL_meanCost_13
    have ho := gif_n ho e0
    cases ho
noncomputable def L_append (σ : gS) (f : (Nat → Int64)) (x1 : Int32) : Option (Int32 × (Nat → Int64) × gS) :=
  (X6_append σ x1).bind fun q => match q.1 with
  | .inr r => some (0, vp_updL f 0 r.toInt64, q.2)
  | .inl E => if E = "java/lang/IllegalArgumentException" then some (1, f, q.2) else (if E = "java/lang/IllegalStateException" then some (2, f, q.2) else none)
set_option maxHeartbeats 4000000 in
set_option maxRecDepth 100000 in
theorem c_L_append (l : Launch) (hfl : l.stackTraces = false) (D : va_G) (y : ClassId × ClassId × ClassId) (ad : Nat → Nat) (x1 : Int32) (σ : gS) (sz : Nat) (cL : ClassId) (oa : Nat) (f : (Nat → Int64)) {q : Int32 × (Nat → Int64) × gS} (h : L_append σ f x1 = some q) : Met l yL_append (Cond.codeWith yL_append cL_append 4 (some .int) [(0, 9, 12, 13), (0, 9, 15, 15)] :: gl) ({ frames := 8, cells := 1, slots := 6, locals := 121 }) (g_PcL D y ad σ sz (cL, .long) oa (.inl (cL, 1, .inr (.inl f))) [.ref (ad 0), .int x1, .ref oa]) (g_QL D y ad sz oa (q.1, .inl (cL, 1, .inr (.inl q.2.1)), q.2.2)) 1 6 (g_AL ad oa sz) := by
  have ho := h
  unfold L_append at ho
  obtain ⟨q6, h6, ho⟩ := gb_some ho
  refine g_startL (by decide) (Nat.le_of_ble_eq_true rfl) (fun p e s m below meth c ls hC hr hlk hsz hW hl ht hY hKL => ?_)
  have hx := hC.1
  have hcd := hC.2.1
  have hl : lv_has ls 4 [(0, .ref (ad 0)), (1, .int x1), (2, .ref oa)] := hl
  refine lv_aload_n hx hcd dL_append_0 rfl (lv_at hl 2 rfl) ?_
  refine lv_iconst (v := 0) hx hcd dL_append_1 (by decide) ?_
  refine lv_aload_n hx hcd dL_append_2 rfl (lv_at hl 0 rfl) ?_
  refine lv_iload_n hx hcd dL_append_3 rfl (lv_at hl 1 rfl) ?_
  refine g_callX hW (g_runX (As := [.int x1]) (rest := [.int 0, .ref oa]) hC hW rfl hY.1 (c_X6_append l hfl D y ad x1 σ _ h6) ok_L_107 ⟨rfl, rfl, Nat.le_of_ble_eq_true rfl, Nat.le_of_ble_eq_true rfl⟩ rfl hl.1 rfl (Nat.le_of_ble_eq_true rfl) dL_append_4 ⟨Nat.le_of_ble_eq_true rfl, Nat.le_of_ble_eq_true rfl⟩) (fun r hr6 H locs hW => ?_) (fun E hE H locs ce q9 hW hce hcv hcl => ?_)
  · have ho : some (0, vp_updL f 0 r.toInt64, q6.2) = some q := by rw [hr6] at ho; exact ho
    obtain rfl := Option.some.inj ho
    refine lv_i2l (v := r.toInt64) hx hcd dL_append_7 rfl ?_
    refine g_last hC hKL hW dL_append_8 (fun H locs hW => ?_)
    refine lv_goto (tgt := 18) hx hcd dL_append_9 (by decide) ?_
    refine lv_iconst (v := 0) hx hcd dL_append_18 (by decide) ?_
    exact g_iretL hC hr hlk hsz hW dL_append_19
  · have ho : (if E = "java/lang/IllegalArgumentException" then some (1, f, q6.2) else (if E = "java/lang/IllegalStateException" then some (2, f, q6.2) else none)) = some q := by rw [hE] at ho; exact ho
    by_cases e0 : E = "java/lang/IllegalArgumentException"
    · have ho := gif_p ho e0
      subst e0
      obtain rfl := Option.some.inj ho
      refine vx_catch hC.2.2.2.1 [] ⟨0, 9, 12, 13⟩ [⟨0, 9, 15, 15⟩] (by rw [ht]; rfl) (fun z hz => absurd hz List.not_mem_nil) rfl (by decide) (hC.2.2.2.2.1 _ lk_13) (va_Nw.use rfl (hY.1.1 _ cst_IllegalArgumentException)) hce hcv hcl ?_
      refine lv_astore_n (lv' := [(3, .ref q9), (0, .ref (ad 0)), (1, .int x1), (2, .ref oa)]) hx hcd dL_append_12 rfl hl (by decide) rfl (fun ls hl => ?_)
      refine lv_iconst (v := 1) hx hcd dL_append_13 (by decide) ?_
      exact g_iretL hC hr hlk hsz hW dL_append_14
    have ho := gif_n ho e0
    by_cases e1 : E = "java/lang/IllegalStateException"
    · have ho := gif_p ho e1
      subst e1
      obtain rfl := Option.some.inj ho
      refine vx_catch hC.2.2.2.1 [⟨0, 9, 12, 13⟩] ⟨0, 9, 15, 15⟩ [] (by rw [ht]; rfl) (fun z hz => by simp only [List.mem_cons, List.not_mem_nil, or_false] at hz; rcases hz with rfl; exact Or.inr ⟨by decide, _, hC.2.2.2.2.1 _ lk_13, hY.2 ("java/lang/IllegalStateException", "java/lang/IllegalArgumentException") (by decide)⟩) rfl (by decide) (hC.2.2.2.2.1 _ lk_15) (va_Nw.use rfl (hY.1.1 _ cst_IllegalStateException)) hce hcv hcl ?_
      refine lv_astore_n (lv' := [(3, .ref q9), (0, .ref (ad 0)), (1, .int x1), (2, .ref oa)]) hx hcd dL_append_15 rfl hl (by decide) rfl (fun ls hl => ?_)
      refine lv_iconst (v := 2) hx hcd dL_append_16 (by decide) ?_
      exact g_iretL hC hr hlk hsz hW dL_append_17
    have ho := gif_n ho e1
    cases ho
noncomputable def L_errorPosition (σ : gS) (f : (Nat → Int64)) : Option (Int32 × (Nat → Int64) × gS) :=
  (X6_errorPosition σ).bind fun q => match q.1 with
  | .inr r => some (0, vp_updL f 0 r.toInt64, q.2)
  | .inl E => if E = "java/util/NoSuchElementException" then some (1, f, q.2) else none
set_option maxHeartbeats 4000000 in
set_option maxRecDepth 100000 in
theorem c_L_errorPosition (l : Launch) (hfl : l.stackTraces = false) (D : va_G) (y : ClassId × ClassId × ClassId) (ad : Nat → Nat) (σ : gS) (sz : Nat) (cL : ClassId) (oa : Nat) (f : (Nat → Int64)) {q : Int32 × (Nat → Int64) × gS} (h : L_errorPosition σ f = some q) : Met l yL_errorPosition (Cond.codeWith yL_errorPosition cL_errorPosition 3 (some .int) [(0, 8, 11, 37)] :: gl) ({ frames := 8, cells := 1, slots := 6, locals := 120 }) (g_PcL D y ad σ sz (cL, .long) oa (.inl (cL, 1, .inr (.inl f))) [.ref (ad 0), .ref oa]) (g_QL D y ad sz oa (q.1, .inl (cL, 1, .inr (.inl q.2.1)), q.2.2)) 1 6 (g_AL ad oa sz) := by
  have ho := h
  unfold L_errorPosition at ho
  obtain ⟨q6, h6, ho⟩ := gb_some ho
  refine g_startL (by decide) (Nat.le_of_ble_eq_true rfl) (fun p e s m below meth c ls hC hr hlk hsz hW hl ht hY hKL => ?_)
  have hx := hC.1
  have hcd := hC.2.1
  have hl : lv_has ls 3 [(0, .ref (ad 0)), (1, .ref oa)] := hl
  refine lv_aload_n hx hcd dL_errorPosition_0 rfl (lv_at hl 1 rfl) ?_
  refine lv_iconst (v := 0) hx hcd dL_errorPosition_1 (by decide) ?_
  refine lv_aload_n hx hcd dL_errorPosition_2 rfl (lv_at hl 0 rfl) ?_
  refine g_callX hW (g_runX (As := []) (rest := [.int 0, .ref oa]) hC hW rfl hY.1 (c_X6_errorPosition l hfl D y ad σ _ h6) ok_L_114 ⟨rfl, rfl, Nat.le_of_ble_eq_true rfl, Nat.le_of_ble_eq_true rfl⟩ rfl hl.1 rfl (Nat.le_of_ble_eq_true rfl) dL_errorPosition_3 ⟨Nat.le_of_ble_eq_true rfl, Nat.le_of_ble_eq_true rfl⟩) (fun r hr6 H locs hW => ?_) (fun E hE H locs ce q9 hW hce hcv hcl => ?_)
  · have ho : some (0, vp_updL f 0 r.toInt64, q6.2) = some q := by rw [hr6] at ho; exact ho
    obtain rfl := Option.some.inj ho
    refine lv_i2l (v := r.toInt64) hx hcd dL_errorPosition_6 rfl ?_
    refine g_last hC hKL hW dL_errorPosition_7 (fun H locs hW => ?_)
    refine lv_goto (tgt := 14) hx hcd dL_errorPosition_8 (by decide) ?_
    refine lv_iconst (v := 0) hx hcd dL_errorPosition_14 (by decide) ?_
    exact g_iretL hC hr hlk hsz hW dL_errorPosition_15
  · have ho : (if E = "java/util/NoSuchElementException" then some (1, f, q6.2) else none) = some q := by rw [hE] at ho; exact ho
    by_cases e0 : E = "java/util/NoSuchElementException"
    · have ho := gif_p ho e0
      subst e0
      obtain rfl := Option.some.inj ho
      refine vx_catch hC.2.2.2.1 [] ⟨0, 8, 11, 37⟩ [] (by rw [ht]; rfl) (fun z hz => absurd hz List.not_mem_nil) rfl (by decide) (hC.2.2.2.2.1 _ lk_37) (va_Nw.use rfl (hY.1.1 _ cst_NoSuchElementException)) hce hcv hcl ?_
      refine lv_astore_n (lv' := [(2, .ref q9), (0, .ref (ad 0)), (1, .ref oa)]) hx hcd dL_errorPosition_11 rfl hl (by decide) rfl (fun ls hl => ?_)
      refine lv_iconst (v := 1) hx hcd dL_errorPosition_12 (by decide) ?_
      exact g_iretL hC hr hlk hsz hW dL_errorPosition_13
    have ho := gif_n ho e0
    cases ho
noncomputable def L_undo (σ : gS) (f : (Nat → Int64)) : Option (Int32 × (Nat → Int64) × gS) :=
  (X6_undo σ).bind fun q => match q.1 with
  | .inr r => some (0, vp_updL f 0 r.toInt64, q.2)
  | .inl E => if E = "java/util/NoSuchElementException" then some (1, f, q.2) else none
set_option maxHeartbeats 4000000 in
set_option maxRecDepth 100000 in
theorem c_L_undo (l : Launch) (hfl : l.stackTraces = false) (D : va_G) (y : ClassId × ClassId × ClassId) (ad : Nat → Nat) (σ : gS) (sz : Nat) (cL : ClassId) (oa : Nat) (f : (Nat → Int64)) {q : Int32 × (Nat → Int64) × gS} (h : L_undo σ f = some q) : Met l yL_undo (Cond.codeWith yL_undo cL_undo 3 (some .int) [(0, 8, 11, 37)] :: gl) ({ frames := 8, cells := 1, slots := 6, locals := 120 }) (g_PcL D y ad σ sz (cL, .long) oa (.inl (cL, 1, .inr (.inl f))) [.ref (ad 0), .ref oa]) (g_QL D y ad sz oa (q.1, .inl (cL, 1, .inr (.inl q.2.1)), q.2.2)) 1 6 (g_AL ad oa sz) := by
  have ho := h
  unfold L_undo at ho
  obtain ⟨q6, h6, ho⟩ := gb_some ho
  refine g_startL (by decide) (Nat.le_of_ble_eq_true rfl) (fun p e s m below meth c ls hC hr hlk hsz hW hl ht hY hKL => ?_)
  have hx := hC.1
  have hcd := hC.2.1
  have hl : lv_has ls 3 [(0, .ref (ad 0)), (1, .ref oa)] := hl
  refine lv_aload_n hx hcd dL_undo_0 rfl (lv_at hl 1 rfl) ?_
  refine lv_iconst (v := 0) hx hcd dL_undo_1 (by decide) ?_
  refine lv_aload_n hx hcd dL_undo_2 rfl (lv_at hl 0 rfl) ?_
  refine g_callX hW (g_runX (As := []) (rest := [.int 0, .ref oa]) hC hW rfl hY.1 (c_X6_undo l hfl D y ad σ _ h6) ok_L_117 ⟨rfl, rfl, Nat.le_of_ble_eq_true rfl, Nat.le_of_ble_eq_true rfl⟩ rfl hl.1 rfl (Nat.le_of_ble_eq_true rfl) dL_undo_3 ⟨Nat.le_of_ble_eq_true rfl, Nat.le_of_ble_eq_true rfl⟩) (fun r hr6 H locs hW => ?_) (fun E hE H locs ce q9 hW hce hcv hcl => ?_)
  · have ho : some (0, vp_updL f 0 r.toInt64, q6.2) = some q := by rw [hr6] at ho; exact ho
    obtain rfl := Option.some.inj ho
    refine lv_i2l (v := r.toInt64) hx hcd dL_undo_6 rfl ?_
    refine g_last hC hKL hW dL_undo_7 (fun H locs hW => ?_)
    refine lv_goto (tgt := 14) hx hcd dL_undo_8 (by decide) ?_
    refine lv_iconst (v := 0) hx hcd dL_undo_14 (by decide) ?_
    exact g_iretL hC hr hlk hsz hW dL_undo_15
  · have ho : (if E = "java/util/NoSuchElementException" then some (1, f, q6.2) else none) = some q := by rw [hE] at ho; exact ho
    by_cases e0 : E = "java/util/NoSuchElementException"
    · have ho := gif_p ho e0
      subst e0
      obtain rfl := Option.some.inj ho
      refine vx_catch hC.2.2.2.1 [] ⟨0, 8, 11, 37⟩ [] (by rw [ht]; rfl) (fun z hz => absurd hz List.not_mem_nil) rfl (by decide) (hC.2.2.2.2.1 _ lk_37) (va_Nw.use rfl (hY.1.1 _ cst_NoSuchElementException)) hce hcv hcl ?_
      refine lv_astore_n (lv' := [(2, .ref q9), (0, .ref (ad 0)), (1, .ref oa)]) hx hcd dL_undo_11 rfl hl (by decide) rfl (fun ls hl => ?_)
      refine lv_iconst (v := 1) hx hcd dL_undo_12 (by decide) ?_
      exact g_iretL hC hr hlk hsz hW dL_undo_13
    have ho := gif_n ho e0
    cases ho
noncomputable def L_restore (σ : gS) (f : (Nat → Int64)) : Option (Int32 × (Nat → Int64) × gS) :=
  (X6_restore σ).bind fun q => match q.1 with
  | .inr r => some (0, vp_updL f 0 r.toInt64, q.2)
  | .inl E => if E = "java/lang/IllegalStateException" then some (1, f, q.2) else none
set_option maxHeartbeats 4000000 in
set_option maxRecDepth 100000 in
theorem c_L_restore (l : Launch) (hfl : l.stackTraces = false) (D : va_G) (y : ClassId × ClassId × ClassId) (ad : Nat → Nat) (σ : gS) (sz : Nat) (cL : ClassId) (oa : Nat) (f : (Nat → Int64)) {q : Int32 × (Nat → Int64) × gS} (h : L_restore σ f = some q) : Met l yL_restore (Cond.codeWith yL_restore cL_restore 3 (some .int) [(0, 8, 11, 15)] :: gl) ({ frames := 8, cells := 1, slots := 6, locals := 120 }) (g_PcL D y ad σ sz (cL, .long) oa (.inl (cL, 1, .inr (.inl f))) [.ref (ad 0), .ref oa]) (g_QL D y ad sz oa (q.1, .inl (cL, 1, .inr (.inl q.2.1)), q.2.2)) 1 6 (g_AL ad oa sz) := by
  have ho := h
  unfold L_restore at ho
  obtain ⟨q6, h6, ho⟩ := gb_some ho
  refine g_startL (by decide) (Nat.le_of_ble_eq_true rfl) (fun p e s m below meth c ls hC hr hlk hsz hW hl ht hY hKL => ?_)
  have hx := hC.1
  have hcd := hC.2.1
  have hl : lv_has ls 3 [(0, .ref (ad 0)), (1, .ref oa)] := hl
  refine lv_aload_n hx hcd dL_restore_0 rfl (lv_at hl 1 rfl) ?_
  refine lv_iconst (v := 0) hx hcd dL_restore_1 (by decide) ?_
  refine lv_aload_n hx hcd dL_restore_2 rfl (lv_at hl 0 rfl) ?_
  refine g_callX hW (g_runX (As := []) (rest := [.int 0, .ref oa]) hC hW rfl hY.1 (c_X6_restore l hfl D y ad σ _ h6) ok_L_120 ⟨rfl, rfl, Nat.le_of_ble_eq_true rfl, Nat.le_of_ble_eq_true rfl⟩ rfl hl.1 rfl (Nat.le_of_ble_eq_true rfl) dL_restore_3 ⟨Nat.le_of_ble_eq_true rfl, Nat.le_of_ble_eq_true rfl⟩) (fun r hr6 H locs hW => ?_) (fun E hE H locs ce q9 hW hce hcv hcl => ?_)
  · have ho : some (0, vp_updL f 0 r.toInt64, q6.2) = some q := by rw [hr6] at ho; exact ho
    obtain rfl := Option.some.inj ho
    refine lv_i2l (v := r.toInt64) hx hcd dL_restore_6 rfl ?_
    refine g_last hC hKL hW dL_restore_7 (fun H locs hW => ?_)
    refine lv_goto (tgt := 14) hx hcd dL_restore_8 (by decide) ?_
    refine lv_iconst (v := 0) hx hcd dL_restore_14 (by decide) ?_
    exact g_iretL hC hr hlk hsz hW dL_restore_15
  · have ho : (if E = "java/lang/IllegalStateException" then some (1, f, q6.2) else none) = some q := by rw [hE] at ho; exact ho
    by_cases e0 : E = "java/lang/IllegalStateException"
    · have ho := gif_p ho e0
      subst e0
      obtain rfl := Option.some.inj ho
      refine vx_catch hC.2.2.2.1 [] ⟨0, 8, 11, 15⟩ [] (by rw [ht]; rfl) (fun z hz => absurd hz List.not_mem_nil) rfl (by decide) (hC.2.2.2.2.1 _ lk_15) (va_Nw.use rfl (hY.1.1 _ cst_IllegalStateException)) hce hcv hcl ?_
      refine lv_astore_n (lv' := [(2, .ref q9), (0, .ref (ad 0)), (1, .ref oa)]) hx hcd dL_restore_11 rfl hl (by decide) rfl (fun ls hl => ?_)
      refine lv_iconst (v := 1) hx hcd dL_restore_12 (by decide) ?_
      exact g_iretL hC hr hlk hsz hW dL_restore_13
    have ho := gif_n ho e0
    cases ho
