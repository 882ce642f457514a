/-! ===== the cases of the law's switch ===== -/
section LW
variable {p : Program} {l : Launch} {e : Env} {s : State} {m : MethodId} {below : List Frame} {meth : Method} {c : Code} {H : Heap} {locs : List Loc} {cells slots : Nat} {Q : State → Prop}
variable {ls : Array Slot} {b L oa od : Nat} {xs : Nat → Int32} {i : Int32} {D : va_G} {y : ClassId × ClassId × ClassId} {cL cD : ClassId} {ad : Nat → Nat} {f : Nat → Int64} {fd : Nat → UInt64} {σ : gS}
set_option maxHeartbeats 4000000 in
set_option maxRecDepth 100000 in
theorem w_clear (hfl : l.stackTraces = false) (G : g_lw p s m c b L xs D y cL cD) (hl : lv_has ls 8 (g_ll b oa od ad i)) (hW : g_W (fun q => s.heap.size ≤ q) s.heap D y ad (g_X2 cL cD oa od f fd) σ H locs) (hin : vp_in i L ∧ vp_in (i + 1) L ∧ vp_in (i + 2) L ∧ vp_in (i + 3) L ∧ vp_in (i + 4) L) (hcs : cells + 1 ≤ 603072 ∧ slots + 6 ≤ 7186538) {r : Int32} {σ1 σ2 : gS} (h1 : X6_clear σ = some (r, σ1)) (h2 : X7_clear σ1 = some (r, σ2))
    (kk : ∀ (ls : Array Slot) (H : Heap) (locs : List Loc), lv_has ls 8 (g_ll b oa od ad i) → g_W (fun q => s.heap.size ≤ q) s.heap D y ad (g_X2 cL cD oa od f fd) σ2 H locs → W p l e room_1 s m #[Value.ref b] below meth c H locs (cells + 1) (slots + 6) Q (F0 m 2293 ls [])) : W p l e room_1 s m #[Value.ref b] below meth c H locs cells slots Q (F0 m 208 ls []) := by
  obtain ⟨hC, hKL, hKD, hY, hX, hbl⟩ := G
  have hx := hC.1
  have hcd := hC.2.1
  have hbA : ¬ (s.heap.size ≤ b) := Nat.not_le.mpr hbl
  have hr0 : cells + 0 ≤ room_1.cells ∧ slots + 0 ≤ room_1.slots := ⟨Nat.le_trans (Nat.le_add_right cells 1) hcs.1, Nat.le_trans (Nat.le_add_right slots 6) hcs.2⟩
  refine lv_aload_n hx hcd dL_law_208 rfl (lv_at hl 1 rfl) ?_
  refine g_calli hW (g_runV (i := 0) (As := []) (rest := []) hC hW (c_X6_clear l D y ad σ _ h1) ok_L_127 ⟨rfl, rfl, Nat.le_of_ble_eq_true rfl, Nat.le_of_ble_eq_true rfl⟩ (by decide) rfl rfl rfl rfl hl.1 rfl (Nat.le_of_ble_eq_true rfl) dL_law_209 hr0) (fun H locs hW => ?_)
  refine lv_aload_n hx hcd dL_law_212 rfl (lv_at hl 2 rfl) ?_
  refine g_calli hW (g_runV (i := 132) (As := []) (rest := [.int r]) hC hW (c_X7_clear l D y ad σ1 _ h2) ok_L_130 ⟨rfl, rfl, Nat.le_of_ble_eq_true rfl, Nat.le_of_ble_eq_true rfl⟩ (by decide) rfl rfl rfl rfl hl.1 rfl (Nat.le_of_ble_eq_true rfl) dL_law_213 hr0) (fun H locs hW => ?_)
  refine lv_icmp_eq (tgt := 2293) hx hcd dL_law_216 (by decide) (fun _ => ?_) (fun c9 => absurd rfl c9)
  exact W.widen (Nat.le_add_right _ 1) (Nat.le_add_right _ 6) (kk _ _ _ (lv_sub hl [0, 1, 2, 3, 4, 5] rfl) hW)
set_option maxHeartbeats 4000000 in
set_option maxRecDepth 100000 in
theorem w_addStand (hfl : l.stackTraces = false) (G : g_lw p s m c b L xs D y cL cD) (hl : lv_has ls 8 (g_ll b oa od ad i)) (hW : g_W (fun q => s.heap.size ≤ q) s.heap D y ad (g_X2 cL cD oa od f fd) σ H locs) (hin : vp_in i L ∧ vp_in (i + 1) L ∧ vp_in (i + 2) L ∧ vp_in (i + 3) L ∧ vp_in (i + 4) L) (hcs : cells + 1 ≤ 603072 ∧ slots + 6 ≤ 7186538) {k : Int32} {r : Int32} {f1 : Nat → Int64} {σ1 σ2 : gS} (h1 : L_addStand σ f (xs (i + 1).toNatClampNeg) (xs (i + 2).toNatClampNeg) = some (k, f1, σ1)) (h2 : X7_addStand σ1 (xs (i + 1).toNatClampNeg) (xs (i + 2).toNatClampNeg) = some (r, σ2)) (h3 : σ2 132 8 = k) (h4 : k = 0 → f1 0 = r.toInt64)
    (kk : ∀ (ls : Array Slot) (H : Heap) (locs : List Loc), lv_has ls 8 (g_ll b oa od ad i) → g_W (fun q => s.heap.size ≤ q) s.heap D y ad (g_X2 cL cD oa od f1 fd) σ2 H locs → W p l e room_1 s m #[Value.ref b] below meth c H locs (cells + 1) (slots + 6) Q (F0 m 2293 ls [])) : W p l e room_1 s m #[Value.ref b] below meth c H locs cells slots Q (F0 m 221 ls []) := by
  obtain ⟨hC, hKL, hKD, hY, hX, hbl⟩ := G
  have hx := hC.1
  have hcd := hC.2.1
  have hbA : ¬ (s.heap.size ≤ b) := Nat.not_le.mpr hbl
  have hr1 : cells + 1 + 0 ≤ room_1.cells ∧ slots + 6 + 0 ≤ room_1.slots := ⟨hcs.1, hcs.2⟩
  obtain rfl := h3
  refine lv_aload_n hx hcd dL_law_221 rfl (lv_at hl 1 rfl) ?_
  refine lv_aload_n hx hcd dL_law_222 rfl (lv_at hl 0 rfl) ?_
  refine lv_iload hx hcd dL_law_223 (lv_at hl 5 rfl) ?_
  refine lv_iconst (v := 1) hx hcd dL_law_225 (by decide) ?_
  refine lv_iadd hx hcd dL_law_226 ?_
  refine va_sld hx hcd hX hbl hbA hW.2.2.1 hin.2.1 dL_law_227 ?_
  refine lv_aload_n hx hcd dL_law_228 rfl (lv_at hl 0 rfl) ?_
  refine lv_iload hx hcd dL_law_229 (lv_at hl 5 rfl) ?_
  refine lv_iconst (v := 2) hx hcd dL_law_231 (by decide) ?_
  refine lv_iadd hx hcd dL_law_232 ?_
  refine va_sld hx hcd hX hbl hbA hW.2.2.1 hin.2.2.1 dL_law_233 ?_
  refine lv_aload_n hx hcd dL_law_234 rfl (lv_at hl 3 rfl) ?_
  refine g_callL (j := 0) (As := [.ref (ad 0), .int (xs (i + 1).toNatClampNeg), .int (xs (i + 2).toNatClampNeg), .ref oa]) (rest := []) hC hKL hY hW rfl (c_L_addStand l hfl D y ad (xs (i + 1).toNatClampNeg) (xs (i + 2).toNatClampNeg) σ _ cL oa f h1) ok_L_131 ⟨rfl, rfl, Nat.le_of_ble_eq_true rfl, Nat.le_of_ble_eq_true rfl⟩ rfl hl.1 rfl (Nat.le_of_ble_eq_true rfl) dL_law_235 hcs (fun H locs hW => ?_)
  replace hW : g_W (fun q => s.heap.size ≤ q) s.heap D y ad (g_X2 cL cD oa od f1 fd) σ1 H locs := hW
  refine lv_istore (lv' := [(6, .int (σ2 132 8)), (0, .ref b), (1, .ref (ad 0)), (2, .ref (ad 132)), (3, .ref oa), (4, .ref od), (5, .int i)]) hx hcd dL_law_238 hl (by decide) rfl (fun ls hl => ?_)
  refine lv_aload_n hx hcd dL_law_240 rfl (lv_at hl 3 rfl) ?_
  refine lv_aload_n hx hcd dL_law_241 rfl (lv_at hl 1 rfl) ?_
  refine lv_iload hx hcd dL_law_242 (lv_at hl 6 rfl) ?_
  refine lv_iconst (v := 1) hx hcd dL_law_244 (by decide) ?_
  refine lv_iadd hx hcd dL_law_245 ?_
  refine va_sld hx hcd hX hbl hbA hW.2.2.1 hin.2.1 dL_law_246 ?_
  refine lv_aload_n hx hcd dL_law_247 rfl (lv_at hl 1 rfl) ?_
  refine lv_iload hx hcd dL_law_248 (lv_at hl 6 rfl) ?_
  refine lv_iconst (v := 2) hx hcd dL_law_250 (by decide) ?_
  refine lv_iadd hx hcd dL_law_251 ?_
  refine va_sld hx hcd hX hbl hbA hW.2.2.1 hin.2.2.1 dL_law_252 ?_
  refine g_calli hW (g_runV (i := 132) (As := [.int (xs (i + 1).toNatClampNeg), .int (xs (i + 2).toNatClampNeg)]) (rest := []) hC hW (c_X7_addStand l D y ad (xs (i + 1).toNatClampNeg) (xs (i + 2).toNatClampNeg) σ1 _ h2) ok_L_136 ⟨rfl, rfl, Nat.le_of_ble_eq_true rfl, Nat.le_of_ble_eq_true rfl⟩ (by decide) rfl rfl rfl rfl hl.1 rfl (Nat.le_of_ble_eq_true rfl) dL_law_253 hr1) (fun H locs hW => ?_)
  refine lv_istore (lv' := [(7, .int r), (6, .int (σ2 132 8)), (0, .ref b), (1, .ref (ad 0)), (2, .ref (ad 132)), (3, .ref oa), (4, .ref od), (5, .int i)]) hx hcd dL_law_256 hl (by decide) rfl (fun ls hl => ?_)
  refine lv_aload_n hx hcd dL_law_258 rfl (lv_at hl 4 rfl) ?_
  refine g_calli hW (g_runV (i := 132) (As := []) (rest := []) hC hW (c_X7_thrown l D y ad σ2 _ (show X7_thrown σ2 = some (σ2 132 8) from rfl)) ok_L_137 ⟨rfl, rfl, Nat.le_of_ble_eq_true rfl, Nat.le_of_ble_eq_true rfl⟩ (by decide) rfl rfl rfl rfl hl.1 rfl (Nat.le_of_ble_eq_true rfl) dL_law_259 hr1) (fun H locs hW => ?_)
  refine lv_iload hx hcd dL_law_262 (lv_at hl 1 rfl) ?_
  refine lv_icmp_eq (tgt := 269) hx hcd dL_law_264 (by decide) (fun _ => ?_) (fun c9 => absurd rfl c9)
  refine lv_iload hx hcd dL_law_269 (lv_at hl 1 rfl) ?_
  refine lv_if_ne (tgt := 286) hx hcd dL_law_271 (by decide) (fun c8 => ?_) (fun c8 => ?_)
  · clear h4
    refine lv_goto (tgt := 2293) hx hcd dL_law_286 (by decide) ?_
    exact kk _ _ _ (lv_sub hl [2, 3, 4, 5, 6, 7] rfl) hW
  · replace h4 := h4 c8
    refine lv_aload_n hx hcd dL_law_274 rfl (lv_at hl 5 rfl) ?_
    refine lv_iconst (v := 0) hx hcd dL_law_275 (by decide) ?_
    refine va_lald hx hcd hKL hW.1 143 0 g_X2_0 rfl (i := 0) (vp_in_nI (n := 0) (by omega) (by omega)) dL_law_276 ?_
    refine lv_iload hx hcd dL_law_277 (lv_at hl 0 rfl) ?_
    refine lv_i2l (v := r.toInt64) hx hcd dL_law_279 rfl ?_
    refine W.lcmp hx hcd dL_law_280 ?_
    refine lv_if_eq (tgt := 286) hx hcd dL_law_281 (by decide) (fun _ => ?_) (fun c9 => absurd ((lg_cmp_eq _ _).mpr h4) c9)
    refine lv_goto (tgt := 2293) hx hcd dL_law_286 (by decide) ?_
    exact kk _ _ _ (lv_sub hl [2, 3, 4, 5, 6, 7] rfl) hW
set_option maxHeartbeats 4000000 in
set_option maxRecDepth 100000 in
theorem w_pair (hfl : l.stackTraces = false) (G : g_lw p s m c b L xs D y cL cD) (hl : lv_has ls 8 (g_ll b oa od ad i)) (hW : g_W (fun q => s.heap.size ≤ q) s.heap D y ad (g_X2 cL cD oa od f fd) σ H locs) (hin : vp_in i L ∧ vp_in (i + 1) L ∧ vp_in (i + 2) L ∧ vp_in (i + 3) L ∧ vp_in (i + 4) L) (hcs : cells + 1 ≤ 603072 ∧ slots + 6 ≤ 7186538) {k : Int32} {r : Int32} {f1 : Nat → Int64} {σ1 σ2 : gS} (h1 : L_pair σ f (xs (i + 1).toNatClampNeg) (xs (i + 2).toNatClampNeg) (xs (i + 3).toNatClampNeg) = some (k, f1, σ1)) (h2 : X7_pair σ1 (xs (i + 1).toNatClampNeg) (xs (i + 2).toNatClampNeg) (xs (i + 3).toNatClampNeg) = some (r, σ2)) (h3 : σ2 132 8 = k) (h4 : k = 0 → f1 0 = r.toInt64)
    (kk : ∀ (ls : Array Slot) (H : Heap) (locs : List Loc), lv_has ls 8 (g_ll b oa od ad i) → g_W (fun q => s.heap.size ≤ q) s.heap D y ad (g_X2 cL cD oa od f1 fd) σ2 H locs → W p l e room_1 s m #[Value.ref b] below meth c H locs (cells + 1) (slots + 6) Q (F0 m 2293 ls [])) : W p l e room_1 s m #[Value.ref b] below meth c H locs cells slots Q (F0 m 289 ls []) := by
  obtain ⟨hC, hKL, hKD, hY, hX, hbl⟩ := G
  have hx := hC.1
  have hcd := hC.2.1
  have hbA : ¬ (s.heap.size ≤ b) := Nat.not_le.mpr hbl
  have hr1 : cells + 1 + 0 ≤ room_1.cells ∧ slots + 6 + 0 ≤ room_1.slots := ⟨hcs.1, hcs.2⟩
  obtain rfl := h3
  refine lv_aload_n hx hcd dL_law_289 rfl (lv_at hl 1 rfl) ?_
  refine lv_aload_n hx hcd dL_law_290 rfl (lv_at hl 0 rfl) ?_
  refine lv_iload hx hcd dL_law_291 (lv_at hl 5 rfl) ?_
  refine lv_iconst (v := 1) hx hcd dL_law_293 (by decide) ?_
  refine lv_iadd hx hcd dL_law_294 ?_
  refine va_sld hx hcd hX hbl hbA hW.2.2.1 hin.2.1 dL_law_295 ?_
  refine lv_aload_n hx hcd dL_law_296 rfl (lv_at hl 0 rfl) ?_
  refine lv_iload hx hcd dL_law_297 (lv_at hl 5 rfl) ?_
  refine lv_iconst (v := 2) hx hcd dL_law_299 (by decide) ?_
  refine lv_iadd hx hcd dL_law_300 ?_
  refine va_sld hx hcd hX hbl hbA hW.2.2.1 hin.2.2.1 dL_law_301 ?_
  refine lv_aload_n hx hcd dL_law_302 rfl (lv_at hl 0 rfl) ?_
  refine lv_iload hx hcd dL_law_303 (lv_at hl 5 rfl) ?_
  refine lv_iconst (v := 3) hx hcd dL_law_305 (by decide) ?_
  refine lv_iadd hx hcd dL_law_306 ?_
  refine va_sld hx hcd hX hbl hbA hW.2.2.1 hin.2.2.2.1 dL_law_307 ?_
  refine lv_aload_n hx hcd dL_law_308 rfl (lv_at hl 3 rfl) ?_
  refine g_callL (j := 0) (As := [.ref (ad 0), .int (xs (i + 1).toNatClampNeg), .int (xs (i + 2).toNatClampNeg), .int (xs (i + 3).toNatClampNeg), .ref oa]) (rest := []) hC hKL hY hW rfl (c_L_pair l hfl D y ad (xs (i + 1).toNatClampNeg) (xs (i + 2).toNatClampNeg) (xs (i + 3).toNatClampNeg) σ _ cL oa f h1) ok_L_140 ⟨rfl, rfl, Nat.le_of_ble_eq_true rfl, Nat.le_of_ble_eq_true rfl⟩ rfl hl.1 rfl (Nat.le_of_ble_eq_true rfl) dL_law_309 hcs (fun H locs hW => ?_)
  replace hW : g_W (fun q => s.heap.size ≤ q) s.heap D y ad (g_X2 cL cD oa od f1 fd) σ1 H locs := hW
  refine lv_istore (lv' := [(6, .int (σ2 132 8)), (0, .ref b), (1, .ref (ad 0)), (2, .ref (ad 132)), (3, .ref oa), (4, .ref od), (5, .int i)]) hx hcd dL_law_312 hl (by decide) rfl (fun ls hl => ?_)
  refine lv_aload_n hx hcd dL_law_314 rfl (lv_at hl 3 rfl) ?_
  refine lv_aload_n hx hcd dL_law_315 rfl (lv_at hl 1 rfl) ?_
  refine lv_iload hx hcd dL_law_316 (lv_at hl 6 rfl) ?_
  refine lv_iconst (v := 1) hx hcd dL_law_318 (by decide) ?_
  refine lv_iadd hx hcd dL_law_319 ?_
  refine va_sld hx hcd hX hbl hbA hW.2.2.1 hin.2.1 dL_law_320 ?_
  refine lv_aload_n hx hcd dL_law_321 rfl (lv_at hl 1 rfl) ?_
  refine lv_iload hx hcd dL_law_322 (lv_at hl 6 rfl) ?_
  refine lv_iconst (v := 2) hx hcd dL_law_324 (by decide) ?_
  refine lv_iadd hx hcd dL_law_325 ?_
  refine va_sld hx hcd hX hbl hbA hW.2.2.1 hin.2.2.1 dL_law_326 ?_
  refine lv_aload_n hx hcd dL_law_327 rfl (lv_at hl 1 rfl) ?_
  refine lv_iload hx hcd dL_law_328 (lv_at hl 6 rfl) ?_
  refine lv_iconst (v := 3) hx hcd dL_law_330 (by decide) ?_
  refine lv_iadd hx hcd dL_law_331 ?_
  refine va_sld hx hcd hX hbl hbA hW.2.2.1 hin.2.2.2.1 dL_law_332 ?_
  refine g_calli hW (g_runV (i := 132) (As := [.int (xs (i + 1).toNatClampNeg), .int (xs (i + 2).toNatClampNeg), .int (xs (i + 3).toNatClampNeg)]) (rest := []) hC hW (c_X7_pair l D y ad (xs (i + 1).toNatClampNeg) (xs (i + 2).toNatClampNeg) (xs (i + 3).toNatClampNeg) σ1 _ h2) ok_L_143 ⟨rfl, rfl, Nat.le_of_ble_eq_true rfl, Nat.le_of_ble_eq_true rfl⟩ (by decide) rfl rfl rfl rfl hl.1 rfl (Nat.le_of_ble_eq_true rfl) dL_law_333 hr1) (fun H locs hW => ?_)
  refine lv_istore (lv' := [(7, .int r), (6, .int (σ2 132 8)), (0, .ref b), (1, .ref (ad 0)), (2, .ref (ad 132)), (3, .ref oa), (4, .ref od), (5, .int i)]) hx hcd dL_law_336 hl (by decide) rfl (fun ls hl => ?_)
  refine lv_aload_n hx hcd dL_law_338 rfl (lv_at hl 4 rfl) ?_
  refine g_calli hW (g_runV (i := 132) (As := []) (rest := []) hC hW (c_X7_thrown l D y ad σ2 _ (show X7_thrown σ2 = some (σ2 132 8) from rfl)) ok_L_137 ⟨rfl, rfl, Nat.le_of_ble_eq_true rfl, Nat.le_of_ble_eq_true rfl⟩ (by decide) rfl rfl rfl rfl hl.1 rfl (Nat.le_of_ble_eq_true rfl) dL_law_339 hr1) (fun H locs hW => ?_)
  refine lv_iload hx hcd dL_law_342 (lv_at hl 1 rfl) ?_
  refine lv_icmp_eq (tgt := 349) hx hcd dL_law_344 (by decide) (fun _ => ?_) (fun c9 => absurd rfl c9)
  refine lv_iload hx hcd dL_law_349 (lv_at hl 1 rfl) ?_
  refine lv_if_ne (tgt := 366) hx hcd dL_law_351 (by decide) (fun c8 => ?_) (fun c8 => ?_)
  · clear h4
    refine lv_goto (tgt := 2293) hx hcd dL_law_366 (by decide) ?_
    exact kk _ _ _ (lv_sub hl [2, 3, 4, 5, 6, 7] rfl) hW
  · replace h4 := h4 c8
    refine lv_aload_n hx hcd dL_law_354 rfl (lv_at hl 5 rfl) ?_
    refine lv_iconst (v := 0) hx hcd dL_law_355 (by decide) ?_
    refine va_lald hx hcd hKL hW.1 143 0 g_X2_0 rfl (i := 0) (vp_in_nI (n := 0) (by omega) (by omega)) dL_law_356 ?_
    refine lv_iload hx hcd dL_law_357 (lv_at hl 0 rfl) ?_
    refine lv_i2l (v := r.toInt64) hx hcd dL_law_359 rfl ?_
    refine W.lcmp hx hcd dL_law_360 ?_
    refine lv_if_eq (tgt := 366) hx hcd dL_law_361 (by decide) (fun _ => ?_) (fun c9 => absurd ((lg_cmp_eq _ _).mpr h4) c9)
    refine lv_goto (tgt := 2293) hx hcd dL_law_366 (by decide) ?_
    exact kk _ _ _ (lv_sub hl [2, 3, 4, 5, 6, 7] rfl) hW
set_option maxHeartbeats 4000000 in
set_option maxRecDepth 100000 in
theorem w_setOpen (hfl : l.stackTraces = false) (G : g_lw p s m c b L xs D y cL cD) (hl : lv_has ls 8 (g_ll b oa od ad i)) (hW : g_W (fun q => s.heap.size ≤ q) s.heap D y ad (g_X2 cL cD oa od f fd) σ H locs) (hin : vp_in i L ∧ vp_in (i + 1) L ∧ vp_in (i + 2) L ∧ vp_in (i + 3) L ∧ vp_in (i + 4) L) (hcs : cells + 1 ≤ 603072 ∧ slots + 6 ≤ 7186538) {k : Int32} {r : Int32} {f1 : Nat → Int64} {σ1 σ2 : gS} (h1 : L_setOpen σ f (xs (i + 1).toNatClampNeg) (bx (xs (i + 2).toNatClampNeg)) = some (k, f1, σ1)) (h2 : X7_setOpen σ1 (xs (i + 1).toNatClampNeg) (bx (xs (i + 2).toNatClampNeg)) = some (r, σ2)) (h3 : σ2 132 8 = k) (h4 : k = 0 → f1 0 = if r = 0 then 0 else 1)
    (kk : ∀ (ls : Array Slot) (H : Heap) (locs : List Loc), lv_has ls 8 (g_ll b oa od ad i) → g_W (fun q => s.heap.size ≤ q) s.heap D y ad (g_X2 cL cD oa od f1 fd) σ2 H locs → W p l e room_1 s m #[Value.ref b] below meth c H locs (cells + 1) (slots + 6) Q (F0 m 2293 ls [])) : W p l e room_1 s m #[Value.ref b] below meth c H locs cells slots Q (F0 m 369 ls []) := by
  obtain ⟨hC, hKL, hKD, hY, hX, hbl⟩ := G
  have hx := hC.1
  have hcd := hC.2.1
  have hbA : ¬ (s.heap.size ≤ b) := Nat.not_le.mpr hbl
  have hr1 : cells + 1 + 0 ≤ room_1.cells ∧ slots + 6 + 0 ≤ room_1.slots := ⟨hcs.1, hcs.2⟩
  obtain rfl := h3
  refine lv_aload_n hx hcd dL_law_369 rfl (lv_at hl 1 rfl) ?_
  refine lv_aload_n hx hcd dL_law_370 rfl (lv_at hl 0 rfl) ?_
  refine lv_iload hx hcd dL_law_371 (lv_at hl 5 rfl) ?_
  refine lv_iconst (v := 1) hx hcd dL_law_373 (by decide) ?_
  refine lv_iadd hx hcd dL_law_374 ?_
  refine va_sld hx hcd hX hbl hbA hW.2.2.1 hin.2.1 dL_law_375 ?_
  refine lv_aload_n hx hcd dL_law_376 rfl (lv_at hl 0 rfl) ?_
  refine lv_iload hx hcd dL_law_377 (lv_at hl 5 rfl) ?_
  refine lv_iconst (v := 2) hx hcd dL_law_379 (by decide) ?_
  refine lv_iadd hx hcd dL_law_380 ?_
  refine va_sld hx hcd hX hbl hbA hW.2.2.1 hin.2.2.1 dL_law_381 ?_
  refine lv_if_eq (tgt := 389) hx hcd dL_law_382 (by decide) (fun c382 => ?_) (fun c382 => ?_)
  · rw [show bx (xs (i + 2).toNatClampNeg) = 0 from if_pos c382] at h1 h2
    refine lv_iconst (v := 0) hx hcd dL_law_389 (by decide) ?_
    refine lv_aload_n hx hcd dL_law_390 rfl (lv_at hl 3 rfl) ?_
    refine g_callL (j := 0) (As := [.ref (ad 0), .int (xs (i + 1).toNatClampNeg), .int 0, .ref oa]) (rest := []) hC hKL hY hW rfl (c_L_setOpen l hfl D y ad (xs (i + 1).toNatClampNeg) 0 σ _ cL oa f h1) ok_L_144 ⟨rfl, rfl, Nat.le_of_ble_eq_true rfl, Nat.le_of_ble_eq_true rfl⟩ rfl hl.1 rfl (Nat.le_of_ble_eq_true rfl) dL_law_391 hcs (fun H locs hW => ?_)
    replace hW : g_W (fun q => s.heap.size ≤ q) s.heap D y ad (g_X2 cL cD oa od f1 fd) σ1 H locs := hW
    refine lv_istore (lv' := [(6, .int (σ2 132 8)), (0, .ref b), (1, .ref (ad 0)), (2, .ref (ad 132)), (3, .ref oa), (4, .ref od), (5, .int i)]) hx hcd dL_law_394 hl (by decide) rfl (fun ls hl => ?_)
    refine lv_aload_n hx hcd dL_law_396 rfl (lv_at hl 3 rfl) ?_
    refine lv_aload_n hx hcd dL_law_397 rfl (lv_at hl 1 rfl) ?_
    refine lv_iload hx hcd dL_law_398 (lv_at hl 6 rfl) ?_
    refine lv_iconst (v := 1) hx hcd dL_law_400 (by decide) ?_
    refine lv_iadd hx hcd dL_law_401 ?_
    refine va_sld hx hcd hX hbl hbA hW.2.2.1 hin.2.1 dL_law_402 ?_
    refine lv_aload_n hx hcd dL_law_403 rfl (lv_at hl 1 rfl) ?_
    refine lv_iload hx hcd dL_law_404 (lv_at hl 6 rfl) ?_
    refine lv_iconst (v := 2) hx hcd dL_law_406 (by decide) ?_
    refine lv_iadd hx hcd dL_law_407 ?_
    refine va_sld hx hcd hX hbl hbA hW.2.2.1 hin.2.2.1 dL_law_408 ?_
    refine lv_if_eq (tgt := 416) hx hcd dL_law_409 (by decide) (fun _ => ?_) (fun c9 => absurd c382 c9)
    refine lv_iconst (v := 0) hx hcd dL_law_416 (by decide) ?_
    refine g_calli hW (g_runV (i := 132) (As := [.int (xs (i + 1).toNatClampNeg), .int 0]) (rest := []) hC hW (c_X7_setOpen l D y ad (xs (i + 1).toNatClampNeg) 0 σ1 _ h2) ok_L_147 ⟨rfl, rfl, Nat.le_of_ble_eq_true rfl, Nat.le_of_ble_eq_true rfl⟩ (by decide) rfl rfl rfl rfl hl.1 rfl (Nat.le_of_ble_eq_true rfl) dL_law_417 hr1) (fun H locs hW => ?_)
    refine lv_istore (lv' := [(7, .int r), (6, .int (σ2 132 8)), (0, .ref b), (1, .ref (ad 0)), (2, .ref (ad 132)), (3, .ref oa), (4, .ref od), (5, .int i)]) hx hcd dL_law_420 hl (by decide) rfl (fun ls hl => ?_)
    refine lv_aload_n hx hcd dL_law_422 rfl (lv_at hl 4 rfl) ?_
    refine g_calli hW (g_runV (i := 132) (As := []) (rest := []) hC hW (c_X7_thrown l D y ad σ2 _ (show X7_thrown σ2 = some (σ2 132 8) from rfl)) ok_L_137 ⟨rfl, rfl, Nat.le_of_ble_eq_true rfl, Nat.le_of_ble_eq_true rfl⟩ (by decide) rfl rfl rfl rfl hl.1 rfl (Nat.le_of_ble_eq_true rfl) dL_law_423 hr1) (fun H locs hW => ?_)
    refine lv_iload hx hcd dL_law_426 (lv_at hl 1 rfl) ?_
    refine lv_icmp_eq (tgt := 433) hx hcd dL_law_428 (by decide) (fun _ => ?_) (fun c9 => absurd rfl c9)
    refine lv_iload hx hcd dL_law_433 (lv_at hl 1 rfl) ?_
    refine lv_if_ne (tgt := 457) hx hcd dL_law_435 (by decide) (fun c8 => ?_) (fun c8 => ?_)
    · clear h4
      refine lv_goto (tgt := 2293) hx hcd dL_law_457 (by decide) ?_
      exact kk _ _ _ (lv_sub hl [2, 3, 4, 5, 6, 7] rfl) hW
    · replace h4 := h4 c8
      refine lv_aload_n hx hcd dL_law_438 rfl (lv_at hl 5 rfl) ?_
      refine lv_iconst (v := 0) hx hcd dL_law_439 (by decide) ?_
      refine va_lald hx hcd hKL hW.1 143 0 g_X2_0 rfl (i := 0) (vp_in_nI (n := 0) (by omega) (by omega)) dL_law_440 ?_
      refine lv_iload hx hcd dL_law_441 (lv_at hl 0 rfl) ?_
      refine lv_if_eq (tgt := 450) hx hcd dL_law_443 (by decide) (fun c7 => ?_) (fun c7 => ?_)
      · rw [if_pos c7] at h4
        refine lv_lconst (v := 0) hx hcd dL_law_450 (by decide) ?_
        refine W.lcmp hx hcd dL_law_451 ?_
        refine lv_if_eq (tgt := 457) hx hcd dL_law_452 (by decide) (fun _ => ?_) (fun c9 => absurd ((lg_cmp_eq _ _).mpr h4) c9)
        refine lv_goto (tgt := 2293) hx hcd dL_law_457 (by decide) ?_
        exact kk _ _ _ (lv_sub hl [2, 3, 4, 5, 6, 7] rfl) hW
      · rw [if_neg c7] at h4
        refine lv_lconst (v := 1) hx hcd dL_law_446 (by decide) ?_
        refine lv_goto (tgt := 451) hx hcd dL_law_447 (by decide) ?_
        refine W.lcmp hx hcd dL_law_451 ?_
        refine lv_if_eq (tgt := 457) hx hcd dL_law_452 (by decide) (fun _ => ?_) (fun c9 => absurd ((lg_cmp_eq _ _).mpr h4) c9)
        refine lv_goto (tgt := 2293) hx hcd dL_law_457 (by decide) ?_
        exact kk _ _ _ (lv_sub hl [2, 3, 4, 5, 6, 7] rfl) hW
  · rw [show bx (xs (i + 2).toNatClampNeg) = 1 from if_neg c382] at h1 h2
    refine lv_iconst (v := 1) hx hcd dL_law_385 (by decide) ?_
    refine lv_goto (tgt := 390) hx hcd dL_law_386 (by decide) ?_
    refine lv_aload_n hx hcd dL_law_390 rfl (lv_at hl 3 rfl) ?_
    refine g_callL (j := 0) (As := [.ref (ad 0), .int (xs (i + 1).toNatClampNeg), .int 1, .ref oa]) (rest := []) hC hKL hY hW rfl (c_L_setOpen l hfl D y ad (xs (i + 1).toNatClampNeg) 1 σ _ cL oa f h1) ok_L_144 ⟨rfl, rfl, Nat.le_of_ble_eq_true rfl, Nat.le_of_ble_eq_true rfl⟩ rfl hl.1 rfl (Nat.le_of_ble_eq_true rfl) dL_law_391 hcs (fun H locs hW => ?_)
    replace hW : g_W (fun q => s.heap.size ≤ q) s.heap D y ad (g_X2 cL cD oa od f1 fd) σ1 H locs := hW
    refine lv_istore (lv' := [(6, .int (σ2 132 8)), (0, .ref b), (1, .ref (ad 0)), (2, .ref (ad 132)), (3, .ref oa), (4, .ref od), (5, .int i)]) hx hcd dL_law_394 hl (by decide) rfl (fun ls hl => ?_)
    refine lv_aload_n hx hcd dL_law_396 rfl (lv_at hl 3 rfl) ?_
    refine lv_aload_n hx hcd dL_law_397 rfl (lv_at hl 1 rfl) ?_
    refine lv_iload hx hcd dL_law_398 (lv_at hl 6 rfl) ?_
    refine lv_iconst (v := 1) hx hcd dL_law_400 (by decide) ?_
    refine lv_iadd hx hcd dL_law_401 ?_
    refine va_sld hx hcd hX hbl hbA hW.2.2.1 hin.2.1 dL_law_402 ?_
    refine lv_aload_n hx hcd dL_law_403 rfl (lv_at hl 1 rfl) ?_
    refine lv_iload hx hcd dL_law_404 (lv_at hl 6 rfl) ?_
    refine lv_iconst (v := 2) hx hcd dL_law_406 (by decide) ?_
    refine lv_iadd hx hcd dL_law_407 ?_
    refine va_sld hx hcd hX hbl hbA hW.2.2.1 hin.2.2.1 dL_law_408 ?_
    refine lv_if_eq (tgt := 416) hx hcd dL_law_409 (by decide) (fun c9 => absurd c9 c382) (fun _ => ?_)
    refine lv_iconst (v := 1) hx hcd dL_law_412 (by decide) ?_
    refine lv_goto (tgt := 417) hx hcd dL_law_413 (by decide) ?_
    refine g_calli hW (g_runV (i := 132) (As := [.int (xs (i + 1).toNatClampNeg), .int 1]) (rest := []) hC hW (c_X7_setOpen l D y ad (xs (i + 1).toNatClampNeg) 1 σ1 _ h2) ok_L_147 ⟨rfl, rfl, Nat.le_of_ble_eq_true rfl, Nat.le_of_ble_eq_true rfl⟩ (by decide) rfl rfl rfl rfl hl.1 rfl (Nat.le_of_ble_eq_true rfl) dL_law_417 hr1) (fun H locs hW => ?_)
    refine lv_istore (lv' := [(7, .int r), (6, .int (σ2 132 8)), (0, .ref b), (1, .ref (ad 0)), (2, .ref (ad 132)), (3, .ref oa), (4, .ref od), (5, .int i)]) hx hcd dL_law_420 hl (by decide) rfl (fun ls hl => ?_)
    refine lv_aload_n hx hcd dL_law_422 rfl (lv_at hl 4 rfl) ?_
    refine g_calli hW (g_runV (i := 132) (As := []) (rest := []) hC hW (c_X7_thrown l D y ad σ2 _ (show X7_thrown σ2 = some (σ2 132 8) from rfl)) ok_L_137 ⟨rfl, rfl, Nat.le_of_ble_eq_true rfl, Nat.le_of_ble_eq_true rfl⟩ (by decide) rfl rfl rfl rfl hl.1 rfl (Nat.le_of_ble_eq_true rfl) dL_law_423 hr1) (fun H locs hW => ?_)
    refine lv_iload hx hcd dL_law_426 (lv_at hl 1 rfl) ?_
    refine lv_icmp_eq (tgt := 433) hx hcd dL_law_428 (by decide) (fun _ => ?_) (fun c9 => absurd rfl c9)
    refine lv_iload hx hcd dL_law_433 (lv_at hl 1 rfl) ?_
    refine lv_if_ne (tgt := 457) hx hcd dL_law_435 (by decide) (fun c8 => ?_) (fun c8 => ?_)
    · clear h4
      refine lv_goto (tgt := 2293) hx hcd dL_law_457 (by decide) ?_
      exact kk _ _ _ (lv_sub hl [2, 3, 4, 5, 6, 7] rfl) hW
    · replace h4 := h4 c8
      refine lv_aload_n hx hcd dL_law_438 rfl (lv_at hl 5 rfl) ?_
      refine lv_iconst (v := 0) hx hcd dL_law_439 (by decide) ?_
      refine va_lald hx hcd hKL hW.1 143 0 g_X2_0 rfl (i := 0) (vp_in_nI (n := 0) (by omega) (by omega)) dL_law_440 ?_
      refine lv_iload hx hcd dL_law_441 (lv_at hl 0 rfl) ?_
      refine lv_if_eq (tgt := 450) hx hcd dL_law_443 (by decide) (fun c7 => ?_) (fun c7 => ?_)
      · rw [if_pos c7] at h4
        refine lv_lconst (v := 0) hx hcd dL_law_450 (by decide) ?_
        refine W.lcmp hx hcd dL_law_451 ?_
        refine lv_if_eq (tgt := 457) hx hcd dL_law_452 (by decide) (fun _ => ?_) (fun c9 => absurd ((lg_cmp_eq _ _).mpr h4) c9)
        refine lv_goto (tgt := 2293) hx hcd dL_law_457 (by decide) ?_
        exact kk _ _ _ (lv_sub hl [2, 3, 4, 5, 6, 7] rfl) hW
      · rw [if_neg c7] at h4
        refine lv_lconst (v := 1) hx hcd dL_law_446 (by decide) ?_
        refine lv_goto (tgt := 451) hx hcd dL_law_447 (by decide) ?_
        refine W.lcmp hx hcd dL_law_451 ?_
        refine lv_if_eq (tgt := 457) hx hcd dL_law_452 (by decide) (fun _ => ?_) (fun c9 => absurd ((lg_cmp_eq _ _).mpr h4) c9)
        refine lv_goto (tgt := 2293) hx hcd dL_law_457 (by decide) ?_
        exact kk _ _ _ (lv_sub hl [2, 3, 4, 5, 6, 7] rfl) hW
set_option maxHeartbeats 4000000 in
set_option maxRecDepth 100000 in
theorem w_setBuffer (hfl : l.stackTraces = false) (G : g_lw p s m c b L xs D y cL cD) (hl : lv_has ls 8 (g_ll b oa od ad i)) (hW : g_W (fun q => s.heap.size ≤ q) s.heap D y ad (g_X2 cL cD oa od f fd) σ H locs) (hin : vp_in i L ∧ vp_in (i + 1) L ∧ vp_in (i + 2) L ∧ vp_in (i + 3) L ∧ vp_in (i + 4) L) (hcs : cells + 1 ≤ 603072 ∧ slots + 6 ≤ 7186538) {k : Int32} {r : Int32} {f1 : Nat → Int64} {σ1 σ2 : gS} (h1 : L_setBuffer σ f (xs (i + 1).toNatClampNeg) = some (k, f1, σ1)) (h2 : X7_setBuffer σ1 (xs (i + 1).toNatClampNeg) = some (r, σ2)) (h3 : σ2 132 8 = k) (h4 : k = 0 → f1 0 = r.toInt64)
    (kk : ∀ (ls : Array Slot) (H : Heap) (locs : List Loc), lv_has ls 8 (g_ll b oa od ad i) → g_W (fun q => s.heap.size ≤ q) s.heap D y ad (g_X2 cL cD oa od f1 fd) σ2 H locs → W p l e room_1 s m #[Value.ref b] below meth c H locs (cells + 1) (slots + 6) Q (F0 m 2293 ls [])) : W p l e room_1 s m #[Value.ref b] below meth c H locs cells slots Q (F0 m 460 ls []) := by
  obtain ⟨hC, hKL, hKD, hY, hX, hbl⟩ := G
  have hx := hC.1
  have hcd := hC.2.1
  have hbA : ¬ (s.heap.size ≤ b) := Nat.not_le.mpr hbl
  have hr1 : cells + 1 + 0 ≤ room_1.cells ∧ slots + 6 + 0 ≤ room_1.slots := ⟨hcs.1, hcs.2⟩
  obtain rfl := h3
  refine lv_aload_n hx hcd dL_law_460 rfl (lv_at hl 1 rfl) ?_
  refine lv_aload_n hx hcd dL_law_461 rfl (lv_at hl 0 rfl) ?_
  refine lv_iload hx hcd dL_law_462 (lv_at hl 5 rfl) ?_
  refine lv_iconst (v := 1) hx hcd dL_law_464 (by decide) ?_
  refine lv_iadd hx hcd dL_law_465 ?_
  refine va_sld hx hcd hX hbl hbA hW.2.2.1 hin.2.1 dL_law_466 ?_
  refine lv_aload_n hx hcd dL_law_467 rfl (lv_at hl 3 rfl) ?_
  refine g_callL (j := 0) (As := [.ref (ad 0), .int (xs (i + 1).toNatClampNeg), .ref oa]) (rest := []) hC hKL hY hW rfl (c_L_setBuffer l hfl D y ad (xs (i + 1).toNatClampNeg) σ _ cL oa f h1) ok_L_148 ⟨rfl, rfl, Nat.le_of_ble_eq_true rfl, Nat.le_of_ble_eq_true rfl⟩ rfl hl.1 rfl (Nat.le_of_ble_eq_true rfl) dL_law_468 hcs (fun H locs hW => ?_)
  replace hW : g_W (fun q => s.heap.size ≤ q) s.heap D y ad (g_X2 cL cD oa od f1 fd) σ1 H locs := hW
  refine lv_istore (lv' := [(6, .int (σ2 132 8)), (0, .ref b), (1, .ref (ad 0)), (2, .ref (ad 132)), (3, .ref oa), (4, .ref od), (5, .int i)]) hx hcd dL_law_471 hl (by decide) rfl (fun ls hl => ?_)
  refine lv_aload_n hx hcd dL_law_473 rfl (lv_at hl 3 rfl) ?_
  refine lv_aload_n hx hcd dL_law_474 rfl (lv_at hl 1 rfl) ?_
  refine lv_iload hx hcd dL_law_475 (lv_at hl 6 rfl) ?_
  refine lv_iconst (v := 1) hx hcd dL_law_477 (by decide) ?_
  refine lv_iadd hx hcd dL_law_478 ?_
  refine va_sld hx hcd hX hbl hbA hW.2.2.1 hin.2.1 dL_law_479 ?_
  refine g_calli hW (g_runV (i := 132) (As := [.int (xs (i + 1).toNatClampNeg)]) (rest := []) hC hW (c_X7_setBuffer l D y ad (xs (i + 1).toNatClampNeg) σ1 _ h2) ok_L_151 ⟨rfl, rfl, Nat.le_of_ble_eq_true rfl, Nat.le_of_ble_eq_true rfl⟩ (by decide) rfl rfl rfl rfl hl.1 rfl (Nat.le_of_ble_eq_true rfl) dL_law_480 hr1) (fun H locs hW => ?_)
  refine lv_istore (lv' := [(7, .int r), (6, .int (σ2 132 8)), (0, .ref b), (1, .ref (ad 0)), (2, .ref (ad 132)), (3, .ref oa), (4, .ref od), (5, .int i)]) hx hcd dL_law_483 hl (by decide) rfl (fun ls hl => ?_)
  refine lv_aload_n hx hcd dL_law_485 rfl (lv_at hl 4 rfl) ?_
  refine g_calli hW (g_runV (i := 132) (As := []) (rest := []) hC hW (c_X7_thrown l D y ad σ2 _ (show X7_thrown σ2 = some (σ2 132 8) from rfl)) ok_L_137 ⟨rfl, rfl, Nat.le_of_ble_eq_true rfl, Nat.le_of_ble_eq_true rfl⟩ (by decide) rfl rfl rfl rfl hl.1 rfl (Nat.le_of_ble_eq_true rfl) dL_law_486 hr1) (fun H locs hW => ?_)
  refine lv_iload hx hcd dL_law_489 (lv_at hl 1 rfl) ?_
  refine lv_icmp_eq (tgt := 496) hx hcd dL_law_491 (by decide) (fun _ => ?_) (fun c9 => absurd rfl c9)
  refine lv_iload hx hcd dL_law_496 (lv_at hl 1 rfl) ?_
  refine lv_if_ne (tgt := 513) hx hcd dL_law_498 (by decide) (fun c8 => ?_) (fun c8 => ?_)
  · clear h4
    refine lv_goto (tgt := 2293) hx hcd dL_law_513 (by decide) ?_
    exact kk _ _ _ (lv_sub hl [2, 3, 4, 5, 6, 7] rfl) hW
  · replace h4 := h4 c8
    refine lv_aload_n hx hcd dL_law_501 rfl (lv_at hl 5 rfl) ?_
    refine lv_iconst (v := 0) hx hcd dL_law_502 (by decide) ?_
    refine va_lald hx hcd hKL hW.1 143 0 g_X2_0 rfl (i := 0) (vp_in_nI (n := 0) (by omega) (by omega)) dL_law_503 ?_
    refine lv_iload hx hcd dL_law_504 (lv_at hl 0 rfl) ?_
    refine lv_i2l (v := r.toInt64) hx hcd dL_law_506 rfl ?_
    refine W.lcmp hx hcd dL_law_507 ?_
    refine lv_if_eq (tgt := 513) hx hcd dL_law_508 (by decide) (fun _ => ?_) (fun c9 => absurd ((lg_cmp_eq _ _).mpr h4) c9)
    refine lv_goto (tgt := 2293) hx hcd dL_law_513 (by decide) ?_
    exact kk _ _ _ (lv_sub hl [2, 3, 4, 5, 6, 7] rfl) hW
set_option maxHeartbeats 4000000 in
set_option maxRecDepth 100000 in
theorem w_stand (hfl : l.stackTraces = false) (G : g_lw p s m c b L xs D y cL cD) (hl : lv_has ls 8 (g_ll b oa od ad i)) (hW : g_W (fun q => s.heap.size ≤ q) s.heap D y ad (g_X2 cL cD oa od f fd) σ H locs) (hin : vp_in i L ∧ vp_in (i + 1) L ∧ vp_in (i + 2) L ∧ vp_in (i + 3) L ∧ vp_in (i + 4) L) (hcs : cells + 1 ≤ 603072 ∧ slots + 6 ≤ 7186538) {k : Int32} {r : Int32} {f1 : Nat → Int64} {σ1 σ2 : gS} (h1 : L_stand σ f (xs (i + 1).toNatClampNeg) (xs (i + 2).toNatClampNeg) = some (k, f1, σ1)) (h2 : X7_stand σ1 (xs (i + 1).toNatClampNeg) (xs (i + 2).toNatClampNeg) = some (r, σ2)) (h3 : σ2 132 8 = k) (h4 : k = 0 → f1 0 = r.toInt64)
    (kk : ∀ (ls : Array Slot) (H : Heap) (locs : List Loc), lv_has ls 8 (g_ll b oa od ad i) → g_W (fun q => s.heap.size ≤ q) s.heap D y ad (g_X2 cL cD oa od f1 fd) σ2 H locs → W p l e room_1 s m #[Value.ref b] below meth c H locs (cells + 1) (slots + 6) Q (F0 m 2293 ls [])) : W p l e room_1 s m #[Value.ref b] below meth c H locs cells slots Q (F0 m 516 ls []) := by
  obtain ⟨hC, hKL, hKD, hY, hX, hbl⟩ := G
  have hx := hC.1
  have hcd := hC.2.1
  have hbA : ¬ (s.heap.size ≤ b) := Nat.not_le.mpr hbl
  have hr1 : cells + 1 + 0 ≤ room_1.cells ∧ slots + 6 + 0 ≤ room_1.slots := ⟨hcs.1, hcs.2⟩
  obtain rfl := h3
  refine lv_aload_n hx hcd dL_law_516 rfl (lv_at hl 1 rfl) ?_
  refine lv_aload_n hx hcd dL_law_517 rfl (lv_at hl 0 rfl) ?_
  refine lv_iload hx hcd dL_law_518 (lv_at hl 5 rfl) ?_
  refine lv_iconst (v := 1) hx hcd dL_law_520 (by decide) ?_
  refine lv_iadd hx hcd dL_law_521 ?_
  refine va_sld hx hcd hX hbl hbA hW.2.2.1 hin.2.1 dL_law_522 ?_
  refine lv_aload_n hx hcd dL_law_523 rfl (lv_at hl 0 rfl) ?_
  refine lv_iload hx hcd dL_law_524 (lv_at hl 5 rfl) ?_
  refine lv_iconst (v := 2) hx hcd dL_law_526 (by decide) ?_
  refine lv_iadd hx hcd dL_law_527 ?_
  refine va_sld hx hcd hX hbl hbA hW.2.2.1 hin.2.2.1 dL_law_528 ?_
  refine lv_aload_n hx hcd dL_law_529 rfl (lv_at hl 3 rfl) ?_
  refine g_callL (j := 0) (As := [.ref (ad 0), .int (xs (i + 1).toNatClampNeg), .int (xs (i + 2).toNatClampNeg), .ref oa]) (rest := []) hC hKL hY hW rfl (c_L_stand l hfl D y ad (xs (i + 1).toNatClampNeg) (xs (i + 2).toNatClampNeg) σ _ cL oa f h1) ok_L_152 ⟨rfl, rfl, Nat.le_of_ble_eq_true rfl, Nat.le_of_ble_eq_true rfl⟩ rfl hl.1 rfl (Nat.le_of_ble_eq_true rfl) dL_law_530 hcs (fun H locs hW => ?_)
  replace hW : g_W (fun q => s.heap.size ≤ q) s.heap D y ad (g_X2 cL cD oa od f1 fd) σ1 H locs := hW
  refine lv_istore (lv' := [(6, .int (σ2 132 8)), (0, .ref b), (1, .ref (ad 0)), (2, .ref (ad 132)), (3, .ref oa), (4, .ref od), (5, .int i)]) hx hcd dL_law_533 hl (by decide) rfl (fun ls hl => ?_)
  refine lv_aload_n hx hcd dL_law_535 rfl (lv_at hl 3 rfl) ?_
  refine lv_aload_n hx hcd dL_law_536 rfl (lv_at hl 1 rfl) ?_
  refine lv_iload hx hcd dL_law_537 (lv_at hl 6 rfl) ?_
  refine lv_iconst (v := 1) hx hcd dL_law_539 (by decide) ?_
  refine lv_iadd hx hcd dL_law_540 ?_
  refine va_sld hx hcd hX hbl hbA hW.2.2.1 hin.2.1 dL_law_541 ?_
  refine lv_aload_n hx hcd dL_law_542 rfl (lv_at hl 1 rfl) ?_
  refine lv_iload hx hcd dL_law_543 (lv_at hl 6 rfl) ?_
  refine lv_iconst (v := 2) hx hcd dL_law_545 (by decide) ?_
  refine lv_iadd hx hcd dL_law_546 ?_
  refine va_sld hx hcd hX hbl hbA hW.2.2.1 hin.2.2.1 dL_law_547 ?_
  refine g_calli hW (g_runV (i := 132) (As := [.int (xs (i + 1).toNatClampNeg), .int (xs (i + 2).toNatClampNeg)]) (rest := []) hC hW (c_X7_stand l D y ad (xs (i + 1).toNatClampNeg) (xs (i + 2).toNatClampNeg) σ1 _ h2) ok_L_154 ⟨rfl, rfl, Nat.le_of_ble_eq_true rfl, Nat.le_of_ble_eq_true rfl⟩ (by decide) rfl rfl rfl rfl hl.1 rfl (Nat.le_of_ble_eq_true rfl) dL_law_548 hr1) (fun H locs hW => ?_)
  refine lv_istore (lv' := [(7, .int r), (6, .int (σ2 132 8)), (0, .ref b), (1, .ref (ad 0)), (2, .ref (ad 132)), (3, .ref oa), (4, .ref od), (5, .int i)]) hx hcd dL_law_551 hl (by decide) rfl (fun ls hl => ?_)
  refine lv_aload_n hx hcd dL_law_553 rfl (lv_at hl 4 rfl) ?_
  refine g_calli hW (g_runV (i := 132) (As := []) (rest := []) hC hW (c_X7_thrown l D y ad σ2 _ (show X7_thrown σ2 = some (σ2 132 8) from rfl)) ok_L_137 ⟨rfl, rfl, Nat.le_of_ble_eq_true rfl, Nat.le_of_ble_eq_true rfl⟩ (by decide) rfl rfl rfl rfl hl.1 rfl (Nat.le_of_ble_eq_true rfl) dL_law_554 hr1) (fun H locs hW => ?_)
  refine lv_iload hx hcd dL_law_557 (lv_at hl 1 rfl) ?_
  refine lv_icmp_eq (tgt := 564) hx hcd dL_law_559 (by decide) (fun _ => ?_) (fun c9 => absurd rfl c9)
  refine lv_iload hx hcd dL_law_564 (lv_at hl 1 rfl) ?_
  refine lv_if_ne (tgt := 581) hx hcd dL_law_566 (by decide) (fun c8 => ?_) (fun c8 => ?_)
  · clear h4
    refine lv_goto (tgt := 2293) hx hcd dL_law_581 (by decide) ?_
    exact kk _ _ _ (lv_sub hl [2, 3, 4, 5, 6, 7] rfl) hW
  · replace h4 := h4 c8
    refine lv_aload_n hx hcd dL_law_569 rfl (lv_at hl 5 rfl) ?_
    refine lv_iconst (v := 0) hx hcd dL_law_570 (by decide) ?_
    refine va_lald hx hcd hKL hW.1 143 0 g_X2_0 rfl (i := 0) (vp_in_nI (n := 0) (by omega) (by omega)) dL_law_571 ?_
    refine lv_iload hx hcd dL_law_572 (lv_at hl 0 rfl) ?_
    refine lv_i2l (v := r.toInt64) hx hcd dL_law_574 rfl ?_
    refine W.lcmp hx hcd dL_law_575 ?_
    refine lv_if_eq (tgt := 581) hx hcd dL_law_576 (by decide) (fun _ => ?_) (fun c9 => absurd ((lg_cmp_eq _ _).mpr h4) c9)
    refine lv_goto (tgt := 2293) hx hcd dL_law_581 (by decide) ?_
    exact kk _ _ _ (lv_sub hl [2, 3, 4, 5, 6, 7] rfl) hW
set_option maxHeartbeats 4000000 in
set_option maxRecDepth 100000 in
theorem w_at (hfl : l.stackTraces = false) (G : g_lw p s m c b L xs D y cL cD) (hl : lv_has ls 8 (g_ll b oa od ad i)) (hW : g_W (fun q => s.heap.size ≤ q) s.heap D y ad (g_X2 cL cD oa od f fd) σ H locs) (hin : vp_in i L ∧ vp_in (i + 1) L ∧ vp_in (i + 2) L ∧ vp_in (i + 3) L ∧ vp_in (i + 4) L) (hcs : cells + 1 ≤ 603072 ∧ slots + 6 ≤ 7186538) {k : Int32} {r : Int32} {f1 : Nat → Int64} {σ1 σ2 : gS} (h1 : L_at σ f (xs (i + 1).toNatClampNeg) (xs (i + 2).toNatClampNeg) = some (k, f1, σ1)) (h2 : X7_at_ σ1 (xs (i + 1).toNatClampNeg) (xs (i + 2).toNatClampNeg) = some (r, σ2)) (h3 : σ2 132 8 = k) (h4 : k = 0 → f1 0 = r.toInt64)
    (kk : ∀ (ls : Array Slot) (H : Heap) (locs : List Loc), lv_has ls 8 (g_ll b oa od ad i) → g_W (fun q => s.heap.size ≤ q) s.heap D y ad (g_X2 cL cD oa od f1 fd) σ2 H locs → W p l e room_1 s m #[Value.ref b] below meth c H locs (cells + 1) (slots + 6) Q (F0 m 2293 ls [])) : W p l e room_1 s m #[Value.ref b] below meth c H locs cells slots Q (F0 m 584 ls []) := by
  obtain ⟨hC, hKL, hKD, hY, hX, hbl⟩ := G
  have hx := hC.1
  have hcd := hC.2.1
  have hbA : ¬ (s.heap.size ≤ b) := Nat.not_le.mpr hbl
  have hr1 : cells + 1 + 0 ≤ room_1.cells ∧ slots + 6 + 0 ≤ room_1.slots := ⟨hcs.1, hcs.2⟩
  obtain rfl := h3
  refine lv_aload_n hx hcd dL_law_584 rfl (lv_at hl 1 rfl) ?_
  refine lv_aload_n hx hcd dL_law_585 rfl (lv_at hl 0 rfl) ?_
  refine lv_iload hx hcd dL_law_586 (lv_at hl 5 rfl) ?_
  refine lv_iconst (v := 1) hx hcd dL_law_588 (by decide) ?_
  refine lv_iadd hx hcd dL_law_589 ?_
  refine va_sld hx hcd hX hbl hbA hW.2.2.1 hin.2.1 dL_law_590 ?_
  refine lv_aload_n hx hcd dL_law_591 rfl (lv_at hl 0 rfl) ?_
  refine lv_iload hx hcd dL_law_592 (lv_at hl 5 rfl) ?_
  refine lv_iconst (v := 2) hx hcd dL_law_594 (by decide) ?_
  refine lv_iadd hx hcd dL_law_595 ?_
  refine va_sld hx hcd hX hbl hbA hW.2.2.1 hin.2.2.1 dL_law_596 ?_
  refine lv_aload_n hx hcd dL_law_597 rfl (lv_at hl 3 rfl) ?_
  refine g_callL (j := 0) (As := [.ref (ad 0), .int (xs (i + 1).toNatClampNeg), .int (xs (i + 2).toNatClampNeg), .ref oa]) (rest := []) hC hKL hY hW rfl (c_L_at l hfl D y ad (xs (i + 1).toNatClampNeg) (xs (i + 2).toNatClampNeg) σ _ cL oa f h1) ok_L_155 ⟨rfl, rfl, Nat.le_of_ble_eq_true rfl, Nat.le_of_ble_eq_true rfl⟩ rfl hl.1 rfl (Nat.le_of_ble_eq_true rfl) dL_law_598 hcs (fun H locs hW => ?_)
  replace hW : g_W (fun q => s.heap.size ≤ q) s.heap D y ad (g_X2 cL cD oa od f1 fd) σ1 H locs := hW
  refine lv_istore (lv' := [(6, .int (σ2 132 8)), (0, .ref b), (1, .ref (ad 0)), (2, .ref (ad 132)), (3, .ref oa), (4, .ref od), (5, .int i)]) hx hcd dL_law_601 hl (by decide) rfl (fun ls hl => ?_)
  refine lv_aload_n hx hcd dL_law_603 rfl (lv_at hl 3 rfl) ?_
  refine lv_aload_n hx hcd dL_law_604 rfl (lv_at hl 1 rfl) ?_
  refine lv_iload hx hcd dL_law_605 (lv_at hl 6 rfl) ?_
  refine lv_iconst (v := 1) hx hcd dL_law_607 (by decide) ?_
  refine lv_iadd hx hcd dL_law_608 ?_
  refine va_sld hx hcd hX hbl hbA hW.2.2.1 hin.2.1 dL_law_609 ?_
  refine lv_aload_n hx hcd dL_law_610 rfl (lv_at hl 1 rfl) ?_
  refine lv_iload hx hcd dL_law_611 (lv_at hl 6 rfl) ?_
  refine lv_iconst (v := 2) hx hcd dL_law_613 (by decide) ?_
  refine lv_iadd hx hcd dL_law_614 ?_
  refine va_sld hx hcd hX hbl hbA hW.2.2.1 hin.2.2.1 dL_law_615 ?_
  refine g_calli hW (g_runV (i := 132) (As := [.int (xs (i + 1).toNatClampNeg), .int (xs (i + 2).toNatClampNeg)]) (rest := []) hC hW (c_X7_at_ l D y ad (xs (i + 1).toNatClampNeg) (xs (i + 2).toNatClampNeg) σ1 _ h2) ok_L_157 ⟨rfl, rfl, Nat.le_of_ble_eq_true rfl, Nat.le_of_ble_eq_true rfl⟩ (by decide) rfl rfl rfl rfl hl.1 rfl (Nat.le_of_ble_eq_true rfl) dL_law_616 hr1) (fun H locs hW => ?_)
  refine lv_istore (lv' := [(7, .int r), (6, .int (σ2 132 8)), (0, .ref b), (1, .ref (ad 0)), (2, .ref (ad 132)), (3, .ref oa), (4, .ref od), (5, .int i)]) hx hcd dL_law_619 hl (by decide) rfl (fun ls hl => ?_)
  refine lv_aload_n hx hcd dL_law_621 rfl (lv_at hl 4 rfl) ?_
  refine g_calli hW (g_runV (i := 132) (As := []) (rest := []) hC hW (c_X7_thrown l D y ad σ2 _ (show X7_thrown σ2 = some (σ2 132 8) from rfl)) ok_L_137 ⟨rfl, rfl, Nat.le_of_ble_eq_true rfl, Nat.le_of_ble_eq_true rfl⟩ (by decide) rfl rfl rfl rfl hl.1 rfl (Nat.le_of_ble_eq_true rfl) dL_law_622 hr1) (fun H locs hW => ?_)
  refine lv_iload hx hcd dL_law_625 (lv_at hl 1 rfl) ?_
  refine lv_icmp_eq (tgt := 632) hx hcd dL_law_627 (by decide) (fun _ => ?_) (fun c9 => absurd rfl c9)
  refine lv_iload hx hcd dL_law_632 (lv_at hl 1 rfl) ?_
  refine lv_if_ne (tgt := 649) hx hcd dL_law_634 (by decide) (fun c8 => ?_) (fun c8 => ?_)
  · clear h4
    refine lv_goto (tgt := 2293) hx hcd dL_law_649 (by decide) ?_
    exact kk _ _ _ (lv_sub hl [2, 3, 4, 5, 6, 7] rfl) hW
  · replace h4 := h4 c8
    refine lv_aload_n hx hcd dL_law_637 rfl (lv_at hl 5 rfl) ?_
    refine lv_iconst (v := 0) hx hcd dL_law_638 (by decide) ?_
    refine va_lald hx hcd hKL hW.1 143 0 g_X2_0 rfl (i := 0) (vp_in_nI (n := 0) (by omega) (by omega)) dL_law_639 ?_
    refine lv_iload hx hcd dL_law_640 (lv_at hl 0 rfl) ?_
    refine lv_i2l (v := r.toInt64) hx hcd dL_law_642 rfl ?_
    refine W.lcmp hx hcd dL_law_643 ?_
    refine lv_if_eq (tgt := 649) hx hcd dL_law_644 (by decide) (fun _ => ?_) (fun c9 => absurd ((lg_cmp_eq _ _).mpr h4) c9)
    refine lv_goto (tgt := 2293) hx hcd dL_law_649 (by decide) ?_
    exact kk _ _ _ (lv_sub hl [2, 3, 4, 5, 6, 7] rfl) hW
set_option maxHeartbeats 4000000 in
set_option maxRecDepth 100000 in
theorem w_gap (hfl : l.stackTraces = false) (G : g_lw p s m c b L xs D y cL cD) (hl : lv_has ls 8 (g_ll b oa od ad i)) (hW : g_W (fun q => s.heap.size ≤ q) s.heap D y ad (g_X2 cL cD oa od f fd) σ H locs) (hin : vp_in i L ∧ vp_in (i + 1) L ∧ vp_in (i + 2) L ∧ vp_in (i + 3) L ∧ vp_in (i + 4) L) (hcs : cells + 1 ≤ 603072 ∧ slots + 6 ≤ 7186538) {k : Int32} {r : Int32} {f1 : Nat → Int64} {σ1 σ2 : gS} (h1 : L_gap σ f (xs (i + 1).toNatClampNeg) (xs (i + 2).toNatClampNeg) = some (k, f1, σ1)) (h2 : X7_gap σ1 (xs (i + 1).toNatClampNeg) (xs (i + 2).toNatClampNeg) = some (r, σ2)) (h3 : σ2 132 8 = k) (h4 : k = 0 → f1 0 = r.toInt64)
    (kk : ∀ (ls : Array Slot) (H : Heap) (locs : List Loc), lv_has ls 8 (g_ll b oa od ad i) → g_W (fun q => s.heap.size ≤ q) s.heap D y ad (g_X2 cL cD oa od f1 fd) σ2 H locs → W p l e room_1 s m #[Value.ref b] below meth c H locs (cells + 1) (slots + 6) Q (F0 m 2293 ls [])) : W p l e room_1 s m #[Value.ref b] below meth c H locs cells slots Q (F0 m 652 ls []) := by
  obtain ⟨hC, hKL, hKD, hY, hX, hbl⟩ := G
  have hx := hC.1
  have hcd := hC.2.1
  have hbA : ¬ (s.heap.size ≤ b) := Nat.not_le.mpr hbl
  have hr1 : cells + 1 + 0 ≤ room_1.cells ∧ slots + 6 + 0 ≤ room_1.slots := ⟨hcs.1, hcs.2⟩
  obtain rfl := h3
  refine lv_aload_n hx hcd dL_law_652 rfl (lv_at hl 1 rfl) ?_
  refine lv_aload_n hx hcd dL_law_653 rfl (lv_at hl 0 rfl) ?_
  refine lv_iload hx hcd dL_law_654 (lv_at hl 5 rfl) ?_
  refine lv_iconst (v := 1) hx hcd dL_law_656 (by decide) ?_
  refine lv_iadd hx hcd dL_law_657 ?_
  refine va_sld hx hcd hX hbl hbA hW.2.2.1 hin.2.1 dL_law_658 ?_
  refine lv_aload_n hx hcd dL_law_659 rfl (lv_at hl 0 rfl) ?_
  refine lv_iload hx hcd dL_law_660 (lv_at hl 5 rfl) ?_
  refine lv_iconst (v := 2) hx hcd dL_law_662 (by decide) ?_
  refine lv_iadd hx hcd dL_law_663 ?_
  refine va_sld hx hcd hX hbl hbA hW.2.2.1 hin.2.2.1 dL_law_664 ?_
  refine lv_aload_n hx hcd dL_law_665 rfl (lv_at hl 3 rfl) ?_
  refine g_callL (j := 0) (As := [.ref (ad 0), .int (xs (i + 1).toNatClampNeg), .int (xs (i + 2).toNatClampNeg), .ref oa]) (rest := []) hC hKL hY hW rfl (c_L_gap l hfl D y ad (xs (i + 1).toNatClampNeg) (xs (i + 2).toNatClampNeg) σ _ cL oa f h1) ok_L_158 ⟨rfl, rfl, Nat.le_of_ble_eq_true rfl, Nat.le_of_ble_eq_true rfl⟩ rfl hl.1 rfl (Nat.le_of_ble_eq_true rfl) dL_law_666 hcs (fun H locs hW => ?_)
  replace hW : g_W (fun q => s.heap.size ≤ q) s.heap D y ad (g_X2 cL cD oa od f1 fd) σ1 H locs := hW
  refine lv_istore (lv' := [(6, .int (σ2 132 8)), (0, .ref b), (1, .ref (ad 0)), (2, .ref (ad 132)), (3, .ref oa), (4, .ref od), (5, .int i)]) hx hcd dL_law_669 hl (by decide) rfl (fun ls hl => ?_)
  refine lv_aload_n hx hcd dL_law_671 rfl (lv_at hl 3 rfl) ?_
  refine lv_aload_n hx hcd dL_law_672 rfl (lv_at hl 1 rfl) ?_
  refine lv_iload hx hcd dL_law_673 (lv_at hl 6 rfl) ?_
  refine lv_iconst (v := 1) hx hcd dL_law_675 (by decide) ?_
  refine lv_iadd hx hcd dL_law_676 ?_
  refine va_sld hx hcd hX hbl hbA hW.2.2.1 hin.2.1 dL_law_677 ?_
  refine lv_aload_n hx hcd dL_law_678 rfl (lv_at hl 1 rfl) ?_
  refine lv_iload hx hcd dL_law_679 (lv_at hl 6 rfl) ?_
  refine lv_iconst (v := 2) hx hcd dL_law_681 (by decide) ?_
  refine lv_iadd hx hcd dL_law_682 ?_
  refine va_sld hx hcd hX hbl hbA hW.2.2.1 hin.2.2.1 dL_law_683 ?_
  refine g_calli hW (g_runV (i := 132) (As := [.int (xs (i + 1).toNatClampNeg), .int (xs (i + 2).toNatClampNeg)]) (rest := []) hC hW (c_X7_gap l D y ad (xs (i + 1).toNatClampNeg) (xs (i + 2).toNatClampNeg) σ1 _ h2) ok_L_160 ⟨rfl, rfl, Nat.le_of_ble_eq_true rfl, Nat.le_of_ble_eq_true rfl⟩ (by decide) rfl rfl rfl rfl hl.1 rfl (Nat.le_of_ble_eq_true rfl) dL_law_684 hr1) (fun H locs hW => ?_)
  refine lv_istore (lv' := [(7, .int r), (6, .int (σ2 132 8)), (0, .ref b), (1, .ref (ad 0)), (2, .ref (ad 132)), (3, .ref oa), (4, .ref od), (5, .int i)]) hx hcd dL_law_687 hl (by decide) rfl (fun ls hl => ?_)
  refine lv_aload_n hx hcd dL_law_689 rfl (lv_at hl 4 rfl) ?_
  refine g_calli hW (g_runV (i := 132) (As := []) (rest := []) hC hW (c_X7_thrown l D y ad σ2 _ (show X7_thrown σ2 = some (σ2 132 8) from rfl)) ok_L_137 ⟨rfl, rfl, Nat.le_of_ble_eq_true rfl, Nat.le_of_ble_eq_true rfl⟩ (by decide) rfl rfl rfl rfl hl.1 rfl (Nat.le_of_ble_eq_true rfl) dL_law_690 hr1) (fun H locs hW => ?_)
  refine lv_iload hx hcd dL_law_693 (lv_at hl 1 rfl) ?_
  refine lv_icmp_eq (tgt := 700) hx hcd dL_law_695 (by decide) (fun _ => ?_) (fun c9 => absurd rfl c9)
  refine lv_iload hx hcd dL_law_700 (lv_at hl 1 rfl) ?_
  refine lv_if_ne (tgt := 717) hx hcd dL_law_702 (by decide) (fun c8 => ?_) (fun c8 => ?_)
  · clear h4
    refine lv_goto (tgt := 2293) hx hcd dL_law_717 (by decide) ?_
    exact kk _ _ _ (lv_sub hl [2, 3, 4, 5, 6, 7] rfl) hW
  · replace h4 := h4 c8
    refine lv_aload_n hx hcd dL_law_705 rfl (lv_at hl 5 rfl) ?_
    refine lv_iconst (v := 0) hx hcd dL_law_706 (by decide) ?_
    refine va_lald hx hcd hKL hW.1 143 0 g_X2_0 rfl (i := 0) (vp_in_nI (n := 0) (by omega) (by omega)) dL_law_707 ?_
    refine lv_iload hx hcd dL_law_708 (lv_at hl 0 rfl) ?_
    refine lv_i2l (v := r.toInt64) hx hcd dL_law_710 rfl ?_
    refine W.lcmp hx hcd dL_law_711 ?_
    refine lv_if_eq (tgt := 717) hx hcd dL_law_712 (by decide) (fun _ => ?_) (fun c9 => absurd ((lg_cmp_eq _ _).mpr h4) c9)
    refine lv_goto (tgt := 2293) hx hcd dL_law_717 (by decide) ?_
    exact kk _ _ _ (lv_sub hl [2, 3, 4, 5, 6, 7] rfl) hW
set_option maxHeartbeats 4000000 in
set_option maxRecDepth 100000 in
theorem w_addTurn (hfl : l.stackTraces = false) (G : g_lw p s m c b L xs D y cL cD) (hl : lv_has ls 8 (g_ll b oa od ad i)) (hW : g_W (fun q => s.heap.size ≤ q) s.heap D y ad (g_X2 cL cD oa od f fd) σ H locs) (hin : vp_in i L ∧ vp_in (i + 1) L ∧ vp_in (i + 2) L ∧ vp_in (i + 3) L ∧ vp_in (i + 4) L) (hcs : cells + 1 ≤ 603072 ∧ slots + 6 ≤ 7186538) {k : Int32} {r : Int32} {f1 : Nat → Int64} {σ1 σ2 : gS} (h1 : L_addTurn σ f (xs (i + 1).toNatClampNeg) (xs (i + 2).toNatClampNeg) (xs (i + 3).toNatClampNeg) (xs (i + 4).toNatClampNeg) = some (k, f1, σ1)) (h2 : X7_addTurn σ1 (xs (i + 1).toNatClampNeg) (xs (i + 2).toNatClampNeg) (xs (i + 3).toNatClampNeg) (xs (i + 4).toNatClampNeg) = some (r, σ2)) (h3 : σ2 132 8 = k) (h4 : k = 0 → f1 0 = r.toInt64)
    (kk : ∀ (ls : Array Slot) (H : Heap) (locs : List Loc), lv_has ls 8 (g_ll b oa od ad i) → g_W (fun q => s.heap.size ≤ q) s.heap D y ad (g_X2 cL cD oa od f1 fd) σ2 H locs → W p l e room_1 s m #[Value.ref b] below meth c H locs (cells + 1) (slots + 6) Q (F0 m 2293 ls [])) : W p l e room_1 s m #[Value.ref b] below meth c H locs cells slots Q (F0 m 720 ls []) := by
  obtain ⟨hC, hKL, hKD, hY, hX, hbl⟩ := G
  have hx := hC.1
  have hcd := hC.2.1
  have hbA : ¬ (s.heap.size ≤ b) := Nat.not_le.mpr hbl
  have hr1 : cells + 1 + 0 ≤ room_1.cells ∧ slots + 6 + 0 ≤ room_1.slots := ⟨hcs.1, hcs.2⟩
  obtain rfl := h3
  refine lv_aload_n hx hcd dL_law_720 rfl (lv_at hl 1 rfl) ?_
  refine lv_aload_n hx hcd dL_law_721 rfl (lv_at hl 0 rfl) ?_
  refine lv_iload hx hcd dL_law_722 (lv_at hl 5 rfl) ?_
  refine lv_iconst (v := 1) hx hcd dL_law_724 (by decide) ?_
  refine lv_iadd hx hcd dL_law_725 ?_
  refine va_sld hx hcd hX hbl hbA hW.2.2.1 hin.2.1 dL_law_726 ?_
  refine lv_aload_n hx hcd dL_law_727 rfl (lv_at hl 0 rfl) ?_
  refine lv_iload hx hcd dL_law_728 (lv_at hl 5 rfl) ?_
  refine lv_iconst (v := 2) hx hcd dL_law_730 (by decide) ?_
  refine lv_iadd hx hcd dL_law_731 ?_
  refine va_sld hx hcd hX hbl hbA hW.2.2.1 hin.2.2.1 dL_law_732 ?_
  refine lv_aload_n hx hcd dL_law_733 rfl (lv_at hl 0 rfl) ?_
  refine lv_iload hx hcd dL_law_734 (lv_at hl 5 rfl) ?_
  refine lv_iconst (v := 3) hx hcd dL_law_736 (by decide) ?_
  refine lv_iadd hx hcd dL_law_737 ?_
  refine va_sld hx hcd hX hbl hbA hW.2.2.1 hin.2.2.2.1 dL_law_738 ?_
  refine lv_aload_n hx hcd dL_law_739 rfl (lv_at hl 0 rfl) ?_
  refine lv_iload hx hcd dL_law_740 (lv_at hl 5 rfl) ?_
  refine lv_iconst (v := 4) hx hcd dL_law_742 (by decide) ?_
  refine lv_iadd hx hcd dL_law_743 ?_
  refine va_sld hx hcd hX hbl hbA hW.2.2.1 hin.2.2.2.2 dL_law_744 ?_
  refine lv_aload_n hx hcd dL_law_745 rfl (lv_at hl 3 rfl) ?_
  refine g_callL (j := 0) (As := [.ref (ad 0), .int (xs (i + 1).toNatClampNeg), .int (xs (i + 2).toNatClampNeg), .int (xs (i + 3).toNatClampNeg), .int (xs (i + 4).toNatClampNeg), .ref oa]) (rest := []) hC hKL hY hW rfl (c_L_addTurn l hfl D y ad (xs (i + 1).toNatClampNeg) (xs (i + 2).toNatClampNeg) (xs (i + 3).toNatClampNeg) (xs (i + 4).toNatClampNeg) σ _ cL oa f h1) ok_L_161 ⟨rfl, rfl, Nat.le_of_ble_eq_true rfl, Nat.le_of_ble_eq_true rfl⟩ rfl hl.1 rfl (Nat.le_of_ble_eq_true rfl) dL_law_746 hcs (fun H locs hW => ?_)
  replace hW : g_W (fun q => s.heap.size ≤ q) s.heap D y ad (g_X2 cL cD oa od f1 fd) σ1 H locs := hW
  refine lv_istore (lv' := [(6, .int (σ2 132 8)), (0, .ref b), (1, .ref (ad 0)), (2, .ref (ad 132)), (3, .ref oa), (4, .ref od), (5, .int i)]) hx hcd dL_law_749 hl (by decide) rfl (fun ls hl => ?_)
  refine lv_aload_n hx hcd dL_law_751 rfl (lv_at hl 3 rfl) ?_
  refine lv_aload_n hx hcd dL_law_752 rfl (lv_at hl 1 rfl) ?_
  refine lv_iload hx hcd dL_law_753 (lv_at hl 6 rfl) ?_
  refine lv_iconst (v := 1) hx hcd dL_law_755 (by decide) ?_
  refine lv_iadd hx hcd dL_law_756 ?_
  refine va_sld hx hcd hX hbl hbA hW.2.2.1 hin.2.1 dL_law_757 ?_
  refine lv_aload_n hx hcd dL_law_758 rfl (lv_at hl 1 rfl) ?_
  refine lv_iload hx hcd dL_law_759 (lv_at hl 6 rfl) ?_
  refine lv_iconst (v := 2) hx hcd dL_law_761 (by decide) ?_
  refine lv_iadd hx hcd dL_law_762 ?_
  refine va_sld hx hcd hX hbl hbA hW.2.2.1 hin.2.2.1 dL_law_763 ?_
  refine lv_aload_n hx hcd dL_law_764 rfl (lv_at hl 1 rfl) ?_
  refine lv_iload hx hcd dL_law_765 (lv_at hl 6 rfl) ?_
  refine lv_iconst (v := 3) hx hcd dL_law_767 (by decide) ?_
  refine lv_iadd hx hcd dL_law_768 ?_
  refine va_sld hx hcd hX hbl hbA hW.2.2.1 hin.2.2.2.1 dL_law_769 ?_
  refine lv_aload_n hx hcd dL_law_770 rfl (lv_at hl 1 rfl) ?_
  refine lv_iload hx hcd dL_law_771 (lv_at hl 6 rfl) ?_
  refine lv_iconst (v := 4) hx hcd dL_law_773 (by decide) ?_
  refine lv_iadd hx hcd dL_law_774 ?_
  refine va_sld hx hcd hX hbl hbA hW.2.2.1 hin.2.2.2.2 dL_law_775 ?_
  refine g_calli hW (g_runV (i := 132) (As := [.int (xs (i + 1).toNatClampNeg), .int (xs (i + 2).toNatClampNeg), .int (xs (i + 3).toNatClampNeg), .int (xs (i + 4).toNatClampNeg)]) (rest := []) hC hW (c_X7_addTurn l D y ad (xs (i + 1).toNatClampNeg) (xs (i + 2).toNatClampNeg) (xs (i + 3).toNatClampNeg) (xs (i + 4).toNatClampNeg) σ1 _ h2) ok_L_164 ⟨rfl, rfl, Nat.le_of_ble_eq_true rfl, Nat.le_of_ble_eq_true rfl⟩ (by decide) rfl rfl rfl rfl hl.1 rfl (Nat.le_of_ble_eq_true rfl) dL_law_776 hr1) (fun H locs hW => ?_)
  refine lv_istore (lv' := [(7, .int r), (6, .int (σ2 132 8)), (0, .ref b), (1, .ref (ad 0)), (2, .ref (ad 132)), (3, .ref oa), (4, .ref od), (5, .int i)]) hx hcd dL_law_779 hl (by decide) rfl (fun ls hl => ?_)
  refine lv_aload_n hx hcd dL_law_781 rfl (lv_at hl 4 rfl) ?_
  refine g_calli hW (g_runV (i := 132) (As := []) (rest := []) hC hW (c_X7_thrown l D y ad σ2 _ (show X7_thrown σ2 = some (σ2 132 8) from rfl)) ok_L_137 ⟨rfl, rfl, Nat.le_of_ble_eq_true rfl, Nat.le_of_ble_eq_true rfl⟩ (by decide) rfl rfl rfl rfl hl.1 rfl (Nat.le_of_ble_eq_true rfl) dL_law_782 hr1) (fun H locs hW => ?_)
  refine lv_iload hx hcd dL_law_785 (lv_at hl 1 rfl) ?_
  refine lv_icmp_eq (tgt := 792) hx hcd dL_law_787 (by decide) (fun _ => ?_) (fun c9 => absurd rfl c9)
  refine lv_iload hx hcd dL_law_792 (lv_at hl 1 rfl) ?_
  refine lv_if_ne (tgt := 809) hx hcd dL_law_794 (by decide) (fun c8 => ?_) (fun c8 => ?_)
  · clear h4
    refine lv_goto (tgt := 2293) hx hcd dL_law_809 (by decide) ?_
    exact kk _ _ _ (lv_sub hl [2, 3, 4, 5, 6, 7] rfl) hW
  · replace h4 := h4 c8
    refine lv_aload_n hx hcd dL_law_797 rfl (lv_at hl 5 rfl) ?_
    refine lv_iconst (v := 0) hx hcd dL_law_798 (by decide) ?_
    refine va_lald hx hcd hKL hW.1 143 0 g_X2_0 rfl (i := 0) (vp_in_nI (n := 0) (by omega) (by omega)) dL_law_799 ?_
    refine lv_iload hx hcd dL_law_800 (lv_at hl 0 rfl) ?_
    refine lv_i2l (v := r.toInt64) hx hcd dL_law_802 rfl ?_
    refine W.lcmp hx hcd dL_law_803 ?_
    refine lv_if_eq (tgt := 809) hx hcd dL_law_804 (by decide) (fun _ => ?_) (fun c9 => absurd ((lg_cmp_eq _ _).mpr h4) c9)
    refine lv_goto (tgt := 2293) hx hcd dL_law_809 (by decide) ?_
    exact kk _ _ _ (lv_sub hl [2, 3, 4, 5, 6, 7] rfl) hW
set_option maxHeartbeats 4000000 in
set_option maxRecDepth 100000 in
theorem w_turn (hfl : l.stackTraces = false) (G : g_lw p s m c b L xs D y cL cD) (hl : lv_has ls 8 (g_ll b oa od ad i)) (hW : g_W (fun q => s.heap.size ≤ q) s.heap D y ad (g_X2 cL cD oa od f fd) σ H locs) (hin : vp_in i L ∧ vp_in (i + 1) L ∧ vp_in (i + 2) L ∧ vp_in (i + 3) L ∧ vp_in (i + 4) L) (hcs : cells + 1 ≤ 603072 ∧ slots + 6 ≤ 7186538) {k : Int32} {r : Int32} {f1 : Nat → Int64} {σ1 σ2 : gS} (h1 : L_turn σ f (xs (i + 1).toNatClampNeg) (xs (i + 2).toNatClampNeg) = some (k, f1, σ1)) (h2 : X7_turn σ1 (xs (i + 1).toNatClampNeg) (xs (i + 2).toNatClampNeg) = some (r, σ2)) (h3 : σ2 132 8 = k) (h4 : k = 0 → f1 0 = r.toInt64)
    (kk : ∀ (ls : Array Slot) (H : Heap) (locs : List Loc), lv_has ls 8 (g_ll b oa od ad i) → g_W (fun q => s.heap.size ≤ q) s.heap D y ad (g_X2 cL cD oa od f1 fd) σ2 H locs → W p l e room_1 s m #[Value.ref b] below meth c H locs (cells + 1) (slots + 6) Q (F0 m 2293 ls [])) : W p l e room_1 s m #[Value.ref b] below meth c H locs cells slots Q (F0 m 812 ls []) := by
  obtain ⟨hC, hKL, hKD, hY, hX, hbl⟩ := G
  have hx := hC.1
  have hcd := hC.2.1
  have hbA : ¬ (s.heap.size ≤ b) := Nat.not_le.mpr hbl
  have hr1 : cells + 1 + 0 ≤ room_1.cells ∧ slots + 6 + 0 ≤ room_1.slots := ⟨hcs.1, hcs.2⟩
  obtain rfl := h3
  refine lv_aload_n hx hcd dL_law_812 rfl (lv_at hl 1 rfl) ?_
  refine lv_aload_n hx hcd dL_law_813 rfl (lv_at hl 0 rfl) ?_
  refine lv_iload hx hcd dL_law_814 (lv_at hl 5 rfl) ?_
  refine lv_iconst (v := 1) hx hcd dL_law_816 (by decide) ?_
  refine lv_iadd hx hcd dL_law_817 ?_
  refine va_sld hx hcd hX hbl hbA hW.2.2.1 hin.2.1 dL_law_818 ?_
  refine lv_aload_n hx hcd dL_law_819 rfl (lv_at hl 0 rfl) ?_
  refine lv_iload hx hcd dL_law_820 (lv_at hl 5 rfl) ?_
  refine lv_iconst (v := 2) hx hcd dL_law_822 (by decide) ?_
  refine lv_iadd hx hcd dL_law_823 ?_
  refine va_sld hx hcd hX hbl hbA hW.2.2.1 hin.2.2.1 dL_law_824 ?_
  refine lv_aload_n hx hcd dL_law_825 rfl (lv_at hl 3 rfl) ?_
  refine g_callL (j := 0) (As := [.ref (ad 0), .int (xs (i + 1).toNatClampNeg), .int (xs (i + 2).toNatClampNeg), .ref oa]) (rest := []) hC hKL hY hW rfl (c_L_turn l hfl D y ad (xs (i + 1).toNatClampNeg) (xs (i + 2).toNatClampNeg) σ _ cL oa f h1) ok_L_165 ⟨rfl, rfl, Nat.le_of_ble_eq_true rfl, Nat.le_of_ble_eq_true rfl⟩ rfl hl.1 rfl (Nat.le_of_ble_eq_true rfl) dL_law_826 hcs (fun H locs hW => ?_)
  replace hW : g_W (fun q => s.heap.size ≤ q) s.heap D y ad (g_X2 cL cD oa od f1 fd) σ1 H locs := hW
  refine lv_istore (lv' := [(6, .int (σ2 132 8)), (0, .ref b), (1, .ref (ad 0)), (2, .ref (ad 132)), (3, .ref oa), (4, .ref od), (5, .int i)]) hx hcd dL_law_829 hl (by decide) rfl (fun ls hl => ?_)
  refine lv_aload_n hx hcd dL_law_831 rfl (lv_at hl 3 rfl) ?_
  refine lv_aload_n hx hcd dL_law_832 rfl (lv_at hl 1 rfl) ?_
  refine lv_iload hx hcd dL_law_833 (lv_at hl 6 rfl) ?_
  refine lv_iconst (v := 1) hx hcd dL_law_835 (by decide) ?_
  refine lv_iadd hx hcd dL_law_836 ?_
  refine va_sld hx hcd hX hbl hbA hW.2.2.1 hin.2.1 dL_law_837 ?_
  refine lv_aload_n hx hcd dL_law_838 rfl (lv_at hl 1 rfl) ?_
  refine lv_iload hx hcd dL_law_839 (lv_at hl 6 rfl) ?_
  refine lv_iconst (v := 2) hx hcd dL_law_841 (by decide) ?_
  refine lv_iadd hx hcd dL_law_842 ?_
  refine va_sld hx hcd hX hbl hbA hW.2.2.1 hin.2.2.1 dL_law_843 ?_
  refine g_calli hW (g_runV (i := 132) (As := [.int (xs (i + 1).toNatClampNeg), .int (xs (i + 2).toNatClampNeg)]) (rest := []) hC hW (c_X7_turn l D y ad (xs (i + 1).toNatClampNeg) (xs (i + 2).toNatClampNeg) σ1 _ h2) ok_L_167 ⟨rfl, rfl, Nat.le_of_ble_eq_true rfl, Nat.le_of_ble_eq_true rfl⟩ (by decide) rfl rfl rfl rfl hl.1 rfl (Nat.le_of_ble_eq_true rfl) dL_law_844 hr1) (fun H locs hW => ?_)
  refine lv_istore (lv' := [(7, .int r), (6, .int (σ2 132 8)), (0, .ref b), (1, .ref (ad 0)), (2, .ref (ad 132)), (3, .ref oa), (4, .ref od), (5, .int i)]) hx hcd dL_law_847 hl (by decide) rfl (fun ls hl => ?_)
  refine lv_aload_n hx hcd dL_law_849 rfl (lv_at hl 4 rfl) ?_
  refine g_calli hW (g_runV (i := 132) (As := []) (rest := []) hC hW (c_X7_thrown l D y ad σ2 _ (show X7_thrown σ2 = some (σ2 132 8) from rfl)) ok_L_137 ⟨rfl, rfl, Nat.le_of_ble_eq_true rfl, Nat.le_of_ble_eq_true rfl⟩ (by decide) rfl rfl rfl rfl hl.1 rfl (Nat.le_of_ble_eq_true rfl) dL_law_850 hr1) (fun H locs hW => ?_)
  refine lv_iload hx hcd dL_law_853 (lv_at hl 1 rfl) ?_
  refine lv_icmp_eq (tgt := 860) hx hcd dL_law_855 (by decide) (fun _ => ?_) (fun c9 => absurd rfl c9)
  refine lv_iload hx hcd dL_law_860 (lv_at hl 1 rfl) ?_
  refine lv_if_ne (tgt := 877) hx hcd dL_law_862 (by decide) (fun c8 => ?_) (fun c8 => ?_)
  · clear h4
    refine lv_goto (tgt := 2293) hx hcd dL_law_877 (by decide) ?_
    exact kk _ _ _ (lv_sub hl [2, 3, 4, 5, 6, 7] rfl) hW
  · replace h4 := h4 c8
    refine lv_aload_n hx hcd dL_law_865 rfl (lv_at hl 5 rfl) ?_
    refine lv_iconst (v := 0) hx hcd dL_law_866 (by decide) ?_
    refine va_lald hx hcd hKL hW.1 143 0 g_X2_0 rfl (i := 0) (vp_in_nI (n := 0) (by omega) (by omega)) dL_law_867 ?_
    refine lv_iload hx hcd dL_law_868 (lv_at hl 0 rfl) ?_
    refine lv_i2l (v := r.toInt64) hx hcd dL_law_870 rfl ?_
    refine W.lcmp hx hcd dL_law_871 ?_
    refine lv_if_eq (tgt := 877) hx hcd dL_law_872 (by decide) (fun _ => ?_) (fun c9 => absurd ((lg_cmp_eq _ _).mpr h4) c9)
    refine lv_goto (tgt := 2293) hx hcd dL_law_877 (by decide) ?_
    exact kk _ _ _ (lv_sub hl [2, 3, 4, 5, 6, 7] rfl) hW
set_option maxHeartbeats 4000000 in
set_option maxRecDepth 100000 in
theorem w_ofStay (hfl : l.stackTraces = false) (G : g_lw p s m c b L xs D y cL cD) (hl : lv_has ls 8 (g_ll b oa od ad i)) (hW : g_W (fun q => s.heap.size ≤ q) s.heap D y ad (g_X2 cL cD oa od f fd) σ H locs) (hin : vp_in i L ∧ vp_in (i + 1) L ∧ vp_in (i + 2) L ∧ vp_in (i + 3) L ∧ vp_in (i + 4) L) (hcs : cells + 1 ≤ 603072 ∧ slots + 6 ≤ 7186538) {k : Int32} {r : Int32} {f1 : Nat → Int64} {σ1 σ2 : gS} (h1 : L_ofStay σ f (xs (i + 1).toNatClampNeg) (xs (i + 2).toNatClampNeg) (xs (i + 3).toNatClampNeg) = some (k, f1, σ1)) (h2 : X7_ofStay σ1 (xs (i + 1).toNatClampNeg) (xs (i + 2).toNatClampNeg) (xs (i + 3).toNatClampNeg) = some (r, σ2)) (h3 : σ2 132 8 = k) (h4 : k = 0 → f1 0 = r.toInt64)
    (kk : ∀ (ls : Array Slot) (H : Heap) (locs : List Loc), lv_has ls 8 (g_ll b oa od ad i) → g_W (fun q => s.heap.size ≤ q) s.heap D y ad (g_X2 cL cD oa od f1 fd) σ2 H locs → W p l e room_1 s m #[Value.ref b] below meth c H locs (cells + 1) (slots + 6) Q (F0 m 2293 ls [])) : W p l e room_1 s m #[Value.ref b] below meth c H locs cells slots Q (F0 m 880 ls []) := by
  obtain ⟨hC, hKL, hKD, hY, hX, hbl⟩ := G
  have hx := hC.1
  have hcd := hC.2.1
  have hbA : ¬ (s.heap.size ≤ b) := Nat.not_le.mpr hbl
  have hr1 : cells + 1 + 0 ≤ room_1.cells ∧ slots + 6 + 0 ≤ room_1.slots := ⟨hcs.1, hcs.2⟩
  obtain rfl := h3
  refine lv_aload_n hx hcd dL_law_880 rfl (lv_at hl 1 rfl) ?_
  refine lv_aload_n hx hcd dL_law_881 rfl (lv_at hl 0 rfl) ?_
  refine lv_iload hx hcd dL_law_882 (lv_at hl 5 rfl) ?_
  refine lv_iconst (v := 1) hx hcd dL_law_884 (by decide) ?_
  refine lv_iadd hx hcd dL_law_885 ?_
  refine va_sld hx hcd hX hbl hbA hW.2.2.1 hin.2.1 dL_law_886 ?_
  refine lv_aload_n hx hcd dL_law_887 rfl (lv_at hl 0 rfl) ?_
  refine lv_iload hx hcd dL_law_888 (lv_at hl 5 rfl) ?_
  refine lv_iconst (v := 2) hx hcd dL_law_890 (by decide) ?_
  refine lv_iadd hx hcd dL_law_891 ?_
  refine va_sld hx hcd hX hbl hbA hW.2.2.1 hin.2.2.1 dL_law_892 ?_
  refine lv_aload_n hx hcd dL_law_893 rfl (lv_at hl 0 rfl) ?_
  refine lv_iload hx hcd dL_law_894 (lv_at hl 5 rfl) ?_
  refine lv_iconst (v := 3) hx hcd dL_law_896 (by decide) ?_
  refine lv_iadd hx hcd dL_law_897 ?_
  refine va_sld hx hcd hX hbl hbA hW.2.2.1 hin.2.2.2.1 dL_law_898 ?_
  refine lv_aload_n hx hcd dL_law_899 rfl (lv_at hl 3 rfl) ?_
  refine g_callL (j := 0) (As := [.ref (ad 0), .int (xs (i + 1).toNatClampNeg), .int (xs (i + 2).toNatClampNeg), .int (xs (i + 3).toNatClampNeg), .ref oa]) (rest := []) hC hKL hY hW rfl (c_L_ofStay l hfl D y ad (xs (i + 1).toNatClampNeg) (xs (i + 2).toNatClampNeg) (xs (i + 3).toNatClampNeg) σ _ cL oa f h1) ok_L_168 ⟨rfl, rfl, Nat.le_of_ble_eq_true rfl, Nat.le_of_ble_eq_true rfl⟩ rfl hl.1 rfl (Nat.le_of_ble_eq_true rfl) dL_law_900 hcs (fun H locs hW => ?_)
  replace hW : g_W (fun q => s.heap.size ≤ q) s.heap D y ad (g_X2 cL cD oa od f1 fd) σ1 H locs := hW
  refine lv_istore (lv' := [(6, .int (σ2 132 8)), (0, .ref b), (1, .ref (ad 0)), (2, .ref (ad 132)), (3, .ref oa), (4, .ref od), (5, .int i)]) hx hcd dL_law_903 hl (by decide) rfl (fun ls hl => ?_)
  refine lv_aload_n hx hcd dL_law_905 rfl (lv_at hl 3 rfl) ?_
  refine lv_aload_n hx hcd dL_law_906 rfl (lv_at hl 1 rfl) ?_
  refine lv_iload hx hcd dL_law_907 (lv_at hl 6 rfl) ?_
  refine lv_iconst (v := 1) hx hcd dL_law_909 (by decide) ?_
  refine lv_iadd hx hcd dL_law_910 ?_
  refine va_sld hx hcd hX hbl hbA hW.2.2.1 hin.2.1 dL_law_911 ?_
  refine lv_aload_n hx hcd dL_law_912 rfl (lv_at hl 1 rfl) ?_
  refine lv_iload hx hcd dL_law_913 (lv_at hl 6 rfl) ?_
  refine lv_iconst (v := 2) hx hcd dL_law_915 (by decide) ?_
  refine lv_iadd hx hcd dL_law_916 ?_
  refine va_sld hx hcd hX hbl hbA hW.2.2.1 hin.2.2.1 dL_law_917 ?_
  refine lv_aload_n hx hcd dL_law_918 rfl (lv_at hl 1 rfl) ?_
  refine lv_iload hx hcd dL_law_919 (lv_at hl 6 rfl) ?_
  refine lv_iconst (v := 3) hx hcd dL_law_921 (by decide) ?_
  refine lv_iadd hx hcd dL_law_922 ?_
  refine va_sld hx hcd hX hbl hbA hW.2.2.1 hin.2.2.2.1 dL_law_923 ?_
  refine g_calli hW (g_runV (i := 132) (As := [.int (xs (i + 1).toNatClampNeg), .int (xs (i + 2).toNatClampNeg), .int (xs (i + 3).toNatClampNeg)]) (rest := []) hC hW (c_X7_ofStay l D y ad (xs (i + 1).toNatClampNeg) (xs (i + 2).toNatClampNeg) (xs (i + 3).toNatClampNeg) σ1 _ h2) ok_L_170 ⟨rfl, rfl, Nat.le_of_ble_eq_true rfl, Nat.le_of_ble_eq_true rfl⟩ (by decide) rfl rfl rfl rfl hl.1 rfl (Nat.le_of_ble_eq_true rfl) dL_law_924 hr1) (fun H locs hW => ?_)
  refine lv_istore (lv' := [(7, .int r), (6, .int (σ2 132 8)), (0, .ref b), (1, .ref (ad 0)), (2, .ref (ad 132)), (3, .ref oa), (4, .ref od), (5, .int i)]) hx hcd dL_law_927 hl (by decide) rfl (fun ls hl => ?_)
  refine lv_aload_n hx hcd dL_law_929 rfl (lv_at hl 4 rfl) ?_
  refine g_calli hW (g_runV (i := 132) (As := []) (rest := []) hC hW (c_X7_thrown l D y ad σ2 _ (show X7_thrown σ2 = some (σ2 132 8) from rfl)) ok_L_137 ⟨rfl, rfl, Nat.le_of_ble_eq_true rfl, Nat.le_of_ble_eq_true rfl⟩ (by decide) rfl rfl rfl rfl hl.1 rfl (Nat.le_of_ble_eq_true rfl) dL_law_930 hr1) (fun H locs hW => ?_)
  refine lv_iload hx hcd dL_law_933 (lv_at hl 1 rfl) ?_
  refine lv_icmp_eq (tgt := 940) hx hcd dL_law_935 (by decide) (fun _ => ?_) (fun c9 => absurd rfl c9)
  refine lv_iload hx hcd dL_law_940 (lv_at hl 1 rfl) ?_
  refine lv_if_ne (tgt := 957) hx hcd dL_law_942 (by decide) (fun c8 => ?_) (fun c8 => ?_)
  · clear h4
    refine lv_goto (tgt := 2293) hx hcd dL_law_957 (by decide) ?_
    exact kk _ _ _ (lv_sub hl [2, 3, 4, 5, 6, 7] rfl) hW
  · replace h4 := h4 c8
    refine lv_aload_n hx hcd dL_law_945 rfl (lv_at hl 5 rfl) ?_
    refine lv_iconst (v := 0) hx hcd dL_law_946 (by decide) ?_
    refine va_lald hx hcd hKL hW.1 143 0 g_X2_0 rfl (i := 0) (vp_in_nI (n := 0) (by omega) (by omega)) dL_law_947 ?_
    refine lv_iload hx hcd dL_law_948 (lv_at hl 0 rfl) ?_
    refine lv_i2l (v := r.toInt64) hx hcd dL_law_950 rfl ?_
    refine W.lcmp hx hcd dL_law_951 ?_
    refine lv_if_eq (tgt := 957) hx hcd dL_law_952 (by decide) (fun _ => ?_) (fun c9 => absurd ((lg_cmp_eq _ _).mpr h4) c9)
    refine lv_goto (tgt := 2293) hx hcd dL_law_957 (by decide) ?_
    exact kk _ _ _ (lv_sub hl [2, 3, 4, 5, 6, 7] rfl) hW
set_option maxHeartbeats 4000000 in
set_option maxRecDepth 100000 in
theorem w_place (hfl : l.stackTraces = false) (G : g_lw p s m c b L xs D y cL cD) (hl : lv_has ls 8 (g_ll b oa od ad i)) (hW : g_W (fun q => s.heap.size ≤ q) s.heap D y ad (g_X2 cL cD oa od f fd) σ H locs) (hin : vp_in i L ∧ vp_in (i + 1) L ∧ vp_in (i + 2) L ∧ vp_in (i + 3) L ∧ vp_in (i + 4) L) (hcs : cells + 1 ≤ 603072 ∧ slots + 6 ≤ 7186538) {k : Int32} {r : Int32} {f1 : Nat → Int64} {σ1 σ2 : gS} (h1 : L_place σ f (xs (i + 1).toNatClampNeg) (xs (i + 2).toNatClampNeg) (xs (i + 3).toNatClampNeg) = some (k, f1, σ1)) (h2 : X7_place σ1 (xs (i + 1).toNatClampNeg) (xs (i + 2).toNatClampNeg) (xs (i + 3).toNatClampNeg) = some (r, σ2)) (h3 : σ2 132 8 = k) (h4 : k = 0 → f1 0 = r.toInt64)
    (kk : ∀ (ls : Array Slot) (H : Heap) (locs : List Loc), lv_has ls 8 (g_ll b oa od ad i) → g_W (fun q => s.heap.size ≤ q) s.heap D y ad (g_X2 cL cD oa od f1 fd) σ2 H locs → W p l e room_1 s m #[Value.ref b] below meth c H locs (cells + 1) (slots + 6) Q (F0 m 2293 ls [])) : W p l e room_1 s m #[Value.ref b] below meth c H locs cells slots Q (F0 m 960 ls []) := by
  obtain ⟨hC, hKL, hKD, hY, hX, hbl⟩ := G
  have hx := hC.1
  have hcd := hC.2.1
  have hbA : ¬ (s.heap.size ≤ b) := Nat.not_le.mpr hbl
  have hr1 : cells + 1 + 0 ≤ room_1.cells ∧ slots + 6 + 0 ≤ room_1.slots := ⟨hcs.1, hcs.2⟩
  obtain rfl := h3
  refine lv_aload_n hx hcd dL_law_960 rfl (lv_at hl 1 rfl) ?_
  refine lv_aload_n hx hcd dL_law_961 rfl (lv_at hl 0 rfl) ?_
  refine lv_iload hx hcd dL_law_962 (lv_at hl 5 rfl) ?_
  refine lv_iconst (v := 1) hx hcd dL_law_964 (by decide) ?_
  refine lv_iadd hx hcd dL_law_965 ?_
  refine va_sld hx hcd hX hbl hbA hW.2.2.1 hin.2.1 dL_law_966 ?_
  refine lv_aload_n hx hcd dL_law_967 rfl (lv_at hl 0 rfl) ?_
  refine lv_iload hx hcd dL_law_968 (lv_at hl 5 rfl) ?_
  refine lv_iconst (v := 2) hx hcd dL_law_970 (by decide) ?_
  refine lv_iadd hx hcd dL_law_971 ?_
  refine va_sld hx hcd hX hbl hbA hW.2.2.1 hin.2.2.1 dL_law_972 ?_
  refine lv_aload_n hx hcd dL_law_973 rfl (lv_at hl 0 rfl) ?_
  refine lv_iload hx hcd dL_law_974 (lv_at hl 5 rfl) ?_
  refine lv_iconst (v := 3) hx hcd dL_law_976 (by decide) ?_
  refine lv_iadd hx hcd dL_law_977 ?_
  refine va_sld hx hcd hX hbl hbA hW.2.2.1 hin.2.2.2.1 dL_law_978 ?_
  refine lv_aload_n hx hcd dL_law_979 rfl (lv_at hl 3 rfl) ?_
  refine g_callL (j := 0) (As := [.ref (ad 0), .int (xs (i + 1).toNatClampNeg), .int (xs (i + 2).toNatClampNeg), .int (xs (i + 3).toNatClampNeg), .ref oa]) (rest := []) hC hKL hY hW rfl (c_L_place l hfl D y ad (xs (i + 1).toNatClampNeg) (xs (i + 2).toNatClampNeg) (xs (i + 3).toNatClampNeg) σ _ cL oa f h1) ok_L_171 ⟨rfl, rfl, Nat.le_of_ble_eq_true rfl, Nat.le_of_ble_eq_true rfl⟩ rfl hl.1 rfl (Nat.le_of_ble_eq_true rfl) dL_law_980 hcs (fun H locs hW => ?_)
  replace hW : g_W (fun q => s.heap.size ≤ q) s.heap D y ad (g_X2 cL cD oa od f1 fd) σ1 H locs := hW
  refine lv_istore (lv' := [(6, .int (σ2 132 8)), (0, .ref b), (1, .ref (ad 0)), (2, .ref (ad 132)), (3, .ref oa), (4, .ref od), (5, .int i)]) hx hcd dL_law_983 hl (by decide) rfl (fun ls hl => ?_)
  refine lv_aload_n hx hcd dL_law_985 rfl (lv_at hl 3 rfl) ?_
  refine lv_aload_n hx hcd dL_law_986 rfl (lv_at hl 1 rfl) ?_
  refine lv_iload hx hcd dL_law_987 (lv_at hl 6 rfl) ?_
  refine lv_iconst (v := 1) hx hcd dL_law_989 (by decide) ?_
  refine lv_iadd hx hcd dL_law_990 ?_
  refine va_sld hx hcd hX hbl hbA hW.2.2.1 hin.2.1 dL_law_991 ?_
  refine lv_aload_n hx hcd dL_law_992 rfl (lv_at hl 1 rfl) ?_
  refine lv_iload hx hcd dL_law_993 (lv_at hl 6 rfl) ?_
  refine lv_iconst (v := 2) hx hcd dL_law_995 (by decide) ?_
  refine lv_iadd hx hcd dL_law_996 ?_
  refine va_sld hx hcd hX hbl hbA hW.2.2.1 hin.2.2.1 dL_law_997 ?_
  refine lv_aload_n hx hcd dL_law_998 rfl (lv_at hl 1 rfl) ?_
  refine lv_iload hx hcd dL_law_999 (lv_at hl 6 rfl) ?_
  refine lv_iconst (v := 3) hx hcd dL_law_1001 (by decide) ?_
  refine lv_iadd hx hcd dL_law_1002 ?_
  refine va_sld hx hcd hX hbl hbA hW.2.2.1 hin.2.2.2.1 dL_law_1003 ?_
  refine g_calli hW (g_runV (i := 132) (As := [.int (xs (i + 1).toNatClampNeg), .int (xs (i + 2).toNatClampNeg), .int (xs (i + 3).toNatClampNeg)]) (rest := []) hC hW (c_X7_place l D y ad (xs (i + 1).toNatClampNeg) (xs (i + 2).toNatClampNeg) (xs (i + 3).toNatClampNeg) σ1 _ h2) ok_L_173 ⟨rfl, rfl, Nat.le_of_ble_eq_true rfl, Nat.le_of_ble_eq_true rfl⟩ (by decide) rfl rfl rfl rfl hl.1 rfl (Nat.le_of_ble_eq_true rfl) dL_law_1004 hr1) (fun H locs hW => ?_)
  refine lv_istore (lv' := [(7, .int r), (6, .int (σ2 132 8)), (0, .ref b), (1, .ref (ad 0)), (2, .ref (ad 132)), (3, .ref oa), (4, .ref od), (5, .int i)]) hx hcd dL_law_1007 hl (by decide) rfl (fun ls hl => ?_)
  refine lv_aload_n hx hcd dL_law_1009 rfl (lv_at hl 4 rfl) ?_
  refine g_calli hW (g_runV (i := 132) (As := []) (rest := []) hC hW (c_X7_thrown l D y ad σ2 _ (show X7_thrown σ2 = some (σ2 132 8) from rfl)) ok_L_137 ⟨rfl, rfl, Nat.le_of_ble_eq_true rfl, Nat.le_of_ble_eq_true rfl⟩ (by decide) rfl rfl rfl rfl hl.1 rfl (Nat.le_of_ble_eq_true rfl) dL_law_1010 hr1) (fun H locs hW => ?_)
  refine lv_iload hx hcd dL_law_1013 (lv_at hl 1 rfl) ?_
  refine lv_icmp_eq (tgt := 1020) hx hcd dL_law_1015 (by decide) (fun _ => ?_) (fun c9 => absurd rfl c9)
  refine lv_iload hx hcd dL_law_1020 (lv_at hl 1 rfl) ?_
  refine lv_if_ne (tgt := 1037) hx hcd dL_law_1022 (by decide) (fun c8 => ?_) (fun c8 => ?_)
  · clear h4
    refine lv_goto (tgt := 2293) hx hcd dL_law_1037 (by decide) ?_
    exact kk _ _ _ (lv_sub hl [2, 3, 4, 5, 6, 7] rfl) hW
  · replace h4 := h4 c8
    refine lv_aload_n hx hcd dL_law_1025 rfl (lv_at hl 5 rfl) ?_
    refine lv_iconst (v := 0) hx hcd dL_law_1026 (by decide) ?_
    refine va_lald hx hcd hKL hW.1 143 0 g_X2_0 rfl (i := 0) (vp_in_nI (n := 0) (by omega) (by omega)) dL_law_1027 ?_
    refine lv_iload hx hcd dL_law_1028 (lv_at hl 0 rfl) ?_
    refine lv_i2l (v := r.toInt64) hx hcd dL_law_1030 rfl ?_
    refine W.lcmp hx hcd dL_law_1031 ?_
    refine lv_if_eq (tgt := 1037) hx hcd dL_law_1032 (by decide) (fun _ => ?_) (fun c9 => absurd ((lg_cmp_eq _ _).mpr h4) c9)
    refine lv_goto (tgt := 2293) hx hcd dL_law_1037 (by decide) ?_
    exact kk _ _ _ (lv_sub hl [2, 3, 4, 5, 6, 7] rfl) hW
set_option maxHeartbeats 4000000 in
set_option maxRecDepth 100000 in
theorem w_whyNot (hfl : l.stackTraces = false) (G : g_lw p s m c b L xs D y cL cD) (hl : lv_has ls 8 (g_ll b oa od ad i)) (hW : g_W (fun q => s.heap.size ≤ q) s.heap D y ad (g_X2 cL cD oa od f fd) σ H locs) (hin : vp_in i L ∧ vp_in (i + 1) L ∧ vp_in (i + 2) L ∧ vp_in (i + 3) L ∧ vp_in (i + 4) L) (hcs : cells + 1 ≤ 603072 ∧ slots + 6 ≤ 7186538) {k : Int32} {r : Int32} {f1 : Nat → Int64} {σ1 σ2 : gS} (h1 : L_whyNot σ f (xs (i + 1).toNatClampNeg) (xs (i + 2).toNatClampNeg) (xs (i + 3).toNatClampNeg) = some (k, f1, σ1)) (h2 : X7_whyNot σ1 (xs (i + 1).toNatClampNeg) (xs (i + 2).toNatClampNeg) (xs (i + 3).toNatClampNeg) = some (r, σ2)) (h3 : σ2 132 8 = k) (h4 : k = 0 → f1 0 = r.toInt64)
    (kk : ∀ (ls : Array Slot) (H : Heap) (locs : List Loc), lv_has ls 8 (g_ll b oa od ad i) → g_W (fun q => s.heap.size ≤ q) s.heap D y ad (g_X2 cL cD oa od f1 fd) σ2 H locs → W p l e room_1 s m #[Value.ref b] below meth c H locs (cells + 1) (slots + 6) Q (F0 m 2293 ls [])) : W p l e room_1 s m #[Value.ref b] below meth c H locs cells slots Q (F0 m 1040 ls []) := by
  obtain ⟨hC, hKL, hKD, hY, hX, hbl⟩ := G
  have hx := hC.1
  have hcd := hC.2.1
  have hbA : ¬ (s.heap.size ≤ b) := Nat.not_le.mpr hbl
  have hr1 : cells + 1 + 0 ≤ room_1.cells ∧ slots + 6 + 0 ≤ room_1.slots := ⟨hcs.1, hcs.2⟩
  obtain rfl := h3
  refine lv_aload_n hx hcd dL_law_1040 rfl (lv_at hl 1 rfl) ?_
  refine lv_aload_n hx hcd dL_law_1041 rfl (lv_at hl 0 rfl) ?_
  refine lv_iload hx hcd dL_law_1042 (lv_at hl 5 rfl) ?_
  refine lv_iconst (v := 1) hx hcd dL_law_1044 (by decide) ?_
  refine lv_iadd hx hcd dL_law_1045 ?_
  refine va_sld hx hcd hX hbl hbA hW.2.2.1 hin.2.1 dL_law_1046 ?_
  refine lv_aload_n hx hcd dL_law_1047 rfl (lv_at hl 0 rfl) ?_
  refine lv_iload hx hcd dL_law_1048 (lv_at hl 5 rfl) ?_
  refine lv_iconst (v := 2) hx hcd dL_law_1050 (by decide) ?_
  refine lv_iadd hx hcd dL_law_1051 ?_
  refine va_sld hx hcd hX hbl hbA hW.2.2.1 hin.2.2.1 dL_law_1052 ?_
  refine lv_aload_n hx hcd dL_law_1053 rfl (lv_at hl 0 rfl) ?_
  refine lv_iload hx hcd dL_law_1054 (lv_at hl 5 rfl) ?_
  refine lv_iconst (v := 3) hx hcd dL_law_1056 (by decide) ?_
  refine lv_iadd hx hcd dL_law_1057 ?_
  refine va_sld hx hcd hX hbl hbA hW.2.2.1 hin.2.2.2.1 dL_law_1058 ?_
  refine lv_aload_n hx hcd dL_law_1059 rfl (lv_at hl 3 rfl) ?_
  refine g_callL (j := 0) (As := [.ref (ad 0), .int (xs (i + 1).toNatClampNeg), .int (xs (i + 2).toNatClampNeg), .int (xs (i + 3).toNatClampNeg), .ref oa]) (rest := []) hC hKL hY hW rfl (c_L_whyNot l hfl D y ad (xs (i + 1).toNatClampNeg) (xs (i + 2).toNatClampNeg) (xs (i + 3).toNatClampNeg) σ _ cL oa f h1) ok_L_174 ⟨rfl, rfl, Nat.le_of_ble_eq_true rfl, Nat.le_of_ble_eq_true rfl⟩ rfl hl.1 rfl (Nat.le_of_ble_eq_true rfl) dL_law_1060 hcs (fun H locs hW => ?_)
  replace hW : g_W (fun q => s.heap.size ≤ q) s.heap D y ad (g_X2 cL cD oa od f1 fd) σ1 H locs := hW
  refine lv_istore (lv' := [(6, .int (σ2 132 8)), (0, .ref b), (1, .ref (ad 0)), (2, .ref (ad 132)), (3, .ref oa), (4, .ref od), (5, .int i)]) hx hcd dL_law_1063 hl (by decide) rfl (fun ls hl => ?_)
  refine lv_aload_n hx hcd dL_law_1065 rfl (lv_at hl 3 rfl) ?_
  refine lv_aload_n hx hcd dL_law_1066 rfl (lv_at hl 1 rfl) ?_
  refine lv_iload hx hcd dL_law_1067 (lv_at hl 6 rfl) ?_
  refine lv_iconst (v := 1) hx hcd dL_law_1069 (by decide) ?_
  refine lv_iadd hx hcd dL_law_1070 ?_
  refine va_sld hx hcd hX hbl hbA hW.2.2.1 hin.2.1 dL_law_1071 ?_
  refine lv_aload_n hx hcd dL_law_1072 rfl (lv_at hl 1 rfl) ?_
  refine lv_iload hx hcd dL_law_1073 (lv_at hl 6 rfl) ?_
  refine lv_iconst (v := 2) hx hcd dL_law_1075 (by decide) ?_
  refine lv_iadd hx hcd dL_law_1076 ?_
  refine va_sld hx hcd hX hbl hbA hW.2.2.1 hin.2.2.1 dL_law_1077 ?_
  refine lv_aload_n hx hcd dL_law_1078 rfl (lv_at hl 1 rfl) ?_
  refine lv_iload hx hcd dL_law_1079 (lv_at hl 6 rfl) ?_
  refine lv_iconst (v := 3) hx hcd dL_law_1081 (by decide) ?_
  refine lv_iadd hx hcd dL_law_1082 ?_
  refine va_sld hx hcd hX hbl hbA hW.2.2.1 hin.2.2.2.1 dL_law_1083 ?_
  refine g_calli hW (g_runV (i := 132) (As := [.int (xs (i + 1).toNatClampNeg), .int (xs (i + 2).toNatClampNeg), .int (xs (i + 3).toNatClampNeg)]) (rest := []) hC hW (c_X7_whyNot l D y ad (xs (i + 1).toNatClampNeg) (xs (i + 2).toNatClampNeg) (xs (i + 3).toNatClampNeg) σ1 _ h2) ok_L_176 ⟨rfl, rfl, Nat.le_of_ble_eq_true rfl, Nat.le_of_ble_eq_true rfl⟩ (by decide) rfl rfl rfl rfl hl.1 rfl (Nat.le_of_ble_eq_true rfl) dL_law_1084 hr1) (fun H locs hW => ?_)
  refine lv_istore (lv' := [(7, .int r), (6, .int (σ2 132 8)), (0, .ref b), (1, .ref (ad 0)), (2, .ref (ad 132)), (3, .ref oa), (4, .ref od), (5, .int i)]) hx hcd dL_law_1087 hl (by decide) rfl (fun ls hl => ?_)
  refine lv_aload_n hx hcd dL_law_1089 rfl (lv_at hl 4 rfl) ?_
  refine g_calli hW (g_runV (i := 132) (As := []) (rest := []) hC hW (c_X7_thrown l D y ad σ2 _ (show X7_thrown σ2 = some (σ2 132 8) from rfl)) ok_L_137 ⟨rfl, rfl, Nat.le_of_ble_eq_true rfl, Nat.le_of_ble_eq_true rfl⟩ (by decide) rfl rfl rfl rfl hl.1 rfl (Nat.le_of_ble_eq_true rfl) dL_law_1090 hr1) (fun H locs hW => ?_)
  refine lv_iload hx hcd dL_law_1093 (lv_at hl 1 rfl) ?_
  refine lv_icmp_eq (tgt := 1100) hx hcd dL_law_1095 (by decide) (fun _ => ?_) (fun c9 => absurd rfl c9)
  refine lv_iload hx hcd dL_law_1100 (lv_at hl 1 rfl) ?_
  refine lv_if_ne (tgt := 1117) hx hcd dL_law_1102 (by decide) (fun c8 => ?_) (fun c8 => ?_)
  · clear h4
    refine lv_goto (tgt := 2293) hx hcd dL_law_1117 (by decide) ?_
    exact kk _ _ _ (lv_sub hl [2, 3, 4, 5, 6, 7] rfl) hW
  · replace h4 := h4 c8
    refine lv_aload_n hx hcd dL_law_1105 rfl (lv_at hl 5 rfl) ?_
    refine lv_iconst (v := 0) hx hcd dL_law_1106 (by decide) ?_
    refine va_lald hx hcd hKL hW.1 143 0 g_X2_0 rfl (i := 0) (vp_in_nI (n := 0) (by omega) (by omega)) dL_law_1107 ?_
    refine lv_iload hx hcd dL_law_1108 (lv_at hl 0 rfl) ?_
    refine lv_i2l (v := r.toInt64) hx hcd dL_law_1110 rfl ?_
    refine W.lcmp hx hcd dL_law_1111 ?_
    refine lv_if_eq (tgt := 1117) hx hcd dL_law_1112 (by decide) (fun _ => ?_) (fun c9 => absurd ((lg_cmp_eq _ _).mpr h4) c9)
    refine lv_goto (tgt := 2293) hx hcd dL_law_1117 (by decide) ?_
    exact kk _ _ _ (lv_sub hl [2, 3, 4, 5, 6, 7] rfl) hW
set_option maxHeartbeats 4000000 in
set_option maxRecDepth 100000 in
theorem w_options (hfl : l.stackTraces = false) (G : g_lw p s m c b L xs D y cL cD) (hl : lv_has ls 8 (g_ll b oa od ad i)) (hW : g_W (fun q => s.heap.size ≤ q) s.heap D y ad (g_X2 cL cD oa od f fd) σ H locs) (hin : vp_in i L ∧ vp_in (i + 1) L ∧ vp_in (i + 2) L ∧ vp_in (i + 3) L ∧ vp_in (i + 4) L) (hcs : cells + 1 ≤ 603072 ∧ slots + 6 ≤ 7186538) {k : Int32} {r : Int32} {f1 : Nat → Int64} {σ1 σ2 : gS} (h1 : L_options σ f (xs (i + 1).toNatClampNeg) (xs (i + 2).toNatClampNeg) = some (k, f1, σ1)) (h2 : X7_options σ1 (xs (i + 1).toNatClampNeg) (xs (i + 2).toNatClampNeg) = some (r, σ2)) (h3 : σ2 132 8 = k) (h4 : k = 0 → f1 0 = r.toInt64)
    (kk : ∀ (ls : Array Slot) (H : Heap) (locs : List Loc), lv_has ls 8 (g_ll b oa od ad i) → g_W (fun q => s.heap.size ≤ q) s.heap D y ad (g_X2 cL cD oa od f1 fd) σ2 H locs → W p l e room_1 s m #[Value.ref b] below meth c H locs (cells + 1) (slots + 6) Q (F0 m 2293 ls [])) : W p l e room_1 s m #[Value.ref b] below meth c H locs cells slots Q (F0 m 1120 ls []) := by
  obtain ⟨hC, hKL, hKD, hY, hX, hbl⟩ := G
  have hx := hC.1
  have hcd := hC.2.1
  have hbA : ¬ (s.heap.size ≤ b) := Nat.not_le.mpr hbl
  have hr1 : cells + 1 + 0 ≤ room_1.cells ∧ slots + 6 + 0 ≤ room_1.slots := ⟨hcs.1, hcs.2⟩
  obtain rfl := h3
  refine lv_aload_n hx hcd dL_law_1120 rfl (lv_at hl 1 rfl) ?_
  refine lv_aload_n hx hcd dL_law_1121 rfl (lv_at hl 0 rfl) ?_
  refine lv_iload hx hcd dL_law_1122 (lv_at hl 5 rfl) ?_
  refine lv_iconst (v := 1) hx hcd dL_law_1124 (by decide) ?_
  refine lv_iadd hx hcd dL_law_1125 ?_
  refine va_sld hx hcd hX hbl hbA hW.2.2.1 hin.2.1 dL_law_1126 ?_
  refine lv_aload_n hx hcd dL_law_1127 rfl (lv_at hl 0 rfl) ?_
  refine lv_iload hx hcd dL_law_1128 (lv_at hl 5 rfl) ?_
  refine lv_iconst (v := 2) hx hcd dL_law_1130 (by decide) ?_
  refine lv_iadd hx hcd dL_law_1131 ?_
  refine va_sld hx hcd hX hbl hbA hW.2.2.1 hin.2.2.1 dL_law_1132 ?_
  refine lv_aload_n hx hcd dL_law_1133 rfl (lv_at hl 3 rfl) ?_
  refine g_callL (j := 0) (As := [.ref (ad 0), .int (xs (i + 1).toNatClampNeg), .int (xs (i + 2).toNatClampNeg), .ref oa]) (rest := []) hC hKL hY hW rfl (c_L_options l hfl D y ad (xs (i + 1).toNatClampNeg) (xs (i + 2).toNatClampNeg) σ _ cL oa f h1) ok_L_177 ⟨rfl, rfl, Nat.le_of_ble_eq_true rfl, Nat.le_of_ble_eq_true rfl⟩ rfl hl.1 rfl (Nat.le_of_ble_eq_true rfl) dL_law_1134 hcs (fun H locs hW => ?_)
  replace hW : g_W (fun q => s.heap.size ≤ q) s.heap D y ad (g_X2 cL cD oa od f1 fd) σ1 H locs := hW
  refine lv_istore (lv' := [(6, .int (σ2 132 8)), (0, .ref b), (1, .ref (ad 0)), (2, .ref (ad 132)), (3, .ref oa), (4, .ref od), (5, .int i)]) hx hcd dL_law_1137 hl (by decide) rfl (fun ls hl => ?_)
  refine lv_aload_n hx hcd dL_law_1139 rfl (lv_at hl 3 rfl) ?_
  refine lv_aload_n hx hcd dL_law_1140 rfl (lv_at hl 1 rfl) ?_
  refine lv_iload hx hcd dL_law_1141 (lv_at hl 6 rfl) ?_
  refine lv_iconst (v := 1) hx hcd dL_law_1143 (by decide) ?_
  refine lv_iadd hx hcd dL_law_1144 ?_
  refine va_sld hx hcd hX hbl hbA hW.2.2.1 hin.2.1 dL_law_1145 ?_
  refine lv_aload_n hx hcd dL_law_1146 rfl (lv_at hl 1 rfl) ?_
  refine lv_iload hx hcd dL_law_1147 (lv_at hl 6 rfl) ?_
  refine lv_iconst (v := 2) hx hcd dL_law_1149 (by decide) ?_
  refine lv_iadd hx hcd dL_law_1150 ?_
  refine va_sld hx hcd hX hbl hbA hW.2.2.1 hin.2.2.1 dL_law_1151 ?_
  refine g_calli hW (g_runV (i := 132) (As := [.int (xs (i + 1).toNatClampNeg), .int (xs (i + 2).toNatClampNeg)]) (rest := []) hC hW (c_X7_options l D y ad (xs (i + 1).toNatClampNeg) (xs (i + 2).toNatClampNeg) σ1 _ h2) ok_L_179 ⟨rfl, rfl, Nat.le_of_ble_eq_true rfl, Nat.le_of_ble_eq_true rfl⟩ (by decide) rfl rfl rfl rfl hl.1 rfl (Nat.le_of_ble_eq_true rfl) dL_law_1152 hr1) (fun H locs hW => ?_)
  refine lv_istore (lv' := [(7, .int r), (6, .int (σ2 132 8)), (0, .ref b), (1, .ref (ad 0)), (2, .ref (ad 132)), (3, .ref oa), (4, .ref od), (5, .int i)]) hx hcd dL_law_1155 hl (by decide) rfl (fun ls hl => ?_)
  refine lv_aload_n hx hcd dL_law_1157 rfl (lv_at hl 4 rfl) ?_
  refine g_calli hW (g_runV (i := 132) (As := []) (rest := []) hC hW (c_X7_thrown l D y ad σ2 _ (show X7_thrown σ2 = some (σ2 132 8) from rfl)) ok_L_137 ⟨rfl, rfl, Nat.le_of_ble_eq_true rfl, Nat.le_of_ble_eq_true rfl⟩ (by decide) rfl rfl rfl rfl hl.1 rfl (Nat.le_of_ble_eq_true rfl) dL_law_1158 hr1) (fun H locs hW => ?_)
  refine lv_iload hx hcd dL_law_1161 (lv_at hl 1 rfl) ?_
  refine lv_icmp_eq (tgt := 1168) hx hcd dL_law_1163 (by decide) (fun _ => ?_) (fun c9 => absurd rfl c9)
  refine lv_iload hx hcd dL_law_1168 (lv_at hl 1 rfl) ?_
  refine lv_if_ne (tgt := 1185) hx hcd dL_law_1170 (by decide) (fun c8 => ?_) (fun c8 => ?_)
  · clear h4
    refine lv_goto (tgt := 2293) hx hcd dL_law_1185 (by decide) ?_
    exact kk _ _ _ (lv_sub hl [2, 3, 4, 5, 6, 7] rfl) hW
  · replace h4 := h4 c8
    refine lv_aload_n hx hcd dL_law_1173 rfl (lv_at hl 5 rfl) ?_
    refine lv_iconst (v := 0) hx hcd dL_law_1174 (by decide) ?_
    refine va_lald hx hcd hKL hW.1 143 0 g_X2_0 rfl (i := 0) (vp_in_nI (n := 0) (by omega) (by omega)) dL_law_1175 ?_
    refine lv_iload hx hcd dL_law_1176 (lv_at hl 0 rfl) ?_
    refine lv_i2l (v := r.toInt64) hx hcd dL_law_1178 rfl ?_
    refine W.lcmp hx hcd dL_law_1179 ?_
    refine lv_if_eq (tgt := 1185) hx hcd dL_law_1180 (by decide) (fun _ => ?_) (fun c9 => absurd ((lg_cmp_eq _ _).mpr h4) c9)
    refine lv_goto (tgt := 2293) hx hcd dL_law_1185 (by decide) ?_
    exact kk _ _ _ (lv_sub hl [2, 3, 4, 5, 6, 7] rfl) hW
set_option maxHeartbeats 4000000 in
set_option maxRecDepth 100000 in
theorem w_cheapest (hfl : l.stackTraces = false) (G : g_lw p s m c b L xs D y cL cD) (hl : lv_has ls 8 (g_ll b oa od ad i)) (hW : g_W (fun q => s.heap.size ≤ q) s.heap D y ad (g_X2 cL cD oa od f fd) σ H locs) (hin : vp_in i L ∧ vp_in (i + 1) L ∧ vp_in (i + 2) L ∧ vp_in (i + 3) L ∧ vp_in (i + 4) L) (hcs : cells + 1 ≤ 603072 ∧ slots + 6 ≤ 7186538) {k : Int32} {r : Int32} {f1 : Nat → Int64} {σ1 σ2 : gS} (h1 : L_cheapest σ f (xs (i + 1).toNatClampNeg) (xs (i + 2).toNatClampNeg) = some (k, f1, σ1)) (h2 : X7_cheapest σ1 (xs (i + 1).toNatClampNeg) (xs (i + 2).toNatClampNeg) = some (r, σ2)) (h3 : σ2 132 8 = k) (h4 : k = 0 → f1 0 = r.toInt64)
    (kk : ∀ (ls : Array Slot) (H : Heap) (locs : List Loc), lv_has ls 8 (g_ll b oa od ad i) → g_W (fun q => s.heap.size ≤ q) s.heap D y ad (g_X2 cL cD oa od f1 fd) σ2 H locs → W p l e room_1 s m #[Value.ref b] below meth c H locs (cells + 1) (slots + 6) Q (F0 m 2293 ls [])) : W p l e room_1 s m #[Value.ref b] below meth c H locs cells slots Q (F0 m 1188 ls []) := by
  obtain ⟨hC, hKL, hKD, hY, hX, hbl⟩ := G
  have hx := hC.1
  have hcd := hC.2.1
  have hbA : ¬ (s.heap.size ≤ b) := Nat.not_le.mpr hbl
  have hr1 : cells + 1 + 0 ≤ room_1.cells ∧ slots + 6 + 0 ≤ room_1.slots := ⟨hcs.1, hcs.2⟩
  obtain rfl := h3
  refine lv_aload_n hx hcd dL_law_1188 rfl (lv_at hl 1 rfl) ?_
  refine lv_aload_n hx hcd dL_law_1189 rfl (lv_at hl 0 rfl) ?_
  refine lv_iload hx hcd dL_law_1190 (lv_at hl 5 rfl) ?_
  refine lv_iconst (v := 1) hx hcd dL_law_1192 (by decide) ?_
  refine lv_iadd hx hcd dL_law_1193 ?_
  refine va_sld hx hcd hX hbl hbA hW.2.2.1 hin.2.1 dL_law_1194 ?_
  refine lv_aload_n hx hcd dL_law_1195 rfl (lv_at hl 0 rfl) ?_
  refine lv_iload hx hcd dL_law_1196 (lv_at hl 5 rfl) ?_
  refine lv_iconst (v := 2) hx hcd dL_law_1198 (by decide) ?_
  refine lv_iadd hx hcd dL_law_1199 ?_
  refine va_sld hx hcd hX hbl hbA hW.2.2.1 hin.2.2.1 dL_law_1200 ?_
  refine lv_aload_n hx hcd dL_law_1201 rfl (lv_at hl 3 rfl) ?_
  refine g_callL (j := 0) (As := [.ref (ad 0), .int (xs (i + 1).toNatClampNeg), .int (xs (i + 2).toNatClampNeg), .ref oa]) (rest := []) hC hKL hY hW rfl (c_L_cheapest l hfl D y ad (xs (i + 1).toNatClampNeg) (xs (i + 2).toNatClampNeg) σ _ cL oa f h1) ok_L_180 ⟨rfl, rfl, Nat.le_of_ble_eq_true rfl, Nat.le_of_ble_eq_true rfl⟩ rfl hl.1 rfl (Nat.le_of_ble_eq_true rfl) dL_law_1202 hcs (fun H locs hW => ?_)
  replace hW : g_W (fun q => s.heap.size ≤ q) s.heap D y ad (g_X2 cL cD oa od f1 fd) σ1 H locs := hW
  refine lv_istore (lv' := [(6, .int (σ2 132 8)), (0, .ref b), (1, .ref (ad 0)), (2, .ref (ad 132)), (3, .ref oa), (4, .ref od), (5, .int i)]) hx hcd dL_law_1205 hl (by decide) rfl (fun ls hl => ?_)
  refine lv_aload_n hx hcd dL_law_1207 rfl (lv_at hl 3 rfl) ?_
  refine lv_aload_n hx hcd dL_law_1208 rfl (lv_at hl 1 rfl) ?_
  refine lv_iload hx hcd dL_law_1209 (lv_at hl 6 rfl) ?_
  refine lv_iconst (v := 1) hx hcd dL_law_1211 (by decide) ?_
  refine lv_iadd hx hcd dL_law_1212 ?_
  refine va_sld hx hcd hX hbl hbA hW.2.2.1 hin.2.1 dL_law_1213 ?_
  refine lv_aload_n hx hcd dL_law_1214 rfl (lv_at hl 1 rfl) ?_
  refine lv_iload hx hcd dL_law_1215 (lv_at hl 6 rfl) ?_
  refine lv_iconst (v := 2) hx hcd dL_law_1217 (by decide) ?_
  refine lv_iadd hx hcd dL_law_1218 ?_
  refine va_sld hx hcd hX hbl hbA hW.2.2.1 hin.2.2.1 dL_law_1219 ?_
  refine g_calli hW (g_runV (i := 132) (As := [.int (xs (i + 1).toNatClampNeg), .int (xs (i + 2).toNatClampNeg)]) (rest := []) hC hW (c_X7_cheapest l D y ad (xs (i + 1).toNatClampNeg) (xs (i + 2).toNatClampNeg) σ1 _ h2) ok_L_182 ⟨rfl, rfl, Nat.le_of_ble_eq_true rfl, Nat.le_of_ble_eq_true rfl⟩ (by decide) rfl rfl rfl rfl hl.1 rfl (Nat.le_of_ble_eq_true rfl) dL_law_1220 hr1) (fun H locs hW => ?_)
  refine lv_istore (lv' := [(7, .int r), (6, .int (σ2 132 8)), (0, .ref b), (1, .ref (ad 0)), (2, .ref (ad 132)), (3, .ref oa), (4, .ref od), (5, .int i)]) hx hcd dL_law_1223 hl (by decide) rfl (fun ls hl => ?_)
  refine lv_aload_n hx hcd dL_law_1225 rfl (lv_at hl 4 rfl) ?_
  refine g_calli hW (g_runV (i := 132) (As := []) (rest := []) hC hW (c_X7_thrown l D y ad σ2 _ (show X7_thrown σ2 = some (σ2 132 8) from rfl)) ok_L_137 ⟨rfl, rfl, Nat.le_of_ble_eq_true rfl, Nat.le_of_ble_eq_true rfl⟩ (by decide) rfl rfl rfl rfl hl.1 rfl (Nat.le_of_ble_eq_true rfl) dL_law_1226 hr1) (fun H locs hW => ?_)
  refine lv_iload hx hcd dL_law_1229 (lv_at hl 1 rfl) ?_
  refine lv_icmp_eq (tgt := 1236) hx hcd dL_law_1231 (by decide) (fun _ => ?_) (fun c9 => absurd rfl c9)
  refine lv_iload hx hcd dL_law_1236 (lv_at hl 1 rfl) ?_
  refine lv_if_ne (tgt := 1253) hx hcd dL_law_1238 (by decide) (fun c8 => ?_) (fun c8 => ?_)
  · clear h4
    refine lv_goto (tgt := 2293) hx hcd dL_law_1253 (by decide) ?_
    exact kk _ _ _ (lv_sub hl [2, 3, 4, 5, 6, 7] rfl) hW
  · replace h4 := h4 c8
    refine lv_aload_n hx hcd dL_law_1241 rfl (lv_at hl 5 rfl) ?_
    refine lv_iconst (v := 0) hx hcd dL_law_1242 (by decide) ?_
    refine va_lald hx hcd hKL hW.1 143 0 g_X2_0 rfl (i := 0) (vp_in_nI (n := 0) (by omega) (by omega)) dL_law_1243 ?_
    refine lv_iload hx hcd dL_law_1244 (lv_at hl 0 rfl) ?_
    refine lv_i2l (v := r.toInt64) hx hcd dL_law_1246 rfl ?_
    refine W.lcmp hx hcd dL_law_1247 ?_
    refine lv_if_eq (tgt := 1253) hx hcd dL_law_1248 (by decide) (fun _ => ?_) (fun c9 => absurd ((lg_cmp_eq _ _).mpr h4) c9)
    refine lv_goto (tgt := 2293) hx hcd dL_law_1253 (by decide) ?_
    exact kk _ _ _ (lv_sub hl [2, 3, 4, 5, 6, 7] rfl) hW
set_option maxHeartbeats 4000000 in
set_option maxRecDepth 100000 in
theorem w_lift (hfl : l.stackTraces = false) (G : g_lw p s m c b L xs D y cL cD) (hl : lv_has ls 8 (g_ll b oa od ad i)) (hW : g_W (fun q => s.heap.size ≤ q) s.heap D y ad (g_X2 cL cD oa od f fd) σ H locs) (hin : vp_in i L ∧ vp_in (i + 1) L ∧ vp_in (i + 2) L ∧ vp_in (i + 3) L ∧ vp_in (i + 4) L) (hcs : cells + 1 ≤ 603072 ∧ slots + 6 ≤ 7186538) {k : Int32} {r : Int32} {f1 : Nat → Int64} {σ1 σ2 : gS} (h1 : L_lift σ f (xs (i + 1).toNatClampNeg) (xs (i + 2).toNatClampNeg) = some (k, f1, σ1)) (h2 : X7_lift σ1 (xs (i + 1).toNatClampNeg) (xs (i + 2).toNatClampNeg) = some (r, σ2)) (h3 : σ2 132 8 = k) (h4 : k = 0 → f1 0 = r.toInt64)
    (kk : ∀ (ls : Array Slot) (H : Heap) (locs : List Loc), lv_has ls 8 (g_ll b oa od ad i) → g_W (fun q => s.heap.size ≤ q) s.heap D y ad (g_X2 cL cD oa od f1 fd) σ2 H locs → W p l e room_1 s m #[Value.ref b] below meth c H locs (cells + 1) (slots + 6) Q (F0 m 2293 ls [])) : W p l e room_1 s m #[Value.ref b] below meth c H locs cells slots Q (F0 m 1256 ls []) := by
  obtain ⟨hC, hKL, hKD, hY, hX, hbl⟩ := G
  have hx := hC.1
  have hcd := hC.2.1
  have hbA : ¬ (s.heap.size ≤ b) := Nat.not_le.mpr hbl
  have hr1 : cells + 1 + 0 ≤ room_1.cells ∧ slots + 6 + 0 ≤ room_1.slots := ⟨hcs.1, hcs.2⟩
  obtain rfl := h3
  refine lv_aload_n hx hcd dL_law_1256 rfl (lv_at hl 1 rfl) ?_
  refine lv_aload_n hx hcd dL_law_1257 rfl (lv_at hl 0 rfl) ?_
  refine lv_iload hx hcd dL_law_1258 (lv_at hl 5 rfl) ?_
  refine lv_iconst (v := 1) hx hcd dL_law_1260 (by decide) ?_
  refine lv_iadd hx hcd dL_law_1261 ?_
  refine va_sld hx hcd hX hbl hbA hW.2.2.1 hin.2.1 dL_law_1262 ?_
  refine lv_aload_n hx hcd dL_law_1263 rfl (lv_at hl 0 rfl) ?_
  refine lv_iload hx hcd dL_law_1264 (lv_at hl 5 rfl) ?_
  refine lv_iconst (v := 2) hx hcd dL_law_1266 (by decide) ?_
  refine lv_iadd hx hcd dL_law_1267 ?_
  refine va_sld hx hcd hX hbl hbA hW.2.2.1 hin.2.2.1 dL_law_1268 ?_
  refine lv_aload_n hx hcd dL_law_1269 rfl (lv_at hl 3 rfl) ?_
  refine g_callL (j := 0) (As := [.ref (ad 0), .int (xs (i + 1).toNatClampNeg), .int (xs (i + 2).toNatClampNeg), .ref oa]) (rest := []) hC hKL hY hW rfl (c_L_lift l hfl D y ad (xs (i + 1).toNatClampNeg) (xs (i + 2).toNatClampNeg) σ _ cL oa f h1) ok_L_183 ⟨rfl, rfl, Nat.le_of_ble_eq_true rfl, Nat.le_of_ble_eq_true rfl⟩ rfl hl.1 rfl (Nat.le_of_ble_eq_true rfl) dL_law_1270 hcs (fun H locs hW => ?_)
  replace hW : g_W (fun q => s.heap.size ≤ q) s.heap D y ad (g_X2 cL cD oa od f1 fd) σ1 H locs := hW
  refine lv_istore (lv' := [(6, .int (σ2 132 8)), (0, .ref b), (1, .ref (ad 0)), (2, .ref (ad 132)), (3, .ref oa), (4, .ref od), (5, .int i)]) hx hcd dL_law_1273 hl (by decide) rfl (fun ls hl => ?_)
  refine lv_aload_n hx hcd dL_law_1275 rfl (lv_at hl 3 rfl) ?_
  refine lv_aload_n hx hcd dL_law_1276 rfl (lv_at hl 1 rfl) ?_
  refine lv_iload hx hcd dL_law_1277 (lv_at hl 6 rfl) ?_
  refine lv_iconst (v := 1) hx hcd dL_law_1279 (by decide) ?_
  refine lv_iadd hx hcd dL_law_1280 ?_
  refine va_sld hx hcd hX hbl hbA hW.2.2.1 hin.2.1 dL_law_1281 ?_
  refine lv_aload_n hx hcd dL_law_1282 rfl (lv_at hl 1 rfl) ?_
  refine lv_iload hx hcd dL_law_1283 (lv_at hl 6 rfl) ?_
  refine lv_iconst (v := 2) hx hcd dL_law_1285 (by decide) ?_
  refine lv_iadd hx hcd dL_law_1286 ?_
  refine va_sld hx hcd hX hbl hbA hW.2.2.1 hin.2.2.1 dL_law_1287 ?_
  refine g_calli hW (g_runV (i := 132) (As := [.int (xs (i + 1).toNatClampNeg), .int (xs (i + 2).toNatClampNeg)]) (rest := []) hC hW (c_X7_lift l D y ad (xs (i + 1).toNatClampNeg) (xs (i + 2).toNatClampNeg) σ1 _ h2) ok_L_185 ⟨rfl, rfl, Nat.le_of_ble_eq_true rfl, Nat.le_of_ble_eq_true rfl⟩ (by decide) rfl rfl rfl rfl hl.1 rfl (Nat.le_of_ble_eq_true rfl) dL_law_1288 hr1) (fun H locs hW => ?_)
  refine lv_istore (lv' := [(7, .int r), (6, .int (σ2 132 8)), (0, .ref b), (1, .ref (ad 0)), (2, .ref (ad 132)), (3, .ref oa), (4, .ref od), (5, .int i)]) hx hcd dL_law_1291 hl (by decide) rfl (fun ls hl => ?_)
  refine lv_aload_n hx hcd dL_law_1293 rfl (lv_at hl 4 rfl) ?_
  refine g_calli hW (g_runV (i := 132) (As := []) (rest := []) hC hW (c_X7_thrown l D y ad σ2 _ (show X7_thrown σ2 = some (σ2 132 8) from rfl)) ok_L_137 ⟨rfl, rfl, Nat.le_of_ble_eq_true rfl, Nat.le_of_ble_eq_true rfl⟩ (by decide) rfl rfl rfl rfl hl.1 rfl (Nat.le_of_ble_eq_true rfl) dL_law_1294 hr1) (fun H locs hW => ?_)
  refine lv_iload hx hcd dL_law_1297 (lv_at hl 1 rfl) ?_
  refine lv_icmp_eq (tgt := 1304) hx hcd dL_law_1299 (by decide) (fun _ => ?_) (fun c9 => absurd rfl c9)
  refine lv_iload hx hcd dL_law_1304 (lv_at hl 1 rfl) ?_
  refine lv_if_ne (tgt := 1321) hx hcd dL_law_1306 (by decide) (fun c8 => ?_) (fun c8 => ?_)
  · clear h4
    refine lv_goto (tgt := 2293) hx hcd dL_law_1321 (by decide) ?_
    exact kk _ _ _ (lv_sub hl [2, 3, 4, 5, 6, 7] rfl) hW
  · replace h4 := h4 c8
    refine lv_aload_n hx hcd dL_law_1309 rfl (lv_at hl 5 rfl) ?_
    refine lv_iconst (v := 0) hx hcd dL_law_1310 (by decide) ?_
    refine va_lald hx hcd hKL hW.1 143 0 g_X2_0 rfl (i := 0) (vp_in_nI (n := 0) (by omega) (by omega)) dL_law_1311 ?_
    refine lv_iload hx hcd dL_law_1312 (lv_at hl 0 rfl) ?_
    refine lv_i2l (v := r.toInt64) hx hcd dL_law_1314 rfl ?_
    refine W.lcmp hx hcd dL_law_1315 ?_
    refine lv_if_eq (tgt := 1321) hx hcd dL_law_1316 (by decide) (fun _ => ?_) (fun c9 => absurd ((lg_cmp_eq _ _).mpr h4) c9)
    refine lv_goto (tgt := 2293) hx hcd dL_law_1321 (by decide) ?_
    exact kk _ _ _ (lv_sub hl [2, 3, 4, 5, 6, 7] rfl) hW
set_option maxHeartbeats 4000000 in
set_option maxRecDepth 100000 in
theorem w_reason (hfl : l.stackTraces = false) (G : g_lw p s m c b L xs D y cL cD) (hl : lv_has ls 8 (g_ll b oa od ad i)) (hW : g_W (fun q => s.heap.size ≤ q) s.heap D y ad (g_X2 cL cD oa od f fd) σ H locs) (hin : vp_in i L ∧ vp_in (i + 1) L ∧ vp_in (i + 2) L ∧ vp_in (i + 3) L ∧ vp_in (i + 4) L) (hcs : cells + 1 ≤ 603072 ∧ slots + 6 ≤ 7186538) {k : Int32} {r : Int32} {f1 : Nat → Int64} {σ1 σ2 : gS} (h1 : L_reason σ f = some (k, f1, σ1)) (h2 : X7_reason σ1 = some (r, σ2)) (h3 : σ2 132 8 = k) (h4 : k = 0 → f1 0 = r.toInt64)
    (kk : ∀ (ls : Array Slot) (H : Heap) (locs : List Loc), lv_has ls 8 (g_ll b oa od ad i) → g_W (fun q => s.heap.size ≤ q) s.heap D y ad (g_X2 cL cD oa od f1 fd) σ2 H locs → W p l e room_1 s m #[Value.ref b] below meth c H locs (cells + 1) (slots + 6) Q (F0 m 2293 ls [])) : W p l e room_1 s m #[Value.ref b] below meth c H locs cells slots Q (F0 m 1324 ls []) := by
  obtain ⟨hC, hKL, hKD, hY, hX, hbl⟩ := G
  have hx := hC.1
  have hcd := hC.2.1
  have hbA : ¬ (s.heap.size ≤ b) := Nat.not_le.mpr hbl
  have hr1 : cells + 1 + 0 ≤ room_1.cells ∧ slots + 6 + 0 ≤ room_1.slots := ⟨hcs.1, hcs.2⟩
  obtain rfl := h3
  refine lv_aload_n hx hcd dL_law_1324 rfl (lv_at hl 1 rfl) ?_
  refine lv_aload_n hx hcd dL_law_1325 rfl (lv_at hl 3 rfl) ?_
  refine g_callL (j := 0) (As := [.ref (ad 0), .ref oa]) (rest := []) hC hKL hY hW rfl (c_L_reason l hfl D y ad σ _ cL oa f h1) ok_L_186 ⟨rfl, rfl, Nat.le_of_ble_eq_true rfl, Nat.le_of_ble_eq_true rfl⟩ rfl hl.1 rfl (Nat.le_of_ble_eq_true rfl) dL_law_1326 hcs (fun H locs hW => ?_)
  replace hW : g_W (fun q => s.heap.size ≤ q) s.heap D y ad (g_X2 cL cD oa od f1 fd) σ1 H locs := hW
  refine lv_istore (lv' := [(6, .int (σ2 132 8)), (0, .ref b), (1, .ref (ad 0)), (2, .ref (ad 132)), (3, .ref oa), (4, .ref od), (5, .int i)]) hx hcd dL_law_1329 hl (by decide) rfl (fun ls hl => ?_)
  refine lv_aload_n hx hcd dL_law_1331 rfl (lv_at hl 3 rfl) ?_
  refine g_calli hW (g_runV (i := 132) (As := []) (rest := []) hC hW (c_X7_reason l D y ad σ1 _ h2) ok_L_189 ⟨rfl, rfl, Nat.le_of_ble_eq_true rfl, Nat.le_of_ble_eq_true rfl⟩ (by decide) rfl rfl rfl rfl hl.1 rfl (Nat.le_of_ble_eq_true rfl) dL_law_1332 hr1) (fun H locs hW => ?_)
  refine lv_istore (lv' := [(7, .int r), (6, .int (σ2 132 8)), (0, .ref b), (1, .ref (ad 0)), (2, .ref (ad 132)), (3, .ref oa), (4, .ref od), (5, .int i)]) hx hcd dL_law_1335 hl (by decide) rfl (fun ls hl => ?_)
  refine lv_aload_n hx hcd dL_law_1337 rfl (lv_at hl 4 rfl) ?_
  refine g_calli hW (g_runV (i := 132) (As := []) (rest := []) hC hW (c_X7_thrown l D y ad σ2 _ (show X7_thrown σ2 = some (σ2 132 8) from rfl)) ok_L_137 ⟨rfl, rfl, Nat.le_of_ble_eq_true rfl, Nat.le_of_ble_eq_true rfl⟩ (by decide) rfl rfl rfl rfl hl.1 rfl (Nat.le_of_ble_eq_true rfl) dL_law_1338 hr1) (fun H locs hW => ?_)
  refine lv_iload hx hcd dL_law_1341 (lv_at hl 1 rfl) ?_
  refine lv_icmp_eq (tgt := 1348) hx hcd dL_law_1343 (by decide) (fun _ => ?_) (fun c9 => absurd rfl c9)
  refine lv_iload hx hcd dL_law_1348 (lv_at hl 1 rfl) ?_
  refine lv_if_ne (tgt := 1365) hx hcd dL_law_1350 (by decide) (fun c8 => ?_) (fun c8 => ?_)
  · clear h4
    refine lv_goto (tgt := 2293) hx hcd dL_law_1365 (by decide) ?_
    exact kk _ _ _ (lv_sub hl [2, 3, 4, 5, 6, 7] rfl) hW
  · replace h4 := h4 c8
    refine lv_aload_n hx hcd dL_law_1353 rfl (lv_at hl 5 rfl) ?_
    refine lv_iconst (v := 0) hx hcd dL_law_1354 (by decide) ?_
    refine va_lald hx hcd hKL hW.1 143 0 g_X2_0 rfl (i := 0) (vp_in_nI (n := 0) (by omega) (by omega)) dL_law_1355 ?_
    refine lv_iload hx hcd dL_law_1356 (lv_at hl 0 rfl) ?_
    refine lv_i2l (v := r.toInt64) hx hcd dL_law_1358 rfl ?_
    refine W.lcmp hx hcd dL_law_1359 ?_
    refine lv_if_eq (tgt := 1365) hx hcd dL_law_1360 (by decide) (fun _ => ?_) (fun c9 => absurd ((lg_cmp_eq _ _).mpr h4) c9)
    refine lv_goto (tgt := 2293) hx hcd dL_law_1365 (by decide) ?_
    exact kk _ _ _ (lv_sub hl [2, 3, 4, 5, 6, 7] rfl) hW
set_option maxHeartbeats 4000000 in
set_option maxRecDepth 100000 in
theorem w_tow (hfl : l.stackTraces = false) (G : g_lw p s m c b L xs D y cL cD) (hl : lv_has ls 8 (g_ll b oa od ad i)) (hW : g_W (fun q => s.heap.size ≤ q) s.heap D y ad (g_X2 cL cD oa od f fd) σ H locs) (hin : vp_in i L ∧ vp_in (i + 1) L ∧ vp_in (i + 2) L ∧ vp_in (i + 3) L ∧ vp_in (i + 4) L) (hcs : cells + 1 ≤ 603072 ∧ slots + 6 ≤ 7186538) {k : Int32} {r : Int32} {f1 : Nat → Int64} {σ1 σ2 : gS} (h1 : L_tow σ f (xs (i + 1).toNatClampNeg) (xs (i + 2).toNatClampNeg) = some (k, f1, σ1)) (h2 : X7_tow_ σ1 (xs (i + 1).toNatClampNeg) (xs (i + 2).toNatClampNeg) = some (r, σ2)) (h3 : σ2 132 8 = k) (h4 : k = 0 → f1 0 = r.toInt64)
    (kk : ∀ (ls : Array Slot) (H : Heap) (locs : List Loc), lv_has ls 8 (g_ll b oa od ad i) → g_W (fun q => s.heap.size ≤ q) s.heap D y ad (g_X2 cL cD oa od f1 fd) σ2 H locs → W p l e room_1 s m #[Value.ref b] below meth c H locs (cells + 1) (slots + 6) Q (F0 m 2293 ls [])) : W p l e room_1 s m #[Value.ref b] below meth c H locs cells slots Q (F0 m 1368 ls []) := by
  obtain ⟨hC, hKL, hKD, hY, hX, hbl⟩ := G
  have hx := hC.1
  have hcd := hC.2.1
  have hbA : ¬ (s.heap.size ≤ b) := Nat.not_le.mpr hbl
  have hr1 : cells + 1 + 0 ≤ room_1.cells ∧ slots + 6 + 0 ≤ room_1.slots := ⟨hcs.1, hcs.2⟩
  obtain rfl := h3
  refine lv_aload_n hx hcd dL_law_1368 rfl (lv_at hl 1 rfl) ?_
  refine lv_aload_n hx hcd dL_law_1369 rfl (lv_at hl 0 rfl) ?_
  refine lv_iload hx hcd dL_law_1370 (lv_at hl 5 rfl) ?_
  refine lv_iconst (v := 1) hx hcd dL_law_1372 (by decide) ?_
  refine lv_iadd hx hcd dL_law_1373 ?_
  refine va_sld hx hcd hX hbl hbA hW.2.2.1 hin.2.1 dL_law_1374 ?_
  refine lv_aload_n hx hcd dL_law_1375 rfl (lv_at hl 0 rfl) ?_
  refine lv_iload hx hcd dL_law_1376 (lv_at hl 5 rfl) ?_
  refine lv_iconst (v := 2) hx hcd dL_law_1378 (by decide) ?_
  refine lv_iadd hx hcd dL_law_1379 ?_
  refine va_sld hx hcd hX hbl hbA hW.2.2.1 hin.2.2.1 dL_law_1380 ?_
  refine lv_aload_n hx hcd dL_law_1381 rfl (lv_at hl 3 rfl) ?_
  refine g_callL (j := 0) (As := [.ref (ad 0), .int (xs (i + 1).toNatClampNeg), .int (xs (i + 2).toNatClampNeg), .ref oa]) (rest := []) hC hKL hY hW rfl (c_L_tow l hfl D y ad (xs (i + 1).toNatClampNeg) (xs (i + 2).toNatClampNeg) σ _ cL oa f h1) ok_L_190 ⟨rfl, rfl, Nat.le_of_ble_eq_true rfl, Nat.le_of_ble_eq_true rfl⟩ rfl hl.1 rfl (Nat.le_of_ble_eq_true rfl) dL_law_1382 hcs (fun H locs hW => ?_)
  replace hW : g_W (fun q => s.heap.size ≤ q) s.heap D y ad (g_X2 cL cD oa od f1 fd) σ1 H locs := hW
  refine lv_istore (lv' := [(6, .int (σ2 132 8)), (0, .ref b), (1, .ref (ad 0)), (2, .ref (ad 132)), (3, .ref oa), (4, .ref od), (5, .int i)]) hx hcd dL_law_1385 hl (by decide) rfl (fun ls hl => ?_)
  refine lv_aload_n hx hcd dL_law_1387 rfl (lv_at hl 3 rfl) ?_
  refine lv_aload_n hx hcd dL_law_1388 rfl (lv_at hl 1 rfl) ?_
  refine lv_iload hx hcd dL_law_1389 (lv_at hl 6 rfl) ?_
  refine lv_iconst (v := 1) hx hcd dL_law_1391 (by decide) ?_
  refine lv_iadd hx hcd dL_law_1392 ?_
  refine va_sld hx hcd hX hbl hbA hW.2.2.1 hin.2.1 dL_law_1393 ?_
  refine lv_aload_n hx hcd dL_law_1394 rfl (lv_at hl 1 rfl) ?_
  refine lv_iload hx hcd dL_law_1395 (lv_at hl 6 rfl) ?_
  refine lv_iconst (v := 2) hx hcd dL_law_1397 (by decide) ?_
  refine lv_iadd hx hcd dL_law_1398 ?_
  refine va_sld hx hcd hX hbl hbA hW.2.2.1 hin.2.2.1 dL_law_1399 ?_
  refine g_calli hW (g_runV (i := 132) (As := [.int (xs (i + 1).toNatClampNeg), .int (xs (i + 2).toNatClampNeg)]) (rest := []) hC hW (c_X7_tow_ l D y ad (xs (i + 1).toNatClampNeg) (xs (i + 2).toNatClampNeg) σ1 _ h2) ok_L_192 ⟨rfl, rfl, Nat.le_of_ble_eq_true rfl, Nat.le_of_ble_eq_true rfl⟩ (by decide) rfl rfl rfl rfl hl.1 rfl (Nat.le_of_ble_eq_true rfl) dL_law_1400 hr1) (fun H locs hW => ?_)
  refine lv_istore (lv' := [(7, .int r), (6, .int (σ2 132 8)), (0, .ref b), (1, .ref (ad 0)), (2, .ref (ad 132)), (3, .ref oa), (4, .ref od), (5, .int i)]) hx hcd dL_law_1403 hl (by decide) rfl (fun ls hl => ?_)
  refine lv_aload_n hx hcd dL_law_1405 rfl (lv_at hl 4 rfl) ?_
  refine g_calli hW (g_runV (i := 132) (As := []) (rest := []) hC hW (c_X7_thrown l D y ad σ2 _ (show X7_thrown σ2 = some (σ2 132 8) from rfl)) ok_L_137 ⟨rfl, rfl, Nat.le_of_ble_eq_true rfl, Nat.le_of_ble_eq_true rfl⟩ (by decide) rfl rfl rfl rfl hl.1 rfl (Nat.le_of_ble_eq_true rfl) dL_law_1406 hr1) (fun H locs hW => ?_)
  refine lv_iload hx hcd dL_law_1409 (lv_at hl 1 rfl) ?_
  refine lv_icmp_eq (tgt := 1416) hx hcd dL_law_1411 (by decide) (fun _ => ?_) (fun c9 => absurd rfl c9)
  refine lv_iload hx hcd dL_law_1416 (lv_at hl 1 rfl) ?_
  refine lv_if_ne (tgt := 1433) hx hcd dL_law_1418 (by decide) (fun c8 => ?_) (fun c8 => ?_)
  · clear h4
    refine lv_goto (tgt := 2293) hx hcd dL_law_1433 (by decide) ?_
    exact kk _ _ _ (lv_sub hl [2, 3, 4, 5, 6, 7] rfl) hW
  · replace h4 := h4 c8
    refine lv_aload_n hx hcd dL_law_1421 rfl (lv_at hl 5 rfl) ?_
    refine lv_iconst (v := 0) hx hcd dL_law_1422 (by decide) ?_
    refine va_lald hx hcd hKL hW.1 143 0 g_X2_0 rfl (i := 0) (vp_in_nI (n := 0) (by omega) (by omega)) dL_law_1423 ?_
    refine lv_iload hx hcd dL_law_1424 (lv_at hl 0 rfl) ?_
    refine lv_i2l (v := r.toInt64) hx hcd dL_law_1426 rfl ?_
    refine W.lcmp hx hcd dL_law_1427 ?_
    refine lv_if_eq (tgt := 1433) hx hcd dL_law_1428 (by decide) (fun _ => ?_) (fun c9 => absurd ((lg_cmp_eq _ _).mpr h4) c9)
    refine lv_goto (tgt := 2293) hx hcd dL_law_1433 (by decide) ?_
    exact kk _ _ _ (lv_sub hl [2, 3, 4, 5, 6, 7] rfl) hW
set_option maxHeartbeats 4000000 in
set_option maxRecDepth 100000 in
theorem w_untow (hfl : l.stackTraces = false) (G : g_lw p s m c b L xs D y cL cD) (hl : lv_has ls 8 (g_ll b oa od ad i)) (hW : g_W (fun q => s.heap.size ≤ q) s.heap D y ad (g_X2 cL cD oa od f fd) σ H locs) (hin : vp_in i L ∧ vp_in (i + 1) L ∧ vp_in (i + 2) L ∧ vp_in (i + 3) L ∧ vp_in (i + 4) L) (hcs : cells + 1 ≤ 603072 ∧ slots + 6 ≤ 7186538) {k : Int32} {r : Int32} {f1 : Nat → Int64} {σ1 σ2 : gS} (h1 : L_untow σ f (xs (i + 1).toNatClampNeg) = some (k, f1, σ1)) (h2 : X7_untow σ1 (xs (i + 1).toNatClampNeg) = some (r, σ2)) (h3 : σ2 132 8 = k) (h4 : k = 0 → f1 0 = r.toInt64)
    (kk : ∀ (ls : Array Slot) (H : Heap) (locs : List Loc), lv_has ls 8 (g_ll b oa od ad i) → g_W (fun q => s.heap.size ≤ q) s.heap D y ad (g_X2 cL cD oa od f1 fd) σ2 H locs → W p l e room_1 s m #[Value.ref b] below meth c H locs (cells + 1) (slots + 6) Q (F0 m 2293 ls [])) : W p l e room_1 s m #[Value.ref b] below meth c H locs cells slots Q (F0 m 1436 ls []) := by
  obtain ⟨hC, hKL, hKD, hY, hX, hbl⟩ := G
  have hx := hC.1
  have hcd := hC.2.1
  have hbA : ¬ (s.heap.size ≤ b) := Nat.not_le.mpr hbl
  have hr1 : cells + 1 + 0 ≤ room_1.cells ∧ slots + 6 + 0 ≤ room_1.slots := ⟨hcs.1, hcs.2⟩
  obtain rfl := h3
  refine lv_aload_n hx hcd dL_law_1436 rfl (lv_at hl 1 rfl) ?_
  refine lv_aload_n hx hcd dL_law_1437 rfl (lv_at hl 0 rfl) ?_
  refine lv_iload hx hcd dL_law_1438 (lv_at hl 5 rfl) ?_
  refine lv_iconst (v := 1) hx hcd dL_law_1440 (by decide) ?_
  refine lv_iadd hx hcd dL_law_1441 ?_
  refine va_sld hx hcd hX hbl hbA hW.2.2.1 hin.2.1 dL_law_1442 ?_
  refine lv_aload_n hx hcd dL_law_1443 rfl (lv_at hl 3 rfl) ?_
  refine g_callL (j := 0) (As := [.ref (ad 0), .int (xs (i + 1).toNatClampNeg), .ref oa]) (rest := []) hC hKL hY hW rfl (c_L_untow l hfl D y ad (xs (i + 1).toNatClampNeg) σ _ cL oa f h1) ok_L_193 ⟨rfl, rfl, Nat.le_of_ble_eq_true rfl, Nat.le_of_ble_eq_true rfl⟩ rfl hl.1 rfl (Nat.le_of_ble_eq_true rfl) dL_law_1444 hcs (fun H locs hW => ?_)
  replace hW : g_W (fun q => s.heap.size ≤ q) s.heap D y ad (g_X2 cL cD oa od f1 fd) σ1 H locs := hW
  refine lv_istore (lv' := [(6, .int (σ2 132 8)), (0, .ref b), (1, .ref (ad 0)), (2, .ref (ad 132)), (3, .ref oa), (4, .ref od), (5, .int i)]) hx hcd dL_law_1447 hl (by decide) rfl (fun ls hl => ?_)
  refine lv_aload_n hx hcd dL_law_1449 rfl (lv_at hl 3 rfl) ?_
  refine lv_aload_n hx hcd dL_law_1450 rfl (lv_at hl 1 rfl) ?_
  refine lv_iload hx hcd dL_law_1451 (lv_at hl 6 rfl) ?_
  refine lv_iconst (v := 1) hx hcd dL_law_1453 (by decide) ?_
  refine lv_iadd hx hcd dL_law_1454 ?_
  refine va_sld hx hcd hX hbl hbA hW.2.2.1 hin.2.1 dL_law_1455 ?_
  refine g_calli hW (g_runV (i := 132) (As := [.int (xs (i + 1).toNatClampNeg)]) (rest := []) hC hW (c_X7_untow l D y ad (xs (i + 1).toNatClampNeg) σ1 _ h2) ok_L_195 ⟨rfl, rfl, Nat.le_of_ble_eq_true rfl, Nat.le_of_ble_eq_true rfl⟩ (by decide) rfl rfl rfl rfl hl.1 rfl (Nat.le_of_ble_eq_true rfl) dL_law_1456 hr1) (fun H locs hW => ?_)
  refine lv_istore (lv' := [(7, .int r), (6, .int (σ2 132 8)), (0, .ref b), (1, .ref (ad 0)), (2, .ref (ad 132)), (3, .ref oa), (4, .ref od), (5, .int i)]) hx hcd dL_law_1459 hl (by decide) rfl (fun ls hl => ?_)
  refine lv_aload_n hx hcd dL_law_1461 rfl (lv_at hl 4 rfl) ?_
  refine g_calli hW (g_runV (i := 132) (As := []) (rest := []) hC hW (c_X7_thrown l D y ad σ2 _ (show X7_thrown σ2 = some (σ2 132 8) from rfl)) ok_L_137 ⟨rfl, rfl, Nat.le_of_ble_eq_true rfl, Nat.le_of_ble_eq_true rfl⟩ (by decide) rfl rfl rfl rfl hl.1 rfl (Nat.le_of_ble_eq_true rfl) dL_law_1462 hr1) (fun H locs hW => ?_)
  refine lv_iload hx hcd dL_law_1465 (lv_at hl 1 rfl) ?_
  refine lv_icmp_eq (tgt := 1472) hx hcd dL_law_1467 (by decide) (fun _ => ?_) (fun c9 => absurd rfl c9)
  refine lv_iload hx hcd dL_law_1472 (lv_at hl 1 rfl) ?_
  refine lv_if_ne (tgt := 1489) hx hcd dL_law_1474 (by decide) (fun c8 => ?_) (fun c8 => ?_)
  · clear h4
    refine lv_goto (tgt := 2293) hx hcd dL_law_1489 (by decide) ?_
    exact kk _ _ _ (lv_sub hl [2, 3, 4, 5, 6, 7] rfl) hW
  · replace h4 := h4 c8
    refine lv_aload_n hx hcd dL_law_1477 rfl (lv_at hl 5 rfl) ?_
    refine lv_iconst (v := 0) hx hcd dL_law_1478 (by decide) ?_
    refine va_lald hx hcd hKL hW.1 143 0 g_X2_0 rfl (i := 0) (vp_in_nI (n := 0) (by omega) (by omega)) dL_law_1479 ?_
    refine lv_iload hx hcd dL_law_1480 (lv_at hl 0 rfl) ?_
    refine lv_i2l (v := r.toInt64) hx hcd dL_law_1482 rfl ?_
    refine W.lcmp hx hcd dL_law_1483 ?_
    refine lv_if_eq (tgt := 1489) hx hcd dL_law_1484 (by decide) (fun _ => ?_) (fun c9 => absurd ((lg_cmp_eq _ _).mpr h4) c9)
    refine lv_goto (tgt := 2293) hx hcd dL_law_1489 (by decide) ?_
    exact kk _ _ _ (lv_sub hl [2, 3, 4, 5, 6, 7] rfl) hW
set_option maxHeartbeats 4000000 in
set_option maxRecDepth 100000 in
theorem w_delay (hfl : l.stackTraces = false) (G : g_lw p s m c b L xs D y cL cD) (hl : lv_has ls 8 (g_ll b oa od ad i)) (hW : g_W (fun q => s.heap.size ≤ q) s.heap D y ad (g_X2 cL cD oa od f fd) σ H locs) (hin : vp_in i L ∧ vp_in (i + 1) L ∧ vp_in (i + 2) L ∧ vp_in (i + 3) L ∧ vp_in (i + 4) L) (hcs : cells + 1 ≤ 603072 ∧ slots + 6 ≤ 7186538) {k : Int32} {r : Int32} {f1 : Nat → Int64} {σ1 σ2 : gS} (h1 : L_delay σ f (xs (i + 1).toNatClampNeg) (xs (i + 2).toNatClampNeg) = some (k, f1, σ1)) (h2 : X7_delay σ1 (xs (i + 1).toNatClampNeg) (xs (i + 2).toNatClampNeg) = some (r, σ2)) (h3 : σ2 132 8 = k) (h4 : k = 0 → f1 0 = r.toInt64)
    (kk : ∀ (ls : Array Slot) (H : Heap) (locs : List Loc), lv_has ls 8 (g_ll b oa od ad i) → g_W (fun q => s.heap.size ≤ q) s.heap D y ad (g_X2 cL cD oa od f1 fd) σ2 H locs → W p l e room_1 s m #[Value.ref b] below meth c H locs (cells + 1) (slots + 6) Q (F0 m 2293 ls [])) : W p l e room_1 s m #[Value.ref b] below meth c H locs cells slots Q (F0 m 1492 ls []) := by
  obtain ⟨hC, hKL, hKD, hY, hX, hbl⟩ := G
  have hx := hC.1
  have hcd := hC.2.1
  have hbA : ¬ (s.heap.size ≤ b) := Nat.not_le.mpr hbl
  have hr1 : cells + 1 + 0 ≤ room_1.cells ∧ slots + 6 + 0 ≤ room_1.slots := ⟨hcs.1, hcs.2⟩
  obtain rfl := h3
  refine lv_aload_n hx hcd dL_law_1492 rfl (lv_at hl 1 rfl) ?_
  refine lv_aload_n hx hcd dL_law_1493 rfl (lv_at hl 0 rfl) ?_
  refine lv_iload hx hcd dL_law_1494 (lv_at hl 5 rfl) ?_
  refine lv_iconst (v := 1) hx hcd dL_law_1496 (by decide) ?_
  refine lv_iadd hx hcd dL_law_1497 ?_
  refine va_sld hx hcd hX hbl hbA hW.2.2.1 hin.2.1 dL_law_1498 ?_
  refine lv_aload_n hx hcd dL_law_1499 rfl (lv_at hl 0 rfl) ?_
  refine lv_iload hx hcd dL_law_1500 (lv_at hl 5 rfl) ?_
  refine lv_iconst (v := 2) hx hcd dL_law_1502 (by decide) ?_
  refine lv_iadd hx hcd dL_law_1503 ?_
  refine va_sld hx hcd hX hbl hbA hW.2.2.1 hin.2.2.1 dL_law_1504 ?_
  refine lv_aload_n hx hcd dL_law_1505 rfl (lv_at hl 3 rfl) ?_
  refine g_callL (j := 0) (As := [.ref (ad 0), .int (xs (i + 1).toNatClampNeg), .int (xs (i + 2).toNatClampNeg), .ref oa]) (rest := []) hC hKL hY hW rfl (c_L_delay l hfl D y ad (xs (i + 1).toNatClampNeg) (xs (i + 2).toNatClampNeg) σ _ cL oa f h1) ok_L_196 ⟨rfl, rfl, Nat.le_of_ble_eq_true rfl, Nat.le_of_ble_eq_true rfl⟩ rfl hl.1 rfl (Nat.le_of_ble_eq_true rfl) dL_law_1506 hcs (fun H locs hW => ?_)
  replace hW : g_W (fun q => s.heap.size ≤ q) s.heap D y ad (g_X2 cL cD oa od f1 fd) σ1 H locs := hW
  refine lv_istore (lv' := [(6, .int (σ2 132 8)), (0, .ref b), (1, .ref (ad 0)), (2, .ref (ad 132)), (3, .ref oa), (4, .ref od), (5, .int i)]) hx hcd dL_law_1509 hl (by decide) rfl (fun ls hl => ?_)
  refine lv_aload_n hx hcd dL_law_1511 rfl (lv_at hl 3 rfl) ?_
  refine lv_aload_n hx hcd dL_law_1512 rfl (lv_at hl 1 rfl) ?_
  refine lv_iload hx hcd dL_law_1513 (lv_at hl 6 rfl) ?_
  refine lv_iconst (v := 1) hx hcd dL_law_1515 (by decide) ?_
  refine lv_iadd hx hcd dL_law_1516 ?_
  refine va_sld hx hcd hX hbl hbA hW.2.2.1 hin.2.1 dL_law_1517 ?_
  refine lv_aload_n hx hcd dL_law_1518 rfl (lv_at hl 1 rfl) ?_
  refine lv_iload hx hcd dL_law_1519 (lv_at hl 6 rfl) ?_
  refine lv_iconst (v := 2) hx hcd dL_law_1521 (by decide) ?_
  refine lv_iadd hx hcd dL_law_1522 ?_
  refine va_sld hx hcd hX hbl hbA hW.2.2.1 hin.2.2.1 dL_law_1523 ?_
  refine g_calli hW (g_runV (i := 132) (As := [.int (xs (i + 1).toNatClampNeg), .int (xs (i + 2).toNatClampNeg)]) (rest := []) hC hW (c_X7_delay l D y ad (xs (i + 1).toNatClampNeg) (xs (i + 2).toNatClampNeg) σ1 _ h2) ok_L_198 ⟨rfl, rfl, Nat.le_of_ble_eq_true rfl, Nat.le_of_ble_eq_true rfl⟩ (by decide) rfl rfl rfl rfl hl.1 rfl (Nat.le_of_ble_eq_true rfl) dL_law_1524 hr1) (fun H locs hW => ?_)
  refine lv_istore (lv' := [(7, .int r), (6, .int (σ2 132 8)), (0, .ref b), (1, .ref (ad 0)), (2, .ref (ad 132)), (3, .ref oa), (4, .ref od), (5, .int i)]) hx hcd dL_law_1527 hl (by decide) rfl (fun ls hl => ?_)
  refine lv_aload_n hx hcd dL_law_1529 rfl (lv_at hl 4 rfl) ?_
  refine g_calli hW (g_runV (i := 132) (As := []) (rest := []) hC hW (c_X7_thrown l D y ad σ2 _ (show X7_thrown σ2 = some (σ2 132 8) from rfl)) ok_L_137 ⟨rfl, rfl, Nat.le_of_ble_eq_true rfl, Nat.le_of_ble_eq_true rfl⟩ (by decide) rfl rfl rfl rfl hl.1 rfl (Nat.le_of_ble_eq_true rfl) dL_law_1530 hr1) (fun H locs hW => ?_)
  refine lv_iload hx hcd dL_law_1533 (lv_at hl 1 rfl) ?_
  refine lv_icmp_eq (tgt := 1540) hx hcd dL_law_1535 (by decide) (fun _ => ?_) (fun c9 => absurd rfl c9)
  refine lv_iload hx hcd dL_law_1540 (lv_at hl 1 rfl) ?_
  refine lv_if_ne (tgt := 1557) hx hcd dL_law_1542 (by decide) (fun c8 => ?_) (fun c8 => ?_)
  · clear h4
    refine lv_goto (tgt := 2293) hx hcd dL_law_1557 (by decide) ?_
    exact kk _ _ _ (lv_sub hl [2, 3, 4, 5, 6, 7] rfl) hW
  · replace h4 := h4 c8
    refine lv_aload_n hx hcd dL_law_1545 rfl (lv_at hl 5 rfl) ?_
    refine lv_iconst (v := 0) hx hcd dL_law_1546 (by decide) ?_
    refine va_lald hx hcd hKL hW.1 143 0 g_X2_0 rfl (i := 0) (vp_in_nI (n := 0) (by omega) (by omega)) dL_law_1547 ?_
    refine lv_iload hx hcd dL_law_1548 (lv_at hl 0 rfl) ?_
    refine lv_i2l (v := r.toInt64) hx hcd dL_law_1550 rfl ?_
    refine W.lcmp hx hcd dL_law_1551 ?_
    refine lv_if_eq (tgt := 1557) hx hcd dL_law_1552 (by decide) (fun _ => ?_) (fun c9 => absurd ((lg_cmp_eq _ _).mpr h4) c9)
    refine lv_goto (tgt := 2293) hx hcd dL_law_1557 (by decide) ?_
    exact kk _ _ _ (lv_sub hl [2, 3, 4, 5, 6, 7] rfl) hW
set_option maxHeartbeats 4000000 in
set_option maxRecDepth 100000 in
theorem w_assignAll (hfl : l.stackTraces = false) (G : g_lw p s m c b L xs D y cL cD) (hl : lv_has ls 8 (g_ll b oa od ad i)) (hW : g_W (fun q => s.heap.size ≤ q) s.heap D y ad (g_X2 cL cD oa od f fd) σ H locs) (hin : vp_in i L ∧ vp_in (i + 1) L ∧ vp_in (i + 2) L ∧ vp_in (i + 3) L ∧ vp_in (i + 4) L) (hcs : cells + 1 ≤ 603072 ∧ slots + 6 ≤ 7186538) {r : Int32} {σ1 σ2 : gS} (h1 : X6_assignAll σ = some (r, σ1)) (h2 : X7_assignAll σ1 = some (r, σ2))
    (kk : ∀ (ls : Array Slot) (H : Heap) (locs : List Loc), lv_has ls 8 (g_ll b oa od ad i) → g_W (fun q => s.heap.size ≤ q) s.heap D y ad (g_X2 cL cD oa od f fd) σ2 H locs → W p l e room_1 s m #[Value.ref b] below meth c H locs (cells + 1) (slots + 6) Q (F0 m 2293 ls [])) : W p l e room_1 s m #[Value.ref b] below meth c H locs cells slots Q (F0 m 1560 ls []) := by
  obtain ⟨hC, hKL, hKD, hY, hX, hbl⟩ := G
  have hx := hC.1
  have hcd := hC.2.1
  have hbA : ¬ (s.heap.size ≤ b) := Nat.not_le.mpr hbl
  have hr0 : cells + 0 ≤ room_1.cells ∧ slots + 0 ≤ room_1.slots := ⟨Nat.le_trans (Nat.le_add_right cells 1) hcs.1, Nat.le_trans (Nat.le_add_right slots 6) hcs.2⟩
  refine lv_aload_n hx hcd dL_law_1560 rfl (lv_at hl 1 rfl) ?_
  refine g_calli hW (g_runV (i := 0) (As := []) (rest := []) hC hW (c_X6_assignAll l D y ad σ _ h1) ok_L_199 ⟨rfl, rfl, Nat.le_of_ble_eq_true rfl, Nat.le_of_ble_eq_true rfl⟩ (by decide) rfl rfl rfl rfl hl.1 rfl (Nat.le_of_ble_eq_true rfl) dL_law_1561 hr0) (fun H locs hW => ?_)
  refine lv_aload_n hx hcd dL_law_1564 rfl (lv_at hl 2 rfl) ?_
  refine g_calli hW (g_runV (i := 132) (As := []) (rest := [.int r]) hC hW (c_X7_assignAll l D y ad σ1 _ h2) ok_L_202 ⟨rfl, rfl, Nat.le_of_ble_eq_true rfl, Nat.le_of_ble_eq_true rfl⟩ (by decide) rfl rfl rfl rfl hl.1 rfl (Nat.le_of_ble_eq_true rfl) dL_law_1565 hr0) (fun H locs hW => ?_)
  refine lv_icmp_eq (tgt := 2293) hx hcd dL_law_1568 (by decide) (fun _ => ?_) (fun c9 => absurd rfl c9)
  exact W.widen (Nat.le_add_right _ 1) (Nat.le_add_right _ 6) (kk _ _ _ (lv_sub hl [0, 1, 2, 3, 4, 5] rfl) hW)
set_option maxHeartbeats 4000000 in
set_option maxRecDepth 100000 in
theorem w_towGain (hfl : l.stackTraces = false) (G : g_lw p s m c b L xs D y cL cD) (hl : lv_has ls 8 (g_ll b oa od ad i)) (hW : g_W (fun q => s.heap.size ≤ q) s.heap D y ad (g_X2 cL cD oa od f fd) σ H locs) (hin : vp_in i L ∧ vp_in (i + 1) L ∧ vp_in (i + 2) L ∧ vp_in (i + 3) L ∧ vp_in (i + 4) L) (hcs : cells + 1 ≤ 603072 ∧ slots + 6 ≤ 7186538) {k : Int32} {r : Int32} {f1 : Nat → Int64} {σ1 σ2 : gS} (h1 : L_towGain σ f (xs (i + 1).toNatClampNeg) (xs (i + 2).toNatClampNeg) = some (k, f1, σ1)) (h2 : X7_towGain σ1 (xs (i + 1).toNatClampNeg) (xs (i + 2).toNatClampNeg) = some (r, σ2)) (h3 : σ2 132 8 = k) (h4 : k = 0 → f1 0 = r.toInt64)
    (kk : ∀ (ls : Array Slot) (H : Heap) (locs : List Loc), lv_has ls 8 (g_ll b oa od ad i) → g_W (fun q => s.heap.size ≤ q) s.heap D y ad (g_X2 cL cD oa od f1 fd) σ2 H locs → W p l e room_1 s m #[Value.ref b] below meth c H locs (cells + 1) (slots + 6) Q (F0 m 2293 ls [])) : W p l e room_1 s m #[Value.ref b] below meth c H locs cells slots Q (F0 m 1573 ls []) := by
  obtain ⟨hC, hKL, hKD, hY, hX, hbl⟩ := G
  have hx := hC.1
  have hcd := hC.2.1
  have hbA : ¬ (s.heap.size ≤ b) := Nat.not_le.mpr hbl
  have hr1 : cells + 1 + 0 ≤ room_1.cells ∧ slots + 6 + 0 ≤ room_1.slots := ⟨hcs.1, hcs.2⟩
  obtain rfl := h3
  refine lv_aload_n hx hcd dL_law_1573 rfl (lv_at hl 1 rfl) ?_
  refine lv_aload_n hx hcd dL_law_1574 rfl (lv_at hl 0 rfl) ?_
  refine lv_iload hx hcd dL_law_1575 (lv_at hl 5 rfl) ?_
  refine lv_iconst (v := 1) hx hcd dL_law_1577 (by decide) ?_
  refine lv_iadd hx hcd dL_law_1578 ?_
  refine va_sld hx hcd hX hbl hbA hW.2.2.1 hin.2.1 dL_law_1579 ?_
  refine lv_aload_n hx hcd dL_law_1580 rfl (lv_at hl 0 rfl) ?_
  refine lv_iload hx hcd dL_law_1581 (lv_at hl 5 rfl) ?_
  refine lv_iconst (v := 2) hx hcd dL_law_1583 (by decide) ?_
  refine lv_iadd hx hcd dL_law_1584 ?_
  refine va_sld hx hcd hX hbl hbA hW.2.2.1 hin.2.2.1 dL_law_1585 ?_
  refine lv_aload_n hx hcd dL_law_1586 rfl (lv_at hl 3 rfl) ?_
  refine g_callL (j := 0) (As := [.ref (ad 0), .int (xs (i + 1).toNatClampNeg), .int (xs (i + 2).toNatClampNeg), .ref oa]) (rest := []) hC hKL hY hW rfl (c_L_towGain l hfl D y ad (xs (i + 1).toNatClampNeg) (xs (i + 2).toNatClampNeg) σ _ cL oa f h1) ok_L_203 ⟨rfl, rfl, Nat.le_of_ble_eq_true rfl, Nat.le_of_ble_eq_true rfl⟩ rfl hl.1 rfl (Nat.le_of_ble_eq_true rfl) dL_law_1587 hcs (fun H locs hW => ?_)
  replace hW : g_W (fun q => s.heap.size ≤ q) s.heap D y ad (g_X2 cL cD oa od f1 fd) σ1 H locs := hW
  refine lv_istore (lv' := [(6, .int (σ2 132 8)), (0, .ref b), (1, .ref (ad 0)), (2, .ref (ad 132)), (3, .ref oa), (4, .ref od), (5, .int i)]) hx hcd dL_law_1590 hl (by decide) rfl (fun ls hl => ?_)
  refine lv_aload_n hx hcd dL_law_1592 rfl (lv_at hl 3 rfl) ?_
  refine lv_aload_n hx hcd dL_law_1593 rfl (lv_at hl 1 rfl) ?_
  refine lv_iload hx hcd dL_law_1594 (lv_at hl 6 rfl) ?_
  refine lv_iconst (v := 1) hx hcd dL_law_1596 (by decide) ?_
  refine lv_iadd hx hcd dL_law_1597 ?_
  refine va_sld hx hcd hX hbl hbA hW.2.2.1 hin.2.1 dL_law_1598 ?_
  refine lv_aload_n hx hcd dL_law_1599 rfl (lv_at hl 1 rfl) ?_
  refine lv_iload hx hcd dL_law_1600 (lv_at hl 6 rfl) ?_
  refine lv_iconst (v := 2) hx hcd dL_law_1602 (by decide) ?_
  refine lv_iadd hx hcd dL_law_1603 ?_
  refine va_sld hx hcd hX hbl hbA hW.2.2.1 hin.2.2.1 dL_law_1604 ?_
  refine g_calli hW (g_runV (i := 132) (As := [.int (xs (i + 1).toNatClampNeg), .int (xs (i + 2).toNatClampNeg)]) (rest := []) hC hW (c_X7_towGain l D y ad (xs (i + 1).toNatClampNeg) (xs (i + 2).toNatClampNeg) σ1 _ h2) ok_L_205 ⟨rfl, rfl, Nat.le_of_ble_eq_true rfl, Nat.le_of_ble_eq_true rfl⟩ (by decide) rfl rfl rfl rfl hl.1 rfl (Nat.le_of_ble_eq_true rfl) dL_law_1605 hr1) (fun H locs hW => ?_)
  refine lv_istore (lv' := [(7, .int r), (6, .int (σ2 132 8)), (0, .ref b), (1, .ref (ad 0)), (2, .ref (ad 132)), (3, .ref oa), (4, .ref od), (5, .int i)]) hx hcd dL_law_1608 hl (by decide) rfl (fun ls hl => ?_)
  refine lv_aload_n hx hcd dL_law_1610 rfl (lv_at hl 4 rfl) ?_
  refine g_calli hW (g_runV (i := 132) (As := []) (rest := []) hC hW (c_X7_thrown l D y ad σ2 _ (show X7_thrown σ2 = some (σ2 132 8) from rfl)) ok_L_137 ⟨rfl, rfl, Nat.le_of_ble_eq_true rfl, Nat.le_of_ble_eq_true rfl⟩ (by decide) rfl rfl rfl rfl hl.1 rfl (Nat.le_of_ble_eq_true rfl) dL_law_1611 hr1) (fun H locs hW => ?_)
  refine lv_iload hx hcd dL_law_1614 (lv_at hl 1 rfl) ?_
  refine lv_icmp_eq (tgt := 1621) hx hcd dL_law_1616 (by decide) (fun _ => ?_) (fun c9 => absurd rfl c9)
  refine lv_iload hx hcd dL_law_1621 (lv_at hl 1 rfl) ?_
  refine lv_if_ne (tgt := 1638) hx hcd dL_law_1623 (by decide) (fun c8 => ?_) (fun c8 => ?_)
  · clear h4
    refine lv_goto (tgt := 2293) hx hcd dL_law_1638 (by decide) ?_
    exact kk _ _ _ (lv_sub hl [2, 3, 4, 5, 6, 7] rfl) hW
  · replace h4 := h4 c8
    refine lv_aload_n hx hcd dL_law_1626 rfl (lv_at hl 5 rfl) ?_
    refine lv_iconst (v := 0) hx hcd dL_law_1627 (by decide) ?_
    refine va_lald hx hcd hKL hW.1 143 0 g_X2_0 rfl (i := 0) (vp_in_nI (n := 0) (by omega) (by omega)) dL_law_1628 ?_
    refine lv_iload hx hcd dL_law_1629 (lv_at hl 0 rfl) ?_
    refine lv_i2l (v := r.toInt64) hx hcd dL_law_1631 rfl ?_
    refine W.lcmp hx hcd dL_law_1632 ?_
    refine lv_if_eq (tgt := 1638) hx hcd dL_law_1633 (by decide) (fun _ => ?_) (fun c9 => absurd ((lg_cmp_eq _ _).mpr h4) c9)
    refine lv_goto (tgt := 2293) hx hcd dL_law_1638 (by decide) ?_
    exact kk _ _ _ (lv_sub hl [2, 3, 4, 5, 6, 7] rfl) hW
set_option maxHeartbeats 4000000 in
set_option maxRecDepth 100000 in
theorem w_leastMoves (hfl : l.stackTraces = false) (G : g_lw p s m c b L xs D y cL cD) (hl : lv_has ls 8 (g_ll b oa od ad i)) (hW : g_W (fun q => s.heap.size ≤ q) s.heap D y ad (g_X2 cL cD oa od f fd) σ H locs) (hin : vp_in i L ∧ vp_in (i + 1) L ∧ vp_in (i + 2) L ∧ vp_in (i + 3) L ∧ vp_in (i + 4) L) (hcs : cells + 1 ≤ 603072 ∧ slots + 6 ≤ 7186538) {k : Int32} {r : Int32} {f1 : Nat → Int64} {σ1 σ2 : gS} (h1 : L_leastMoves σ f = some (k, f1, σ1)) (h2 : X7_leastMoves σ1 = some (r, σ2)) (h3 : σ2 132 8 = k) (h4 : k = 0 → f1 0 = r.toInt64)
    (kk : ∀ (ls : Array Slot) (H : Heap) (locs : List Loc), lv_has ls 8 (g_ll b oa od ad i) → g_W (fun q => s.heap.size ≤ q) s.heap D y ad (g_X2 cL cD oa od f1 fd) σ2 H locs → W p l e room_1 s m #[Value.ref b] below meth c H locs (cells + 1) (slots + 6) Q (F0 m 2293 ls [])) : W p l e room_1 s m #[Value.ref b] below meth c H locs cells slots Q (F0 m 1641 ls []) := by
  obtain ⟨hC, hKL, hKD, hY, hX, hbl⟩ := G
  have hx := hC.1
  have hcd := hC.2.1
  have hbA : ¬ (s.heap.size ≤ b) := Nat.not_le.mpr hbl
  have hr1 : cells + 1 + 0 ≤ room_1.cells ∧ slots + 6 + 0 ≤ room_1.slots := ⟨hcs.1, hcs.2⟩
  obtain rfl := h3
  refine lv_aload_n hx hcd dL_law_1641 rfl (lv_at hl 1 rfl) ?_
  refine lv_aload_n hx hcd dL_law_1642 rfl (lv_at hl 3 rfl) ?_
  refine g_callL (j := 0) (As := [.ref (ad 0), .ref oa]) (rest := []) hC hKL hY hW rfl (c_L_leastMoves l hfl D y ad σ _ cL oa f h1) ok_L_206 ⟨rfl, rfl, Nat.le_of_ble_eq_true rfl, Nat.le_of_ble_eq_true rfl⟩ rfl hl.1 rfl (Nat.le_of_ble_eq_true rfl) dL_law_1643 hcs (fun H locs hW => ?_)
  replace hW : g_W (fun q => s.heap.size ≤ q) s.heap D y ad (g_X2 cL cD oa od f1 fd) σ1 H locs := hW
  refine lv_istore (lv' := [(6, .int (σ2 132 8)), (0, .ref b), (1, .ref (ad 0)), (2, .ref (ad 132)), (3, .ref oa), (4, .ref od), (5, .int i)]) hx hcd dL_law_1646 hl (by decide) rfl (fun ls hl => ?_)
  refine lv_aload_n hx hcd dL_law_1648 rfl (lv_at hl 3 rfl) ?_
  refine g_calli hW (g_runV (i := 132) (As := []) (rest := []) hC hW (c_X7_leastMoves l D y ad σ1 _ h2) ok_L_208 ⟨rfl, rfl, Nat.le_of_ble_eq_true rfl, Nat.le_of_ble_eq_true rfl⟩ (by decide) rfl rfl rfl rfl hl.1 rfl (Nat.le_of_ble_eq_true rfl) dL_law_1649 hr1) (fun H locs hW => ?_)
  refine lv_istore (lv' := [(7, .int r), (6, .int (σ2 132 8)), (0, .ref b), (1, .ref (ad 0)), (2, .ref (ad 132)), (3, .ref oa), (4, .ref od), (5, .int i)]) hx hcd dL_law_1652 hl (by decide) rfl (fun ls hl => ?_)
  refine lv_aload_n hx hcd dL_law_1654 rfl (lv_at hl 4 rfl) ?_
  refine g_calli hW (g_runV (i := 132) (As := []) (rest := []) hC hW (c_X7_thrown l D y ad σ2 _ (show X7_thrown σ2 = some (σ2 132 8) from rfl)) ok_L_137 ⟨rfl, rfl, Nat.le_of_ble_eq_true rfl, Nat.le_of_ble_eq_true rfl⟩ (by decide) rfl rfl rfl rfl hl.1 rfl (Nat.le_of_ble_eq_true rfl) dL_law_1655 hr1) (fun H locs hW => ?_)
  refine lv_iload hx hcd dL_law_1658 (lv_at hl 1 rfl) ?_
  refine lv_icmp_eq (tgt := 1665) hx hcd dL_law_1660 (by decide) (fun _ => ?_) (fun c9 => absurd rfl c9)
  refine lv_iload hx hcd dL_law_1665 (lv_at hl 1 rfl) ?_
  refine lv_if_ne (tgt := 1682) hx hcd dL_law_1667 (by decide) (fun c8 => ?_) (fun c8 => ?_)
  · clear h4
    refine lv_goto (tgt := 2293) hx hcd dL_law_1682 (by decide) ?_
    exact kk _ _ _ (lv_sub hl [2, 3, 4, 5, 6, 7] rfl) hW
  · replace h4 := h4 c8
    refine lv_aload_n hx hcd dL_law_1670 rfl (lv_at hl 5 rfl) ?_
    refine lv_iconst (v := 0) hx hcd dL_law_1671 (by decide) ?_
    refine va_lald hx hcd hKL hW.1 143 0 g_X2_0 rfl (i := 0) (vp_in_nI (n := 0) (by omega) (by omega)) dL_law_1672 ?_
    refine lv_iload hx hcd dL_law_1673 (lv_at hl 0 rfl) ?_
    refine lv_i2l (v := r.toInt64) hx hcd dL_law_1675 rfl ?_
    refine W.lcmp hx hcd dL_law_1676 ?_
    refine lv_if_eq (tgt := 1682) hx hcd dL_law_1677 (by decide) (fun _ => ?_) (fun c9 => absurd ((lg_cmp_eq _ _).mpr h4) c9)
    refine lv_goto (tgt := 2293) hx hcd dL_law_1682 (by decide) ?_
    exact kk _ _ _ (lv_sub hl [2, 3, 4, 5, 6, 7] rfl) hW
set_option maxHeartbeats 4000000 in
set_option maxRecDepth 100000 in
theorem w_leastAgain (hfl : l.stackTraces = false) (G : g_lw p s m c b L xs D y cL cD) (hl : lv_has ls 8 (g_ll b oa od ad i)) (hW : g_W (fun q => s.heap.size ≤ q) s.heap D y ad (g_X2 cL cD oa od f fd) σ H locs) (hin : vp_in i L ∧ vp_in (i + 1) L ∧ vp_in (i + 2) L ∧ vp_in (i + 3) L ∧ vp_in (i + 4) L) (hcs : cells + 1 ≤ 603072 ∧ slots + 6 ≤ 7186538) {k : Int32} {r : Int32} {f1 : Nat → Int64} {σ1 σ2 : gS} (h1 : L_leastAgain σ f = some (k, f1, σ1)) (h2 : X7_leastAgain σ1 = some (r, σ2)) (h3 : σ2 132 8 = k) (h4 : k = 0 → f1 0 = r.toInt64)
    (kk : ∀ (ls : Array Slot) (H : Heap) (locs : List Loc), lv_has ls 8 (g_ll b oa od ad i) → g_W (fun q => s.heap.size ≤ q) s.heap D y ad (g_X2 cL cD oa od f1 fd) σ2 H locs → W p l e room_1 s m #[Value.ref b] below meth c H locs (cells + 1) (slots + 6) Q (F0 m 2293 ls [])) : W p l e room_1 s m #[Value.ref b] below meth c H locs cells slots Q (F0 m 1685 ls []) := by
  obtain ⟨hC, hKL, hKD, hY, hX, hbl⟩ := G
  have hx := hC.1
  have hcd := hC.2.1
  have hbA : ¬ (s.heap.size ≤ b) := Nat.not_le.mpr hbl
  have hr1 : cells + 1 + 0 ≤ room_1.cells ∧ slots + 6 + 0 ≤ room_1.slots := ⟨hcs.1, hcs.2⟩
  obtain rfl := h3
  refine lv_aload_n hx hcd dL_law_1685 rfl (lv_at hl 1 rfl) ?_
  refine lv_aload_n hx hcd dL_law_1686 rfl (lv_at hl 3 rfl) ?_
  refine g_callL (j := 0) (As := [.ref (ad 0), .ref oa]) (rest := []) hC hKL hY hW rfl (c_L_leastAgain l hfl D y ad σ _ cL oa f h1) ok_L_209 ⟨rfl, rfl, Nat.le_of_ble_eq_true rfl, Nat.le_of_ble_eq_true rfl⟩ rfl hl.1 rfl (Nat.le_of_ble_eq_true rfl) dL_law_1687 hcs (fun H locs hW => ?_)
  replace hW : g_W (fun q => s.heap.size ≤ q) s.heap D y ad (g_X2 cL cD oa od f1 fd) σ1 H locs := hW
  refine lv_istore (lv' := [(6, .int (σ2 132 8)), (0, .ref b), (1, .ref (ad 0)), (2, .ref (ad 132)), (3, .ref oa), (4, .ref od), (5, .int i)]) hx hcd dL_law_1690 hl (by decide) rfl (fun ls hl => ?_)
  refine lv_aload_n hx hcd dL_law_1692 rfl (lv_at hl 3 rfl) ?_
  refine g_calli hW (g_runV (i := 132) (As := []) (rest := []) hC hW (c_X7_leastAgain l D y ad σ1 _ h2) ok_L_211 ⟨rfl, rfl, Nat.le_of_ble_eq_true rfl, Nat.le_of_ble_eq_true rfl⟩ (by decide) rfl rfl rfl rfl hl.1 rfl (Nat.le_of_ble_eq_true rfl) dL_law_1693 hr1) (fun H locs hW => ?_)
  refine lv_istore (lv' := [(7, .int r), (6, .int (σ2 132 8)), (0, .ref b), (1, .ref (ad 0)), (2, .ref (ad 132)), (3, .ref oa), (4, .ref od), (5, .int i)]) hx hcd dL_law_1696 hl (by decide) rfl (fun ls hl => ?_)
  refine lv_aload_n hx hcd dL_law_1698 rfl (lv_at hl 4 rfl) ?_
  refine g_calli hW (g_runV (i := 132) (As := []) (rest := []) hC hW (c_X7_thrown l D y ad σ2 _ (show X7_thrown σ2 = some (σ2 132 8) from rfl)) ok_L_137 ⟨rfl, rfl, Nat.le_of_ble_eq_true rfl, Nat.le_of_ble_eq_true rfl⟩ (by decide) rfl rfl rfl rfl hl.1 rfl (Nat.le_of_ble_eq_true rfl) dL_law_1699 hr1) (fun H locs hW => ?_)
  refine lv_iload hx hcd dL_law_1702 (lv_at hl 1 rfl) ?_
  refine lv_icmp_eq (tgt := 1709) hx hcd dL_law_1704 (by decide) (fun _ => ?_) (fun c9 => absurd rfl c9)
  refine lv_iload hx hcd dL_law_1709 (lv_at hl 1 rfl) ?_
  refine lv_if_ne (tgt := 1726) hx hcd dL_law_1711 (by decide) (fun c8 => ?_) (fun c8 => ?_)
  · clear h4
    refine lv_goto (tgt := 2293) hx hcd dL_law_1726 (by decide) ?_
    exact kk _ _ _ (lv_sub hl [2, 3, 4, 5, 6, 7] rfl) hW
  · replace h4 := h4 c8
    refine lv_aload_n hx hcd dL_law_1714 rfl (lv_at hl 5 rfl) ?_
    refine lv_iconst (v := 0) hx hcd dL_law_1715 (by decide) ?_
    refine va_lald hx hcd hKL hW.1 143 0 g_X2_0 rfl (i := 0) (vp_in_nI (n := 0) (by omega) (by omega)) dL_law_1716 ?_
    refine lv_iload hx hcd dL_law_1717 (lv_at hl 0 rfl) ?_
    refine lv_i2l (v := r.toInt64) hx hcd dL_law_1719 rfl ?_
    refine W.lcmp hx hcd dL_law_1720 ?_
    refine lv_if_eq (tgt := 1726) hx hcd dL_law_1721 (by decide) (fun _ => ?_) (fun c9 => absurd ((lg_cmp_eq _ _).mpr h4) c9)
    refine lv_goto (tgt := 2293) hx hcd dL_law_1726 (by decide) ?_
    exact kk _ _ _ (lv_sub hl [2, 3, 4, 5, 6, 7] rfl) hW
set_option maxHeartbeats 4000000 in
set_option maxRecDepth 100000 in
theorem w_moveOf (hfl : l.stackTraces = false) (G : g_lw p s m c b L xs D y cL cD) (hl : lv_has ls 8 (g_ll b oa od ad i)) (hW : g_W (fun q => s.heap.size ≤ q) s.heap D y ad (g_X2 cL cD oa od f fd) σ H locs) (hin : vp_in i L ∧ vp_in (i + 1) L ∧ vp_in (i + 2) L ∧ vp_in (i + 3) L ∧ vp_in (i + 4) L) (hcs : cells + 1 ≤ 603072 ∧ slots + 6 ≤ 7186538) {k : Int32} {r : Int32} {f1 : Nat → Int64} {σ1 σ2 : gS} (h1 : L_moveOf σ f (xs (i + 1).toNatClampNeg) (bx (xs (i + 2).toNatClampNeg)) = some (k, f1, σ1)) (h2 : X7_moveOf σ1 (xs (i + 1).toNatClampNeg) (bx (xs (i + 2).toNatClampNeg)) = some (r, σ2)) (h3 : σ2 132 8 = k) (h4 : k = 0 → f1 0 = r.toInt64)
    (kk : ∀ (ls : Array Slot) (H : Heap) (locs : List Loc), lv_has ls 8 (g_ll b oa od ad i) → g_W (fun q => s.heap.size ≤ q) s.heap D y ad (g_X2 cL cD oa od f1 fd) σ2 H locs → W p l e room_1 s m #[Value.ref b] below meth c H locs (cells + 1) (slots + 6) Q (F0 m 2293 ls [])) : W p l e room_1 s m #[Value.ref b] below meth c H locs cells slots Q (F0 m 1729 ls []) := by
  obtain ⟨hC, hKL, hKD, hY, hX, hbl⟩ := G
  have hx := hC.1
  have hcd := hC.2.1
  have hbA : ¬ (s.heap.size ≤ b) := Nat.not_le.mpr hbl
  have hr1 : cells + 1 + 0 ≤ room_1.cells ∧ slots + 6 + 0 ≤ room_1.slots := ⟨hcs.1, hcs.2⟩
  obtain rfl := h3
  refine lv_aload_n hx hcd dL_law_1729 rfl (lv_at hl 1 rfl) ?_
  refine lv_aload_n hx hcd dL_law_1730 rfl (lv_at hl 0 rfl) ?_
  refine lv_iload hx hcd dL_law_1731 (lv_at hl 5 rfl) ?_
  refine lv_iconst (v := 1) hx hcd dL_law_1733 (by decide) ?_
  refine lv_iadd hx hcd dL_law_1734 ?_
  refine va_sld hx hcd hX hbl hbA hW.2.2.1 hin.2.1 dL_law_1735 ?_
  refine lv_aload_n hx hcd dL_law_1736 rfl (lv_at hl 0 rfl) ?_
  refine lv_iload hx hcd dL_law_1737 (lv_at hl 5 rfl) ?_
  refine lv_iconst (v := 2) hx hcd dL_law_1739 (by decide) ?_
  refine lv_iadd hx hcd dL_law_1740 ?_
  refine va_sld hx hcd hX hbl hbA hW.2.2.1 hin.2.2.1 dL_law_1741 ?_
  refine lv_if_eq (tgt := 1749) hx hcd dL_law_1742 (by decide) (fun c1742 => ?_) (fun c1742 => ?_)
  · rw [show bx (xs (i + 2).toNatClampNeg) = 0 from if_pos c1742] at h1 h2
    refine lv_iconst (v := 0) hx hcd dL_law_1749 (by decide) ?_
    refine lv_aload_n hx hcd dL_law_1750 rfl (lv_at hl 3 rfl) ?_
    refine g_callL (j := 0) (As := [.ref (ad 0), .int (xs (i + 1).toNatClampNeg), .int 0, .ref oa]) (rest := []) hC hKL hY hW rfl (c_L_moveOf l hfl D y ad (xs (i + 1).toNatClampNeg) 0 σ _ cL oa f h1) ok_L_212 ⟨rfl, rfl, Nat.le_of_ble_eq_true rfl, Nat.le_of_ble_eq_true rfl⟩ rfl hl.1 rfl (Nat.le_of_ble_eq_true rfl) dL_law_1751 hcs (fun H locs hW => ?_)
    replace hW : g_W (fun q => s.heap.size ≤ q) s.heap D y ad (g_X2 cL cD oa od f1 fd) σ1 H locs := hW
    refine lv_istore (lv' := [(6, .int (σ2 132 8)), (0, .ref b), (1, .ref (ad 0)), (2, .ref (ad 132)), (3, .ref oa), (4, .ref od), (5, .int i)]) hx hcd dL_law_1754 hl (by decide) rfl (fun ls hl => ?_)
    refine lv_aload_n hx hcd dL_law_1756 rfl (lv_at hl 3 rfl) ?_
    refine lv_aload_n hx hcd dL_law_1757 rfl (lv_at hl 1 rfl) ?_
    refine lv_iload hx hcd dL_law_1758 (lv_at hl 6 rfl) ?_
    refine lv_iconst (v := 1) hx hcd dL_law_1760 (by decide) ?_
    refine lv_iadd hx hcd dL_law_1761 ?_
    refine va_sld hx hcd hX hbl hbA hW.2.2.1 hin.2.1 dL_law_1762 ?_
    refine lv_aload_n hx hcd dL_law_1763 rfl (lv_at hl 1 rfl) ?_
    refine lv_iload hx hcd dL_law_1764 (lv_at hl 6 rfl) ?_
    refine lv_iconst (v := 2) hx hcd dL_law_1766 (by decide) ?_
    refine lv_iadd hx hcd dL_law_1767 ?_
    refine va_sld hx hcd hX hbl hbA hW.2.2.1 hin.2.2.1 dL_law_1768 ?_
    refine lv_if_eq (tgt := 1776) hx hcd dL_law_1769 (by decide) (fun _ => ?_) (fun c9 => absurd c1742 c9)
    refine lv_iconst (v := 0) hx hcd dL_law_1776 (by decide) ?_
    refine g_calli hW (g_runV (i := 132) (As := [.int (xs (i + 1).toNatClampNeg), .int 0]) (rest := []) hC hW (c_X7_moveOf l D y ad (xs (i + 1).toNatClampNeg) 0 σ1 _ h2) ok_L_214 ⟨rfl, rfl, Nat.le_of_ble_eq_true rfl, Nat.le_of_ble_eq_true rfl⟩ (by decide) rfl rfl rfl rfl hl.1 rfl (Nat.le_of_ble_eq_true rfl) dL_law_1777 hr1) (fun H locs hW => ?_)
    refine lv_istore (lv' := [(7, .int r), (6, .int (σ2 132 8)), (0, .ref b), (1, .ref (ad 0)), (2, .ref (ad 132)), (3, .ref oa), (4, .ref od), (5, .int i)]) hx hcd dL_law_1780 hl (by decide) rfl (fun ls hl => ?_)
    refine lv_aload_n hx hcd dL_law_1782 rfl (lv_at hl 4 rfl) ?_
    refine g_calli hW (g_runV (i := 132) (As := []) (rest := []) hC hW (c_X7_thrown l D y ad σ2 _ (show X7_thrown σ2 = some (σ2 132 8) from rfl)) ok_L_137 ⟨rfl, rfl, Nat.le_of_ble_eq_true rfl, Nat.le_of_ble_eq_true rfl⟩ (by decide) rfl rfl rfl rfl hl.1 rfl (Nat.le_of_ble_eq_true rfl) dL_law_1783 hr1) (fun H locs hW => ?_)
    refine lv_iload hx hcd dL_law_1786 (lv_at hl 1 rfl) ?_
    refine lv_icmp_eq (tgt := 1793) hx hcd dL_law_1788 (by decide) (fun _ => ?_) (fun c9 => absurd rfl c9)
    refine lv_iload hx hcd dL_law_1793 (lv_at hl 1 rfl) ?_
    refine lv_if_ne (tgt := 1810) hx hcd dL_law_1795 (by decide) (fun c8 => ?_) (fun c8 => ?_)
    · clear h4
      refine lv_goto (tgt := 2293) hx hcd dL_law_1810 (by decide) ?_
      exact kk _ _ _ (lv_sub hl [2, 3, 4, 5, 6, 7] rfl) hW
    · replace h4 := h4 c8
      refine lv_aload_n hx hcd dL_law_1798 rfl (lv_at hl 5 rfl) ?_
      refine lv_iconst (v := 0) hx hcd dL_law_1799 (by decide) ?_
      refine va_lald hx hcd hKL hW.1 143 0 g_X2_0 rfl (i := 0) (vp_in_nI (n := 0) (by omega) (by omega)) dL_law_1800 ?_
      refine lv_iload hx hcd dL_law_1801 (lv_at hl 0 rfl) ?_
      refine lv_i2l (v := r.toInt64) hx hcd dL_law_1803 rfl ?_
      refine W.lcmp hx hcd dL_law_1804 ?_
      refine lv_if_eq (tgt := 1810) hx hcd dL_law_1805 (by decide) (fun _ => ?_) (fun c9 => absurd ((lg_cmp_eq _ _).mpr h4) c9)
      refine lv_goto (tgt := 2293) hx hcd dL_law_1810 (by decide) ?_
      exact kk _ _ _ (lv_sub hl [2, 3, 4, 5, 6, 7] rfl) hW
  · rw [show bx (xs (i + 2).toNatClampNeg) = 1 from if_neg c1742] at h1 h2
    refine lv_iconst (v := 1) hx hcd dL_law_1745 (by decide) ?_
    refine lv_goto (tgt := 1750) hx hcd dL_law_1746 (by decide) ?_
    refine lv_aload_n hx hcd dL_law_1750 rfl (lv_at hl 3 rfl) ?_
    refine g_callL (j := 0) (As := [.ref (ad 0), .int (xs (i + 1).toNatClampNeg), .int 1, .ref oa]) (rest := []) hC hKL hY hW rfl (c_L_moveOf l hfl D y ad (xs (i + 1).toNatClampNeg) 1 σ _ cL oa f h1) ok_L_212 ⟨rfl, rfl, Nat.le_of_ble_eq_true rfl, Nat.le_of_ble_eq_true rfl⟩ rfl hl.1 rfl (Nat.le_of_ble_eq_true rfl) dL_law_1751 hcs (fun H locs hW => ?_)
    replace hW : g_W (fun q => s.heap.size ≤ q) s.heap D y ad (g_X2 cL cD oa od f1 fd) σ1 H locs := hW
    refine lv_istore (lv' := [(6, .int (σ2 132 8)), (0, .ref b), (1, .ref (ad 0)), (2, .ref (ad 132)), (3, .ref oa), (4, .ref od), (5, .int i)]) hx hcd dL_law_1754 hl (by decide) rfl (fun ls hl => ?_)
    refine lv_aload_n hx hcd dL_law_1756 rfl (lv_at hl 3 rfl) ?_
    refine lv_aload_n hx hcd dL_law_1757 rfl (lv_at hl 1 rfl) ?_
    refine lv_iload hx hcd dL_law_1758 (lv_at hl 6 rfl) ?_
    refine lv_iconst (v := 1) hx hcd dL_law_1760 (by decide) ?_
    refine lv_iadd hx hcd dL_law_1761 ?_
    refine va_sld hx hcd hX hbl hbA hW.2.2.1 hin.2.1 dL_law_1762 ?_
    refine lv_aload_n hx hcd dL_law_1763 rfl (lv_at hl 1 rfl) ?_
    refine lv_iload hx hcd dL_law_1764 (lv_at hl 6 rfl) ?_
    refine lv_iconst (v := 2) hx hcd dL_law_1766 (by decide) ?_
    refine lv_iadd hx hcd dL_law_1767 ?_
    refine va_sld hx hcd hX hbl hbA hW.2.2.1 hin.2.2.1 dL_law_1768 ?_
    refine lv_if_eq (tgt := 1776) hx hcd dL_law_1769 (by decide) (fun c9 => absurd c9 c1742) (fun _ => ?_)
    refine lv_iconst (v := 1) hx hcd dL_law_1772 (by decide) ?_
    refine lv_goto (tgt := 1777) hx hcd dL_law_1773 (by decide) ?_
    refine g_calli hW (g_runV (i := 132) (As := [.int (xs (i + 1).toNatClampNeg), .int 1]) (rest := []) hC hW (c_X7_moveOf l D y ad (xs (i + 1).toNatClampNeg) 1 σ1 _ h2) ok_L_214 ⟨rfl, rfl, Nat.le_of_ble_eq_true rfl, Nat.le_of_ble_eq_true rfl⟩ (by decide) rfl rfl rfl rfl hl.1 rfl (Nat.le_of_ble_eq_true rfl) dL_law_1777 hr1) (fun H locs hW => ?_)
    refine lv_istore (lv' := [(7, .int r), (6, .int (σ2 132 8)), (0, .ref b), (1, .ref (ad 0)), (2, .ref (ad 132)), (3, .ref oa), (4, .ref od), (5, .int i)]) hx hcd dL_law_1780 hl (by decide) rfl (fun ls hl => ?_)
    refine lv_aload_n hx hcd dL_law_1782 rfl (lv_at hl 4 rfl) ?_
    refine g_calli hW (g_runV (i := 132) (As := []) (rest := []) hC hW (c_X7_thrown l D y ad σ2 _ (show X7_thrown σ2 = some (σ2 132 8) from rfl)) ok_L_137 ⟨rfl, rfl, Nat.le_of_ble_eq_true rfl, Nat.le_of_ble_eq_true rfl⟩ (by decide) rfl rfl rfl rfl hl.1 rfl (Nat.le_of_ble_eq_true rfl) dL_law_1783 hr1) (fun H locs hW => ?_)
    refine lv_iload hx hcd dL_law_1786 (lv_at hl 1 rfl) ?_
    refine lv_icmp_eq (tgt := 1793) hx hcd dL_law_1788 (by decide) (fun _ => ?_) (fun c9 => absurd rfl c9)
    refine lv_iload hx hcd dL_law_1793 (lv_at hl 1 rfl) ?_
    refine lv_if_ne (tgt := 1810) hx hcd dL_law_1795 (by decide) (fun c8 => ?_) (fun c8 => ?_)
    · clear h4
      refine lv_goto (tgt := 2293) hx hcd dL_law_1810 (by decide) ?_
      exact kk _ _ _ (lv_sub hl [2, 3, 4, 5, 6, 7] rfl) hW
    · replace h4 := h4 c8
      refine lv_aload_n hx hcd dL_law_1798 rfl (lv_at hl 5 rfl) ?_
      refine lv_iconst (v := 0) hx hcd dL_law_1799 (by decide) ?_
      refine va_lald hx hcd hKL hW.1 143 0 g_X2_0 rfl (i := 0) (vp_in_nI (n := 0) (by omega) (by omega)) dL_law_1800 ?_
      refine lv_iload hx hcd dL_law_1801 (lv_at hl 0 rfl) ?_
      refine lv_i2l (v := r.toInt64) hx hcd dL_law_1803 rfl ?_
      refine W.lcmp hx hcd dL_law_1804 ?_
      refine lv_if_eq (tgt := 1810) hx hcd dL_law_1805 (by decide) (fun _ => ?_) (fun c9 => absurd ((lg_cmp_eq _ _).mpr h4) c9)
      refine lv_goto (tgt := 2293) hx hcd dL_law_1810 (by decide) ?_
      exact kk _ _ _ (lv_sub hl [2, 3, 4, 5, 6, 7] rfl) hW
set_option maxHeartbeats 4000000 in
set_option maxRecDepth 100000 in
theorem w_repair (hfl : l.stackTraces = false) (G : g_lw p s m c b L xs D y cL cD) (hl : lv_has ls 8 (g_ll b oa od ad i)) (hW : g_W (fun q => s.heap.size ≤ q) s.heap D y ad (g_X2 cL cD oa od f fd) σ H locs) (hin : vp_in i L ∧ vp_in (i + 1) L ∧ vp_in (i + 2) L ∧ vp_in (i + 3) L ∧ vp_in (i + 4) L) (hcs : cells + 1 ≤ 603072 ∧ slots + 6 ≤ 7186538) {k : Int32} {r : Int32} {f1 : Nat → Int64} {σ1 σ2 : gS} (h1 : L_repair σ f = some (k, f1, σ1)) (h2 : X7_repair σ1 = some (r, σ2)) (h3 : σ2 132 8 = k) (h4 : k = 0 → f1 0 = r.toInt64)
    (kk : ∀ (ls : Array Slot) (H : Heap) (locs : List Loc), lv_has ls 8 (g_ll b oa od ad i) → g_W (fun q => s.heap.size ≤ q) s.heap D y ad (g_X2 cL cD oa od f1 fd) σ2 H locs → W p l e room_1 s m #[Value.ref b] below meth c H locs (cells + 1) (slots + 6) Q (F0 m 2293 ls [])) : W p l e room_1 s m #[Value.ref b] below meth c H locs cells slots Q (F0 m 1813 ls []) := by
  obtain ⟨hC, hKL, hKD, hY, hX, hbl⟩ := G
  have hx := hC.1
  have hcd := hC.2.1
  have hbA : ¬ (s.heap.size ≤ b) := Nat.not_le.mpr hbl
  have hr1 : cells + 1 + 0 ≤ room_1.cells ∧ slots + 6 + 0 ≤ room_1.slots := ⟨hcs.1, hcs.2⟩
  obtain rfl := h3
  refine lv_aload_n hx hcd dL_law_1813 rfl (lv_at hl 1 rfl) ?_
  refine lv_aload_n hx hcd dL_law_1814 rfl (lv_at hl 3 rfl) ?_
  refine g_callL (j := 0) (As := [.ref (ad 0), .ref oa]) (rest := []) hC hKL hY hW rfl (c_L_repair l hfl D y ad σ _ cL oa f h1) ok_L_215 ⟨rfl, rfl, Nat.le_of_ble_eq_true rfl, Nat.le_of_ble_eq_true rfl⟩ rfl hl.1 rfl (Nat.le_of_ble_eq_true rfl) dL_law_1815 hcs (fun H locs hW => ?_)
  replace hW : g_W (fun q => s.heap.size ≤ q) s.heap D y ad (g_X2 cL cD oa od f1 fd) σ1 H locs := hW
  refine lv_istore (lv' := [(6, .int (σ2 132 8)), (0, .ref b), (1, .ref (ad 0)), (2, .ref (ad 132)), (3, .ref oa), (4, .ref od), (5, .int i)]) hx hcd dL_law_1818 hl (by decide) rfl (fun ls hl => ?_)
  refine lv_aload_n hx hcd dL_law_1820 rfl (lv_at hl 3 rfl) ?_
  refine g_calli hW (g_runV (i := 132) (As := []) (rest := []) hC hW (c_X7_repair l D y ad σ1 _ h2) ok_L_217 ⟨rfl, rfl, Nat.le_of_ble_eq_true rfl, Nat.le_of_ble_eq_true rfl⟩ (by decide) rfl rfl rfl rfl hl.1 rfl (Nat.le_of_ble_eq_true rfl) dL_law_1821 hr1) (fun H locs hW => ?_)
  refine lv_istore (lv' := [(7, .int r), (6, .int (σ2 132 8)), (0, .ref b), (1, .ref (ad 0)), (2, .ref (ad 132)), (3, .ref oa), (4, .ref od), (5, .int i)]) hx hcd dL_law_1824 hl (by decide) rfl (fun ls hl => ?_)
  refine lv_aload_n hx hcd dL_law_1826 rfl (lv_at hl 4 rfl) ?_
  refine g_calli hW (g_runV (i := 132) (As := []) (rest := []) hC hW (c_X7_thrown l D y ad σ2 _ (show X7_thrown σ2 = some (σ2 132 8) from rfl)) ok_L_137 ⟨rfl, rfl, Nat.le_of_ble_eq_true rfl, Nat.le_of_ble_eq_true rfl⟩ (by decide) rfl rfl rfl rfl hl.1 rfl (Nat.le_of_ble_eq_true rfl) dL_law_1827 hr1) (fun H locs hW => ?_)
  refine lv_iload hx hcd dL_law_1830 (lv_at hl 1 rfl) ?_
  refine lv_icmp_eq (tgt := 1837) hx hcd dL_law_1832 (by decide) (fun _ => ?_) (fun c9 => absurd rfl c9)
  refine lv_iload hx hcd dL_law_1837 (lv_at hl 1 rfl) ?_
  refine lv_if_ne (tgt := 1854) hx hcd dL_law_1839 (by decide) (fun c8 => ?_) (fun c8 => ?_)
  · clear h4
    refine lv_goto (tgt := 2293) hx hcd dL_law_1854 (by decide) ?_
    exact kk _ _ _ (lv_sub hl [2, 3, 4, 5, 6, 7] rfl) hW
  · replace h4 := h4 c8
    refine lv_aload_n hx hcd dL_law_1842 rfl (lv_at hl 5 rfl) ?_
    refine lv_iconst (v := 0) hx hcd dL_law_1843 (by decide) ?_
    refine va_lald hx hcd hKL hW.1 143 0 g_X2_0 rfl (i := 0) (vp_in_nI (n := 0) (by omega) (by omega)) dL_law_1844 ?_
    refine lv_iload hx hcd dL_law_1845 (lv_at hl 0 rfl) ?_
    refine lv_i2l (v := r.toInt64) hx hcd dL_law_1847 rfl ?_
    refine W.lcmp hx hcd dL_law_1848 ?_
    refine lv_if_eq (tgt := 1854) hx hcd dL_law_1849 (by decide) (fun _ => ?_) (fun c9 => absurd ((lg_cmp_eq _ _).mpr h4) c9)
    refine lv_goto (tgt := 2293) hx hcd dL_law_1854 (by decide) ?_
    exact kk _ _ _ (lv_sub hl [2, 3, 4, 5, 6, 7] rfl) hW
set_option maxHeartbeats 4000000 in
set_option maxRecDepth 100000 in
theorem w_conflicts (hfl : l.stackTraces = false) (G : g_lw p s m c b L xs D y cL cD) (hl : lv_has ls 8 (g_ll b oa od ad i)) (hW : g_W (fun q => s.heap.size ≤ q) s.heap D y ad (g_X2 cL cD oa od f fd) σ H locs) (hin : vp_in i L ∧ vp_in (i + 1) L ∧ vp_in (i + 2) L ∧ vp_in (i + 3) L ∧ vp_in (i + 4) L) (hcs : cells + 1 ≤ 603072 ∧ slots + 6 ≤ 7186538) {r : Int32} {σ2 : gS} (h1 : X6_conflicts σ = some r) (h2 : X7_conflicts σ = some (r, σ2))
    (kk : ∀ (ls : Array Slot) (H : Heap) (locs : List Loc), lv_has ls 8 (g_ll b oa od ad i) → g_W (fun q => s.heap.size ≤ q) s.heap D y ad (g_X2 cL cD oa od f fd) σ2 H locs → W p l e room_1 s m #[Value.ref b] below meth c H locs (cells + 1) (slots + 6) Q (F0 m 2293 ls [])) : W p l e room_1 s m #[Value.ref b] below meth c H locs cells slots Q (F0 m 1857 ls []) := by
  obtain ⟨hC, hKL, hKD, hY, hX, hbl⟩ := G
  have hx := hC.1
  have hcd := hC.2.1
  have hbA : ¬ (s.heap.size ≤ b) := Nat.not_le.mpr hbl
  have hr0 : cells + 0 ≤ room_1.cells ∧ slots + 0 ≤ room_1.slots := ⟨Nat.le_trans (Nat.le_add_right cells 1) hcs.1, Nat.le_trans (Nat.le_add_right slots 6) hcs.2⟩
  refine lv_aload_n hx hcd dL_law_1857 rfl (lv_at hl 1 rfl) ?_
  refine g_calli hW (g_runV (i := 0) (As := []) (rest := []) hC hW (c_X6_conflicts l D y ad σ _ h1) ok_L_218 ⟨rfl, rfl, Nat.le_of_ble_eq_true rfl, Nat.le_of_ble_eq_true rfl⟩ (by decide) rfl rfl rfl rfl hl.1 rfl (Nat.le_of_ble_eq_true rfl) dL_law_1858 hr0) (fun H locs hW => ?_)
  refine lv_aload_n hx hcd dL_law_1861 rfl (lv_at hl 2 rfl) ?_
  refine g_calli hW (g_runV (i := 132) (As := []) (rest := [.int r]) hC hW (c_X7_conflicts l D y ad σ _ h2) ok_L_221 ⟨rfl, rfl, Nat.le_of_ble_eq_true rfl, Nat.le_of_ble_eq_true rfl⟩ (by decide) rfl rfl rfl rfl hl.1 rfl (Nat.le_of_ble_eq_true rfl) dL_law_1862 hr0) (fun H locs hW => ?_)
  refine lv_icmp_eq (tgt := 2293) hx hcd dL_law_1865 (by decide) (fun _ => ?_) (fun c9 => absurd rfl c9)
  exact W.widen (Nat.le_add_right _ 1) (Nat.le_add_right _ 6) (kk _ _ _ (lv_sub hl [0, 1, 2, 3, 4, 5] rfl) hW)
set_option maxHeartbeats 4000000 in
set_option maxRecDepth 100000 in
theorem w_account (hfl : l.stackTraces = false) (G : g_lw p s m c b L xs D y cL cD) (hl : lv_has ls 8 (g_ll b oa od ad i)) (hW : g_W (fun q => s.heap.size ≤ q) s.heap D y ad (g_X2 cL cD oa od f fd) σ H locs) (hin : vp_in i L ∧ vp_in (i + 1) L ∧ vp_in (i + 2) L ∧ vp_in (i + 3) L ∧ vp_in (i + 4) L) (hcs : cells + 1 ≤ 603072 ∧ slots + 6 ≤ 7186538) {k : Int32} {r : Int32} {f1 : Nat → Int64} {σ1 σ2 : gS} (h1 : L_account σ f (xs (i + 1).toNatClampNeg) = some (k, f1, σ1)) (h2 : X7_account σ1 (xs (i + 1).toNatClampNeg) = some (r, σ2)) (h3 : σ2 132 8 = k) (h4 : k = 0 → f1 0 = r.toInt64)
    (kk : ∀ (ls : Array Slot) (H : Heap) (locs : List Loc), lv_has ls 8 (g_ll b oa od ad i) → g_W (fun q => s.heap.size ≤ q) s.heap D y ad (g_X2 cL cD oa od f1 fd) σ2 H locs → W p l e room_1 s m #[Value.ref b] below meth c H locs (cells + 1) (slots + 6) Q (F0 m 2293 ls [])) : W p l e room_1 s m #[Value.ref b] below meth c H locs cells slots Q (F0 m 1870 ls []) := by
  obtain ⟨hC, hKL, hKD, hY, hX, hbl⟩ := G
  have hx := hC.1
  have hcd := hC.2.1
  have hbA : ¬ (s.heap.size ≤ b) := Nat.not_le.mpr hbl
  have hr1 : cells + 1 + 0 ≤ room_1.cells ∧ slots + 6 + 0 ≤ room_1.slots := ⟨hcs.1, hcs.2⟩
  obtain rfl := h3
  refine lv_aload_n hx hcd dL_law_1870 rfl (lv_at hl 1 rfl) ?_
  refine lv_aload_n hx hcd dL_law_1871 rfl (lv_at hl 0 rfl) ?_
  refine lv_iload hx hcd dL_law_1872 (lv_at hl 5 rfl) ?_
  refine lv_iconst (v := 1) hx hcd dL_law_1874 (by decide) ?_
  refine lv_iadd hx hcd dL_law_1875 ?_
  refine va_sld hx hcd hX hbl hbA hW.2.2.1 hin.2.1 dL_law_1876 ?_
  refine lv_aload_n hx hcd dL_law_1877 rfl (lv_at hl 3 rfl) ?_
  refine g_callL (j := 0) (As := [.ref (ad 0), .int (xs (i + 1).toNatClampNeg), .ref oa]) (rest := []) hC hKL hY hW rfl (c_L_account l hfl D y ad (xs (i + 1).toNatClampNeg) σ _ cL oa f h1) ok_L_222 ⟨rfl, rfl, Nat.le_of_ble_eq_true rfl, Nat.le_of_ble_eq_true rfl⟩ rfl hl.1 rfl (Nat.le_of_ble_eq_true rfl) dL_law_1878 hcs (fun H locs hW => ?_)
  replace hW : g_W (fun q => s.heap.size ≤ q) s.heap D y ad (g_X2 cL cD oa od f1 fd) σ1 H locs := hW
  refine lv_istore (lv' := [(6, .int (σ2 132 8)), (0, .ref b), (1, .ref (ad 0)), (2, .ref (ad 132)), (3, .ref oa), (4, .ref od), (5, .int i)]) hx hcd dL_law_1881 hl (by decide) rfl (fun ls hl => ?_)
  refine lv_aload_n hx hcd dL_law_1883 rfl (lv_at hl 3 rfl) ?_
  refine lv_aload_n hx hcd dL_law_1884 rfl (lv_at hl 1 rfl) ?_
  refine lv_iload hx hcd dL_law_1885 (lv_at hl 6 rfl) ?_
  refine lv_iconst (v := 1) hx hcd dL_law_1887 (by decide) ?_
  refine lv_iadd hx hcd dL_law_1888 ?_
  refine va_sld hx hcd hX hbl hbA hW.2.2.1 hin.2.1 dL_law_1889 ?_
  refine g_calli hW (g_runV (i := 132) (As := [.int (xs (i + 1).toNatClampNeg)]) (rest := []) hC hW (c_X7_account l D y ad (xs (i + 1).toNatClampNeg) σ1 _ h2) ok_L_224 ⟨rfl, rfl, Nat.le_of_ble_eq_true rfl, Nat.le_of_ble_eq_true rfl⟩ (by decide) rfl rfl rfl rfl hl.1 rfl (Nat.le_of_ble_eq_true rfl) dL_law_1890 hr1) (fun H locs hW => ?_)
  refine lv_istore (lv' := [(7, .int r), (6, .int (σ2 132 8)), (0, .ref b), (1, .ref (ad 0)), (2, .ref (ad 132)), (3, .ref oa), (4, .ref od), (5, .int i)]) hx hcd dL_law_1893 hl (by decide) rfl (fun ls hl => ?_)
  refine lv_aload_n hx hcd dL_law_1895 rfl (lv_at hl 4 rfl) ?_
  refine g_calli hW (g_runV (i := 132) (As := []) (rest := []) hC hW (c_X7_thrown l D y ad σ2 _ (show X7_thrown σ2 = some (σ2 132 8) from rfl)) ok_L_137 ⟨rfl, rfl, Nat.le_of_ble_eq_true rfl, Nat.le_of_ble_eq_true rfl⟩ (by decide) rfl rfl rfl rfl hl.1 rfl (Nat.le_of_ble_eq_true rfl) dL_law_1896 hr1) (fun H locs hW => ?_)
  refine lv_iload hx hcd dL_law_1899 (lv_at hl 1 rfl) ?_
  refine lv_icmp_eq (tgt := 1906) hx hcd dL_law_1901 (by decide) (fun _ => ?_) (fun c9 => absurd rfl c9)
  refine lv_iload hx hcd dL_law_1906 (lv_at hl 1 rfl) ?_
  refine lv_if_ne (tgt := 1923) hx hcd dL_law_1908 (by decide) (fun c8 => ?_) (fun c8 => ?_)
  · clear h4
    refine lv_goto (tgt := 2293) hx hcd dL_law_1923 (by decide) ?_
    exact kk _ _ _ (lv_sub hl [2, 3, 4, 5, 6, 7] rfl) hW
  · replace h4 := h4 c8
    refine lv_aload_n hx hcd dL_law_1911 rfl (lv_at hl 5 rfl) ?_
    refine lv_iconst (v := 0) hx hcd dL_law_1912 (by decide) ?_
    refine va_lald hx hcd hKL hW.1 143 0 g_X2_0 rfl (i := 0) (vp_in_nI (n := 0) (by omega) (by omega)) dL_law_1913 ?_
    refine lv_iload hx hcd dL_law_1914 (lv_at hl 0 rfl) ?_
    refine lv_i2l (v := r.toInt64) hx hcd dL_law_1916 rfl ?_
    refine W.lcmp hx hcd dL_law_1917 ?_
    refine lv_if_eq (tgt := 1923) hx hcd dL_law_1918 (by decide) (fun _ => ?_) (fun c9 => absurd ((lg_cmp_eq _ _).mpr h4) c9)
    refine lv_goto (tgt := 2293) hx hcd dL_law_1923 (by decide) ?_
    exact kk _ _ _ (lv_sub hl [2, 3, 4, 5, 6, 7] rfl) hW
set_option maxHeartbeats 4000000 in
set_option maxRecDepth 100000 in
theorem w_minutes (hfl : l.stackTraces = false) (G : g_lw p s m c b L xs D y cL cD) (hl : lv_has ls 8 (g_ll b oa od ad i)) (hW : g_W (fun q => s.heap.size ≤ q) s.heap D y ad (g_X2 cL cD oa od f fd) σ H locs) (hin : vp_in i L ∧ vp_in (i + 1) L ∧ vp_in (i + 2) L ∧ vp_in (i + 3) L ∧ vp_in (i + 4) L) (hcs : cells + 1 ≤ 603072 ∧ slots + 6 ≤ 7186538) {r : Int32} {σ1 σ2 : gS} (h1 : X6_minutes σ = some (r, σ1)) (h2 : X7_minutes σ1 = some (r, σ2))
    (kk : ∀ (ls : Array Slot) (H : Heap) (locs : List Loc), lv_has ls 8 (g_ll b oa od ad i) → g_W (fun q => s.heap.size ≤ q) s.heap D y ad (g_X2 cL cD oa od f fd) σ2 H locs → W p l e room_1 s m #[Value.ref b] below meth c H locs (cells + 1) (slots + 6) Q (F0 m 2293 ls [])) : W p l e room_1 s m #[Value.ref b] below meth c H locs cells slots Q (F0 m 1926 ls []) := by
  obtain ⟨hC, hKL, hKD, hY, hX, hbl⟩ := G
  have hx := hC.1
  have hcd := hC.2.1
  have hbA : ¬ (s.heap.size ≤ b) := Nat.not_le.mpr hbl
  have hr0 : cells + 0 ≤ room_1.cells ∧ slots + 0 ≤ room_1.slots := ⟨Nat.le_trans (Nat.le_add_right cells 1) hcs.1, Nat.le_trans (Nat.le_add_right slots 6) hcs.2⟩
  refine lv_aload_n hx hcd dL_law_1926 rfl (lv_at hl 1 rfl) ?_
  refine g_calli hW (g_runV (i := 0) (As := []) (rest := []) hC hW (c_X6_minutes l D y ad σ _ h1) ok_L_225 ⟨rfl, rfl, Nat.le_of_ble_eq_true rfl, Nat.le_of_ble_eq_true rfl⟩ (by decide) rfl rfl rfl rfl hl.1 rfl (Nat.le_of_ble_eq_true rfl) dL_law_1927 hr0) (fun H locs hW => ?_)
  refine lv_aload_n hx hcd dL_law_1930 rfl (lv_at hl 2 rfl) ?_
  refine g_calli hW (g_runV (i := 132) (As := []) (rest := [.int r]) hC hW (c_X7_minutes l D y ad σ1 _ h2) ok_L_228 ⟨rfl, rfl, Nat.le_of_ble_eq_true rfl, Nat.le_of_ble_eq_true rfl⟩ (by decide) rfl rfl rfl rfl hl.1 rfl (Nat.le_of_ble_eq_true rfl) dL_law_1931 hr0) (fun H locs hW => ?_)
  refine lv_icmp_eq (tgt := 2293) hx hcd dL_law_1934 (by decide) (fun _ => ?_) (fun c9 => absurd rfl c9)
  exact W.widen (Nat.le_add_right _ 1) (Nat.le_add_right _ 6) (kk _ _ _ (lv_sub hl [0, 1, 2, 3, 4, 5] rfl) hW)
set_option maxHeartbeats 4000000 in
set_option maxRecDepth 100000 in
theorem w_peak (hfl : l.stackTraces = false) (G : g_lw p s m c b L xs D y cL cD) (hl : lv_has ls 8 (g_ll b oa od ad i)) (hW : g_W (fun q => s.heap.size ≤ q) s.heap D y ad (g_X2 cL cD oa od f fd) σ H locs) (hin : vp_in i L ∧ vp_in (i + 1) L ∧ vp_in (i + 2) L ∧ vp_in (i + 3) L ∧ vp_in (i + 4) L) (hcs : cells + 1 ≤ 603072 ∧ slots + 6 ≤ 7186538) {r : Int32} {σ2 : gS} (h1 : X6_peak σ (bx (xs (i + 1).toNatClampNeg)) = some r) (h2 : X7_peak σ (bx (xs (i + 1).toNatClampNeg)) = some (r, σ2))
    (kk : ∀ (ls : Array Slot) (H : Heap) (locs : List Loc), lv_has ls 8 (g_ll b oa od ad i) → g_W (fun q => s.heap.size ≤ q) s.heap D y ad (g_X2 cL cD oa od f fd) σ2 H locs → W p l e room_1 s m #[Value.ref b] below meth c H locs (cells + 1) (slots + 6) Q (F0 m 2293 ls [])) : W p l e room_1 s m #[Value.ref b] below meth c H locs cells slots Q (F0 m 1939 ls []) := by
  obtain ⟨hC, hKL, hKD, hY, hX, hbl⟩ := G
  have hx := hC.1
  have hcd := hC.2.1
  have hbA : ¬ (s.heap.size ≤ b) := Nat.not_le.mpr hbl
  have hr0 : cells + 0 ≤ room_1.cells ∧ slots + 0 ≤ room_1.slots := ⟨Nat.le_trans (Nat.le_add_right cells 1) hcs.1, Nat.le_trans (Nat.le_add_right slots 6) hcs.2⟩
  refine lv_aload_n hx hcd dL_law_1939 rfl (lv_at hl 1 rfl) ?_
  refine lv_aload_n hx hcd dL_law_1940 rfl (lv_at hl 0 rfl) ?_
  refine lv_iload hx hcd dL_law_1941 (lv_at hl 5 rfl) ?_
  refine lv_iconst (v := 1) hx hcd dL_law_1943 (by decide) ?_
  refine lv_iadd hx hcd dL_law_1944 ?_
  refine va_sld hx hcd hX hbl hbA hW.2.2.1 hin.2.1 dL_law_1945 ?_
  refine lv_if_eq (tgt := 1953) hx hcd dL_law_1946 (by decide) (fun c1946 => ?_) (fun c1946 => ?_)
  · rw [show bx (xs (i + 1).toNatClampNeg) = 0 from if_pos c1946] at h1 h2
    refine lv_iconst (v := 0) hx hcd dL_law_1953 (by decide) ?_
    refine g_calli hW (g_runV (i := 0) (As := [.int 0]) (rest := []) hC hW (c_X6_peak l D y ad 0 σ _ h1) ok_L_229 ⟨rfl, rfl, Nat.le_of_ble_eq_true rfl, Nat.le_of_ble_eq_true rfl⟩ (by decide) rfl rfl rfl rfl hl.1 rfl (Nat.le_of_ble_eq_true rfl) dL_law_1954 hr0) (fun H locs hW => ?_)
    refine lv_aload_n hx hcd dL_law_1957 rfl (lv_at hl 2 rfl) ?_
    refine lv_aload_n hx hcd dL_law_1958 rfl (lv_at hl 0 rfl) ?_
    refine lv_iload hx hcd dL_law_1959 (lv_at hl 5 rfl) ?_
    refine lv_iconst (v := 1) hx hcd dL_law_1961 (by decide) ?_
    refine lv_iadd hx hcd dL_law_1962 ?_
    refine va_sld hx hcd hX hbl hbA hW.2.2.1 hin.2.1 dL_law_1963 ?_
    refine lv_if_eq (tgt := 1971) hx hcd dL_law_1964 (by decide) (fun _ => ?_) (fun c9 => absurd c1946 c9)
    refine lv_iconst (v := 0) hx hcd dL_law_1971 (by decide) ?_
    refine g_calli hW (g_runV (i := 132) (As := [.int 0]) (rest := [.int r]) hC hW (c_X7_peak l D y ad 0 σ _ h2) ok_L_233 ⟨rfl, rfl, Nat.le_of_ble_eq_true rfl, Nat.le_of_ble_eq_true rfl⟩ (by decide) rfl rfl rfl rfl hl.1 rfl (Nat.le_of_ble_eq_true rfl) dL_law_1972 hr0) (fun H locs hW => ?_)
    refine lv_icmp_eq (tgt := 2293) hx hcd dL_law_1975 (by decide) (fun _ => ?_) (fun c9 => absurd rfl c9)
    exact W.widen (Nat.le_add_right _ 1) (Nat.le_add_right _ 6) (kk _ _ _ (lv_sub hl [0, 1, 2, 3, 4, 5] rfl) hW)
  · rw [show bx (xs (i + 1).toNatClampNeg) = 1 from if_neg c1946] at h1 h2
    refine lv_iconst (v := 1) hx hcd dL_law_1949 (by decide) ?_
    refine lv_goto (tgt := 1954) hx hcd dL_law_1950 (by decide) ?_
    refine g_calli hW (g_runV (i := 0) (As := [.int 1]) (rest := []) hC hW (c_X6_peak l D y ad 1 σ _ h1) ok_L_229 ⟨rfl, rfl, Nat.le_of_ble_eq_true rfl, Nat.le_of_ble_eq_true rfl⟩ (by decide) rfl rfl rfl rfl hl.1 rfl (Nat.le_of_ble_eq_true rfl) dL_law_1954 hr0) (fun H locs hW => ?_)
    refine lv_aload_n hx hcd dL_law_1957 rfl (lv_at hl 2 rfl) ?_
    refine lv_aload_n hx hcd dL_law_1958 rfl (lv_at hl 0 rfl) ?_
    refine lv_iload hx hcd dL_law_1959 (lv_at hl 5 rfl) ?_
    refine lv_iconst (v := 1) hx hcd dL_law_1961 (by decide) ?_
    refine lv_iadd hx hcd dL_law_1962 ?_
    refine va_sld hx hcd hX hbl hbA hW.2.2.1 hin.2.1 dL_law_1963 ?_
    refine lv_if_eq (tgt := 1971) hx hcd dL_law_1964 (by decide) (fun c9 => absurd c9 c1946) (fun _ => ?_)
    refine lv_iconst (v := 1) hx hcd dL_law_1967 (by decide) ?_
    refine lv_goto (tgt := 1972) hx hcd dL_law_1968 (by decide) ?_
    refine g_calli hW (g_runV (i := 132) (As := [.int 1]) (rest := [.int r]) hC hW (c_X7_peak l D y ad 1 σ _ h2) ok_L_233 ⟨rfl, rfl, Nat.le_of_ble_eq_true rfl, Nat.le_of_ble_eq_true rfl⟩ (by decide) rfl rfl rfl rfl hl.1 rfl (Nat.le_of_ble_eq_true rfl) dL_law_1972 hr0) (fun H locs hW => ?_)
    refine lv_icmp_eq (tgt := 2293) hx hcd dL_law_1975 (by decide) (fun _ => ?_) (fun c9 => absurd rfl c9)
    exact W.widen (Nat.le_add_right _ 1) (Nat.le_add_right _ 6) (kk _ _ _ (lv_sub hl [0, 1, 2, 3, 4, 5] rfl) hW)
set_option maxHeartbeats 4000000 in
set_option maxRecDepth 100000 in
theorem w_meanCost (hfl : l.stackTraces = false) (G : g_lw p s m c b L xs D y cL cD) (hl : lv_has ls 8 (g_ll b oa od ad i)) (hW : g_W (fun q => s.heap.size ≤ q) s.heap D y ad (g_X2 cL cD oa od f fd) σ H locs) (hin : vp_in i L ∧ vp_in (i + 1) L ∧ vp_in (i + 2) L ∧ vp_in (i + 3) L ∧ vp_in (i + 4) L) (hcs : cells + 1 ≤ 603072 ∧ slots + 6 ≤ 7186538) {k : Int32} {r : UInt32} {f1 : Nat → UInt64} {σ1 σ2 : gS} (h1 : L_meanCost σ fd = some (k, f1, σ1)) (h2 : X7_meanCost σ1 = some (r, σ2)) (h3 : σ2 132 8 = k) (h4 : k = 0 → Op.cmpValue (FP.dcmp (f1 0) (FP.f2d r)) CmpOp.l = 0 ∧ n64 (FP.f2d r) = true)
    (kk : ∀ (ls : Array Slot) (H : Heap) (locs : List Loc), lv_has ls 8 (g_ll b oa od ad i) → g_W (fun q => s.heap.size ≤ q) s.heap D y ad (g_X2 cL cD oa od f f1) σ2 H locs → W p l e room_1 s m #[Value.ref b] below meth c H locs (cells + 1) (slots + 6) Q (F0 m 2293 ls [])) : W p l e room_1 s m #[Value.ref b] below meth c H locs cells slots Q (F0 m 1980 ls []) := by
  obtain ⟨hC, hKL, hKD, hY, hX, hbl⟩ := G
  have hx := hC.1
  have hcd := hC.2.1
  have hbA : ¬ (s.heap.size ≤ b) := Nat.not_le.mpr hbl
  have hr1 : cells + 1 + 0 ≤ room_1.cells ∧ slots + 6 + 0 ≤ room_1.slots := ⟨hcs.1, hcs.2⟩
  obtain rfl := h3
  refine lv_aload_n hx hcd dL_law_1980 rfl (lv_at hl 1 rfl) ?_
  refine lv_aload hx hcd dL_law_1981 (lv_at hl 4 rfl) ?_
  refine g_callL (j := 1) (As := [.ref (ad 0), .ref od]) (rest := []) hC hKD hY hW rfl (c_L_meanCost l hfl D y ad σ _ cD od fd h1) ok_L_234 ⟨rfl, rfl, Nat.le_of_ble_eq_true rfl, Nat.le_of_ble_eq_true rfl⟩ rfl hl.1 rfl (Nat.le_of_ble_eq_true rfl) dL_law_1983 hcs (fun H locs hW => ?_)
  replace hW : g_W (fun q => s.heap.size ≤ q) s.heap D y ad (g_X2 cL cD oa od f f1) σ1 H locs := hW
  refine lv_istore (lv' := [(6, .int (σ2 132 8)), (0, .ref b), (1, .ref (ad 0)), (2, .ref (ad 132)), (3, .ref oa), (4, .ref od), (5, .int i)]) hx hcd dL_law_1986 hl (by decide) rfl (fun ls hl => ?_)
  refine lv_aload_n hx hcd dL_law_1988 rfl (lv_at hl 3 rfl) ?_
  refine g_callf hW (g_runV (i := 132) (As := []) (rest := []) hC hW (c_X7_meanCost l D y ad σ1 _ h2) ok_L_237 ⟨rfl, rfl, Nat.le_of_ble_eq_true rfl, Nat.le_of_ble_eq_true rfl⟩ (by decide) rfl rfl rfl rfl hl.1 rfl (Nat.le_of_ble_eq_true rfl) dL_law_1989 hr1) (fun H locs hW => ?_)
  refine lv_fstore (lv' := [(7, .float r), (6, .int (σ2 132 8)), (0, .ref b), (1, .ref (ad 0)), (2, .ref (ad 132)), (3, .ref oa), (4, .ref od), (5, .int i)]) hx hcd dL_law_1992 hl (by decide) rfl (fun ls hl => ?_)
  refine lv_aload_n hx hcd dL_law_1994 rfl (lv_at hl 4 rfl) ?_
  refine g_calli hW (g_runV (i := 132) (As := []) (rest := []) hC hW (c_X7_thrown l D y ad σ2 _ (show X7_thrown σ2 = some (σ2 132 8) from rfl)) ok_L_137 ⟨rfl, rfl, Nat.le_of_ble_eq_true rfl, Nat.le_of_ble_eq_true rfl⟩ (by decide) rfl rfl rfl rfl hl.1 rfl (Nat.le_of_ble_eq_true rfl) dL_law_1995 hr1) (fun H locs hW => ?_)
  refine lv_iload hx hcd dL_law_1998 (lv_at hl 1 rfl) ?_
  refine lv_icmp_eq (tgt := 2005) hx hcd dL_law_2000 (by decide) (fun _ => ?_) (fun c9 => absurd rfl c9)
  refine lv_iload hx hcd dL_law_2005 (lv_at hl 1 rfl) ?_
  refine lv_if_ne (tgt := 2043) hx hcd dL_law_2007 (by decide) (fun c8 => ?_) (fun c8 => ?_)
  · clear h4
    refine lv_goto (tgt := 2293) hx hcd dL_law_2043 (by decide) ?_
    exact kk _ _ _ (lv_sub hl [2, 3, 4, 5, 6, 7] rfl) hW
  · replace h4 := h4 c8
    refine lv_aload hx hcd dL_law_2010 (lv_at hl 6 rfl) ?_
    refine lv_iconst (v := 0) hx hcd dL_law_2012 (by decide) ?_
    refine va_dald hx hcd hKD hW.1 144 0 g_X2_1 rfl (i := 0) (vp_in_nI (n := 0) (by omega) (by omega)) dL_law_2013 ?_
    refine lv_fload hx hcd dL_law_2014 (lv_at hl 0 rfl) ?_
    refine lv_f2d hx hcd dL_law_2016 (n64_v h4.2) ?_
    refine lv_dcmp hx hcd dL_law_2017 ?_
    refine lv_if_eq (tgt := 2043) hx hcd dL_law_2018 (by decide) (fun _ => ?_) (fun c9 => absurd h4.1 c9)
    refine lv_goto (tgt := 2293) hx hcd dL_law_2043 (by decide) ?_
    exact kk _ _ _ (lv_sub hl [2, 3, 4, 5, 6, 7] rfl) hW
set_option maxHeartbeats 4000000 in
set_option maxRecDepth 100000 in
theorem w_append (hfl : l.stackTraces = false) (G : g_lw p s m c b L xs D y cL cD) (hl : lv_has ls 8 (g_ll b oa od ad i)) (hW : g_W (fun q => s.heap.size ≤ q) s.heap D y ad (g_X2 cL cD oa od f fd) σ H locs) (hin : vp_in i L ∧ vp_in (i + 1) L ∧ vp_in (i + 2) L ∧ vp_in (i + 3) L ∧ vp_in (i + 4) L) (hcs : cells + 1 ≤ 603072 ∧ slots + 6 ≤ 7186538) {k : Int32} {r : Int32} {f1 : Nat → Int64} {σ1 σ2 : gS} (h1 : L_append σ f (jc (xs (i + 1).toNatClampNeg)) = some (k, f1, σ1)) (h2 : X7_append σ1 (jc (xs (i + 1).toNatClampNeg)) = some (r, σ2)) (h3 : σ2 132 8 = k) (h4 : k = 0 → f1 0 = r.toInt64)
    (kk : ∀ (ls : Array Slot) (H : Heap) (locs : List Loc), lv_has ls 8 (g_ll b oa od ad i) → g_W (fun q => s.heap.size ≤ q) s.heap D y ad (g_X2 cL cD oa od f1 fd) σ2 H locs → W p l e room_1 s m #[Value.ref b] below meth c H locs (cells + 1) (slots + 6) Q (F0 m 2293 ls [])) : W p l e room_1 s m #[Value.ref b] below meth c H locs cells slots Q (F0 m 2046 ls []) := by
  obtain ⟨hC, hKL, hKD, hY, hX, hbl⟩ := G
  have hx := hC.1
  have hcd := hC.2.1
  have hbA : ¬ (s.heap.size ≤ b) := Nat.not_le.mpr hbl
  have hr1 : cells + 1 + 0 ≤ room_1.cells ∧ slots + 6 + 0 ≤ room_1.slots := ⟨hcs.1, hcs.2⟩
  obtain rfl := h3
  refine lv_aload_n hx hcd dL_law_2046 rfl (lv_at hl 1 rfl) ?_
  refine lv_aload_n hx hcd dL_law_2047 rfl (lv_at hl 0 rfl) ?_
  refine lv_iload hx hcd dL_law_2048 (lv_at hl 5 rfl) ?_
  refine lv_iconst (v := 1) hx hcd dL_law_2050 (by decide) ?_
  refine lv_iadd hx hcd dL_law_2051 ?_
  refine va_sld hx hcd hX hbl hbA hW.2.2.1 hin.2.1 dL_law_2052 ?_
  refine lv_i2c (v := jc (xs (i + 1).toNatClampNeg)) hx hcd dL_law_2053 rfl ?_
  refine lv_aload_n hx hcd dL_law_2054 rfl (lv_at hl 3 rfl) ?_
  refine g_callL (j := 0) (As := [.ref (ad 0), .int (jc (xs (i + 1).toNatClampNeg)), .ref oa]) (rest := []) hC hKL hY hW rfl (c_L_append l hfl D y ad (jc (xs (i + 1).toNatClampNeg)) σ _ cL oa f h1) ok_L_238 ⟨rfl, rfl, Nat.le_of_ble_eq_true rfl, Nat.le_of_ble_eq_true rfl⟩ rfl hl.1 rfl (Nat.le_of_ble_eq_true rfl) dL_law_2055 hcs (fun H locs hW => ?_)
  replace hW : g_W (fun q => s.heap.size ≤ q) s.heap D y ad (g_X2 cL cD oa od f1 fd) σ1 H locs := hW
  refine lv_istore (lv' := [(6, .int (σ2 132 8)), (0, .ref b), (1, .ref (ad 0)), (2, .ref (ad 132)), (3, .ref oa), (4, .ref od), (5, .int i)]) hx hcd dL_law_2058 hl (by decide) rfl (fun ls hl => ?_)
  refine lv_aload_n hx hcd dL_law_2060 rfl (lv_at hl 3 rfl) ?_
  refine lv_aload_n hx hcd dL_law_2061 rfl (lv_at hl 1 rfl) ?_
  refine lv_iload hx hcd dL_law_2062 (lv_at hl 6 rfl) ?_
  refine lv_iconst (v := 1) hx hcd dL_law_2064 (by decide) ?_
  refine lv_iadd hx hcd dL_law_2065 ?_
  refine va_sld hx hcd hX hbl hbA hW.2.2.1 hin.2.1 dL_law_2066 ?_
  refine lv_i2c (v := jc (xs (i + 1).toNatClampNeg)) hx hcd dL_law_2067 rfl ?_
  refine g_calli hW (g_runV (i := 132) (As := [.int (jc (xs (i + 1).toNatClampNeg))]) (rest := []) hC hW (c_X7_append l D y ad (jc (xs (i + 1).toNatClampNeg)) σ1 _ h2) ok_L_241 ⟨rfl, rfl, Nat.le_of_ble_eq_true rfl, Nat.le_of_ble_eq_true rfl⟩ (by decide) rfl rfl rfl rfl hl.1 rfl (Nat.le_of_ble_eq_true rfl) dL_law_2068 hr1) (fun H locs hW => ?_)
  refine lv_istore (lv' := [(7, .int r), (6, .int (σ2 132 8)), (0, .ref b), (1, .ref (ad 0)), (2, .ref (ad 132)), (3, .ref oa), (4, .ref od), (5, .int i)]) hx hcd dL_law_2071 hl (by decide) rfl (fun ls hl => ?_)
  refine lv_aload_n hx hcd dL_law_2073 rfl (lv_at hl 4 rfl) ?_
  refine g_calli hW (g_runV (i := 132) (As := []) (rest := []) hC hW (c_X7_thrown l D y ad σ2 _ (show X7_thrown σ2 = some (σ2 132 8) from rfl)) ok_L_137 ⟨rfl, rfl, Nat.le_of_ble_eq_true rfl, Nat.le_of_ble_eq_true rfl⟩ (by decide) rfl rfl rfl rfl hl.1 rfl (Nat.le_of_ble_eq_true rfl) dL_law_2074 hr1) (fun H locs hW => ?_)
  refine lv_iload hx hcd dL_law_2077 (lv_at hl 1 rfl) ?_
  refine lv_icmp_eq (tgt := 2084) hx hcd dL_law_2079 (by decide) (fun _ => ?_) (fun c9 => absurd rfl c9)
  refine lv_iload hx hcd dL_law_2084 (lv_at hl 1 rfl) ?_
  refine lv_if_ne (tgt := 2101) hx hcd dL_law_2086 (by decide) (fun c8 => ?_) (fun c8 => ?_)
  · clear h4
    refine lv_goto (tgt := 2293) hx hcd dL_law_2101 (by decide) ?_
    exact kk _ _ _ (lv_sub hl [2, 3, 4, 5, 6, 7] rfl) hW
  · replace h4 := h4 c8
    refine lv_aload_n hx hcd dL_law_2089 rfl (lv_at hl 5 rfl) ?_
    refine lv_iconst (v := 0) hx hcd dL_law_2090 (by decide) ?_
    refine va_lald hx hcd hKL hW.1 143 0 g_X2_0 rfl (i := 0) (vp_in_nI (n := 0) (by omega) (by omega)) dL_law_2091 ?_
    refine lv_iload hx hcd dL_law_2092 (lv_at hl 0 rfl) ?_
    refine lv_i2l (v := r.toInt64) hx hcd dL_law_2094 rfl ?_
    refine W.lcmp hx hcd dL_law_2095 ?_
    refine lv_if_eq (tgt := 2101) hx hcd dL_law_2096 (by decide) (fun _ => ?_) (fun c9 => absurd ((lg_cmp_eq _ _).mpr h4) c9)
    refine lv_goto (tgt := 2293) hx hcd dL_law_2101 (by decide) ?_
    exact kk _ _ _ (lv_sub hl [2, 3, 4, 5, 6, 7] rfl) hW
set_option maxHeartbeats 4000000 in
set_option maxRecDepth 100000 in
theorem w_read (hfl : l.stackTraces = false) (G : g_lw p s m c b L xs D y cL cD) (hl : lv_has ls 8 (g_ll b oa od ad i)) (hW : g_W (fun q => s.heap.size ≤ q) s.heap D y ad (g_X2 cL cD oa od f fd) σ H locs) (hin : vp_in i L ∧ vp_in (i + 1) L ∧ vp_in (i + 2) L ∧ vp_in (i + 3) L ∧ vp_in (i + 4) L) (hcs : cells + 1 ≤ 603072 ∧ slots + 6 ≤ 7186538) {k : Int32} {r : Int32} {f1 : Nat → Int64} {σ1 σ2 : gS} (h1 : L_read σ f = some (k, f1, σ1)) (h2 : X7_read σ1 = some (r, σ2)) (h3 : σ2 132 8 = k) (h4 : k = 0 → f1 0 = r.toInt64)
    (kk : ∀ (ls : Array Slot) (H : Heap) (locs : List Loc), lv_has ls 8 (g_ll b oa od ad i) → g_W (fun q => s.heap.size ≤ q) s.heap D y ad (g_X2 cL cD oa od f1 fd) σ2 H locs → W p l e room_1 s m #[Value.ref b] below meth c H locs (cells + 1) (slots + 6) Q (F0 m 2293 ls [])) : W p l e room_1 s m #[Value.ref b] below meth c H locs cells slots Q (F0 m 2104 ls []) := by
  obtain ⟨hC, hKL, hKD, hY, hX, hbl⟩ := G
  have hx := hC.1
  have hcd := hC.2.1
  have hbA : ¬ (s.heap.size ≤ b) := Nat.not_le.mpr hbl
  have hr1 : cells + 1 + 0 ≤ room_1.cells ∧ slots + 6 + 0 ≤ room_1.slots := ⟨hcs.1, hcs.2⟩
  obtain rfl := h3
  refine lv_aload_n hx hcd dL_law_2104 rfl (lv_at hl 1 rfl) ?_
  refine lv_aload_n hx hcd dL_law_2105 rfl (lv_at hl 3 rfl) ?_
  refine g_callL (j := 0) (As := [.ref (ad 0), .ref oa]) (rest := []) hC hKL hY hW rfl (c_L_read l hfl D y ad σ _ cL oa f h1) ok_L_242 ⟨rfl, rfl, Nat.le_of_ble_eq_true rfl, Nat.le_of_ble_eq_true rfl⟩ rfl hl.1 rfl (Nat.le_of_ble_eq_true rfl) dL_law_2106 hcs (fun H locs hW => ?_)
  replace hW : g_W (fun q => s.heap.size ≤ q) s.heap D y ad (g_X2 cL cD oa od f1 fd) σ1 H locs := hW
  refine lv_istore (lv' := [(6, .int (σ2 132 8)), (0, .ref b), (1, .ref (ad 0)), (2, .ref (ad 132)), (3, .ref oa), (4, .ref od), (5, .int i)]) hx hcd dL_law_2109 hl (by decide) rfl (fun ls hl => ?_)
  refine lv_aload_n hx hcd dL_law_2111 rfl (lv_at hl 3 rfl) ?_
  refine g_calli hW (g_runV (i := 132) (As := []) (rest := []) hC hW (c_X7_read l D y ad σ1 _ h2) ok_L_244 ⟨rfl, rfl, Nat.le_of_ble_eq_true rfl, Nat.le_of_ble_eq_true rfl⟩ (by decide) rfl rfl rfl rfl hl.1 rfl (Nat.le_of_ble_eq_true rfl) dL_law_2112 hr1) (fun H locs hW => ?_)
  refine lv_istore (lv' := [(7, .int r), (6, .int (σ2 132 8)), (0, .ref b), (1, .ref (ad 0)), (2, .ref (ad 132)), (3, .ref oa), (4, .ref od), (5, .int i)]) hx hcd dL_law_2115 hl (by decide) rfl (fun ls hl => ?_)
  refine lv_aload_n hx hcd dL_law_2117 rfl (lv_at hl 4 rfl) ?_
  refine g_calli hW (g_runV (i := 132) (As := []) (rest := []) hC hW (c_X7_thrown l D y ad σ2 _ (show X7_thrown σ2 = some (σ2 132 8) from rfl)) ok_L_137 ⟨rfl, rfl, Nat.le_of_ble_eq_true rfl, Nat.le_of_ble_eq_true rfl⟩ (by decide) rfl rfl rfl rfl hl.1 rfl (Nat.le_of_ble_eq_true rfl) dL_law_2118 hr1) (fun H locs hW => ?_)
  refine lv_iload hx hcd dL_law_2121 (lv_at hl 1 rfl) ?_
  refine lv_icmp_eq (tgt := 2128) hx hcd dL_law_2123 (by decide) (fun _ => ?_) (fun c9 => absurd rfl c9)
  refine lv_iload hx hcd dL_law_2128 (lv_at hl 1 rfl) ?_
  refine lv_if_ne (tgt := 2145) hx hcd dL_law_2130 (by decide) (fun c8 => ?_) (fun c8 => ?_)
  · clear h4
    refine lv_goto (tgt := 2293) hx hcd dL_law_2145 (by decide) ?_
    exact kk _ _ _ (lv_sub hl [2, 3, 4, 5, 6, 7] rfl) hW
  · replace h4 := h4 c8
    refine lv_aload_n hx hcd dL_law_2133 rfl (lv_at hl 5 rfl) ?_
    refine lv_iconst (v := 0) hx hcd dL_law_2134 (by decide) ?_
    refine va_lald hx hcd hKL hW.1 143 0 g_X2_0 rfl (i := 0) (vp_in_nI (n := 0) (by omega) (by omega)) dL_law_2135 ?_
    refine lv_iload hx hcd dL_law_2136 (lv_at hl 0 rfl) ?_
    refine lv_i2l (v := r.toInt64) hx hcd dL_law_2138 rfl ?_
    refine W.lcmp hx hcd dL_law_2139 ?_
    refine lv_if_eq (tgt := 2145) hx hcd dL_law_2140 (by decide) (fun _ => ?_) (fun c9 => absurd ((lg_cmp_eq _ _).mpr h4) c9)
    refine lv_goto (tgt := 2293) hx hcd dL_law_2145 (by decide) ?_
    exact kk _ _ _ (lv_sub hl [2, 3, 4, 5, 6, 7] rfl) hW
set_option maxHeartbeats 4000000 in
set_option maxRecDepth 100000 in
theorem w_errorPosition (hfl : l.stackTraces = false) (G : g_lw p s m c b L xs D y cL cD) (hl : lv_has ls 8 (g_ll b oa od ad i)) (hW : g_W (fun q => s.heap.size ≤ q) s.heap D y ad (g_X2 cL cD oa od f fd) σ H locs) (hin : vp_in i L ∧ vp_in (i + 1) L ∧ vp_in (i + 2) L ∧ vp_in (i + 3) L ∧ vp_in (i + 4) L) (hcs : cells + 1 ≤ 603072 ∧ slots + 6 ≤ 7186538) {k : Int32} {r : Int32} {f1 : Nat → Int64} {σ1 σ2 : gS} (h1 : L_errorPosition σ f = some (k, f1, σ1)) (h2 : X7_errorPosition σ1 = some (r, σ2)) (h3 : σ2 132 8 = k) (h4 : k = 0 → f1 0 = r.toInt64)
    (kk : ∀ (ls : Array Slot) (H : Heap) (locs : List Loc), lv_has ls 8 (g_ll b oa od ad i) → g_W (fun q => s.heap.size ≤ q) s.heap D y ad (g_X2 cL cD oa od f1 fd) σ2 H locs → W p l e room_1 s m #[Value.ref b] below meth c H locs (cells + 1) (slots + 6) Q (F0 m 2293 ls [])) : W p l e room_1 s m #[Value.ref b] below meth c H locs cells slots Q (F0 m 2148 ls []) := by
  obtain ⟨hC, hKL, hKD, hY, hX, hbl⟩ := G
  have hx := hC.1
  have hcd := hC.2.1
  have hbA : ¬ (s.heap.size ≤ b) := Nat.not_le.mpr hbl
  have hr1 : cells + 1 + 0 ≤ room_1.cells ∧ slots + 6 + 0 ≤ room_1.slots := ⟨hcs.1, hcs.2⟩
  obtain rfl := h3
  refine lv_aload_n hx hcd dL_law_2148 rfl (lv_at hl 1 rfl) ?_
  refine lv_aload_n hx hcd dL_law_2149 rfl (lv_at hl 3 rfl) ?_
  refine g_callL (j := 0) (As := [.ref (ad 0), .ref oa]) (rest := []) hC hKL hY hW rfl (c_L_errorPosition l hfl D y ad σ _ cL oa f h1) ok_L_245 ⟨rfl, rfl, Nat.le_of_ble_eq_true rfl, Nat.le_of_ble_eq_true rfl⟩ rfl hl.1 rfl (Nat.le_of_ble_eq_true rfl) dL_law_2150 hcs (fun H locs hW => ?_)
  replace hW : g_W (fun q => s.heap.size ≤ q) s.heap D y ad (g_X2 cL cD oa od f1 fd) σ1 H locs := hW
  refine lv_istore (lv' := [(6, .int (σ2 132 8)), (0, .ref b), (1, .ref (ad 0)), (2, .ref (ad 132)), (3, .ref oa), (4, .ref od), (5, .int i)]) hx hcd dL_law_2153 hl (by decide) rfl (fun ls hl => ?_)
  refine lv_aload_n hx hcd dL_law_2155 rfl (lv_at hl 3 rfl) ?_
  refine g_calli hW (g_runV (i := 132) (As := []) (rest := []) hC hW (c_X7_errorPosition l D y ad σ1 _ h2) ok_L_247 ⟨rfl, rfl, Nat.le_of_ble_eq_true rfl, Nat.le_of_ble_eq_true rfl⟩ (by decide) rfl rfl rfl rfl hl.1 rfl (Nat.le_of_ble_eq_true rfl) dL_law_2156 hr1) (fun H locs hW => ?_)
  refine lv_istore (lv' := [(7, .int r), (6, .int (σ2 132 8)), (0, .ref b), (1, .ref (ad 0)), (2, .ref (ad 132)), (3, .ref oa), (4, .ref od), (5, .int i)]) hx hcd dL_law_2159 hl (by decide) rfl (fun ls hl => ?_)
  refine lv_aload_n hx hcd dL_law_2161 rfl (lv_at hl 4 rfl) ?_
  refine g_calli hW (g_runV (i := 132) (As := []) (rest := []) hC hW (c_X7_thrown l D y ad σ2 _ (show X7_thrown σ2 = some (σ2 132 8) from rfl)) ok_L_137 ⟨rfl, rfl, Nat.le_of_ble_eq_true rfl, Nat.le_of_ble_eq_true rfl⟩ (by decide) rfl rfl rfl rfl hl.1 rfl (Nat.le_of_ble_eq_true rfl) dL_law_2162 hr1) (fun H locs hW => ?_)
  refine lv_iload hx hcd dL_law_2165 (lv_at hl 1 rfl) ?_
  refine lv_icmp_eq (tgt := 2172) hx hcd dL_law_2167 (by decide) (fun _ => ?_) (fun c9 => absurd rfl c9)
  refine lv_iload hx hcd dL_law_2172 (lv_at hl 1 rfl) ?_
  refine lv_if_ne (tgt := 2189) hx hcd dL_law_2174 (by decide) (fun c8 => ?_) (fun c8 => ?_)
  · clear h4
    refine lv_goto (tgt := 2293) hx hcd dL_law_2189 (by decide) ?_
    exact kk _ _ _ (lv_sub hl [2, 3, 4, 5, 6, 7] rfl) hW
  · replace h4 := h4 c8
    refine lv_aload_n hx hcd dL_law_2177 rfl (lv_at hl 5 rfl) ?_
    refine lv_iconst (v := 0) hx hcd dL_law_2178 (by decide) ?_
    refine va_lald hx hcd hKL hW.1 143 0 g_X2_0 rfl (i := 0) (vp_in_nI (n := 0) (by omega) (by omega)) dL_law_2179 ?_
    refine lv_iload hx hcd dL_law_2180 (lv_at hl 0 rfl) ?_
    refine lv_i2l (v := r.toInt64) hx hcd dL_law_2182 rfl ?_
    refine W.lcmp hx hcd dL_law_2183 ?_
    refine lv_if_eq (tgt := 2189) hx hcd dL_law_2184 (by decide) (fun _ => ?_) (fun c9 => absurd ((lg_cmp_eq _ _).mpr h4) c9)
    refine lv_goto (tgt := 2293) hx hcd dL_law_2189 (by decide) ?_
    exact kk _ _ _ (lv_sub hl [2, 3, 4, 5, 6, 7] rfl) hW
set_option maxHeartbeats 4000000 in
set_option maxRecDepth 100000 in
theorem w_undo (hfl : l.stackTraces = false) (G : g_lw p s m c b L xs D y cL cD) (hl : lv_has ls 8 (g_ll b oa od ad i)) (hW : g_W (fun q => s.heap.size ≤ q) s.heap D y ad (g_X2 cL cD oa od f fd) σ H locs) (hin : vp_in i L ∧ vp_in (i + 1) L ∧ vp_in (i + 2) L ∧ vp_in (i + 3) L ∧ vp_in (i + 4) L) (hcs : cells + 1 ≤ 603072 ∧ slots + 6 ≤ 7186538) {k : Int32} {r : Int32} {f1 : Nat → Int64} {σ1 σ2 : gS} (h1 : L_undo σ f = some (k, f1, σ1)) (h2 : X7_undo σ1 = some (r, σ2)) (h3 : σ2 132 8 = k) (h4 : k = 0 → f1 0 = r.toInt64)
    (kk : ∀ (ls : Array Slot) (H : Heap) (locs : List Loc), lv_has ls 8 (g_ll b oa od ad i) → g_W (fun q => s.heap.size ≤ q) s.heap D y ad (g_X2 cL cD oa od f1 fd) σ2 H locs → W p l e room_1 s m #[Value.ref b] below meth c H locs (cells + 1) (slots + 6) Q (F0 m 2293 ls [])) : W p l e room_1 s m #[Value.ref b] below meth c H locs cells slots Q (F0 m 2192 ls []) := by
  obtain ⟨hC, hKL, hKD, hY, hX, hbl⟩ := G
  have hx := hC.1
  have hcd := hC.2.1
  have hbA : ¬ (s.heap.size ≤ b) := Nat.not_le.mpr hbl
  have hr1 : cells + 1 + 0 ≤ room_1.cells ∧ slots + 6 + 0 ≤ room_1.slots := ⟨hcs.1, hcs.2⟩
  obtain rfl := h3
  refine lv_aload_n hx hcd dL_law_2192 rfl (lv_at hl 1 rfl) ?_
  refine lv_aload_n hx hcd dL_law_2193 rfl (lv_at hl 3 rfl) ?_
  refine g_callL (j := 0) (As := [.ref (ad 0), .ref oa]) (rest := []) hC hKL hY hW rfl (c_L_undo l hfl D y ad σ _ cL oa f h1) ok_L_248 ⟨rfl, rfl, Nat.le_of_ble_eq_true rfl, Nat.le_of_ble_eq_true rfl⟩ rfl hl.1 rfl (Nat.le_of_ble_eq_true rfl) dL_law_2194 hcs (fun H locs hW => ?_)
  replace hW : g_W (fun q => s.heap.size ≤ q) s.heap D y ad (g_X2 cL cD oa od f1 fd) σ1 H locs := hW
  refine lv_istore (lv' := [(6, .int (σ2 132 8)), (0, .ref b), (1, .ref (ad 0)), (2, .ref (ad 132)), (3, .ref oa), (4, .ref od), (5, .int i)]) hx hcd dL_law_2197 hl (by decide) rfl (fun ls hl => ?_)
  refine lv_aload_n hx hcd dL_law_2199 rfl (lv_at hl 3 rfl) ?_
  refine g_calli hW (g_runV (i := 132) (As := []) (rest := []) hC hW (c_X7_undo l D y ad σ1 _ h2) ok_L_250 ⟨rfl, rfl, Nat.le_of_ble_eq_true rfl, Nat.le_of_ble_eq_true rfl⟩ (by decide) rfl rfl rfl rfl hl.1 rfl (Nat.le_of_ble_eq_true rfl) dL_law_2200 hr1) (fun H locs hW => ?_)
  refine lv_istore (lv' := [(7, .int r), (6, .int (σ2 132 8)), (0, .ref b), (1, .ref (ad 0)), (2, .ref (ad 132)), (3, .ref oa), (4, .ref od), (5, .int i)]) hx hcd dL_law_2203 hl (by decide) rfl (fun ls hl => ?_)
  refine lv_aload_n hx hcd dL_law_2205 rfl (lv_at hl 4 rfl) ?_
  refine g_calli hW (g_runV (i := 132) (As := []) (rest := []) hC hW (c_X7_thrown l D y ad σ2 _ (show X7_thrown σ2 = some (σ2 132 8) from rfl)) ok_L_137 ⟨rfl, rfl, Nat.le_of_ble_eq_true rfl, Nat.le_of_ble_eq_true rfl⟩ (by decide) rfl rfl rfl rfl hl.1 rfl (Nat.le_of_ble_eq_true rfl) dL_law_2206 hr1) (fun H locs hW => ?_)
  refine lv_iload hx hcd dL_law_2209 (lv_at hl 1 rfl) ?_
  refine lv_icmp_eq (tgt := 2216) hx hcd dL_law_2211 (by decide) (fun _ => ?_) (fun c9 => absurd rfl c9)
  refine lv_iload hx hcd dL_law_2216 (lv_at hl 1 rfl) ?_
  refine lv_if_ne (tgt := 2233) hx hcd dL_law_2218 (by decide) (fun c8 => ?_) (fun c8 => ?_)
  · clear h4
    refine lv_goto (tgt := 2293) hx hcd dL_law_2233 (by decide) ?_
    exact kk _ _ _ (lv_sub hl [2, 3, 4, 5, 6, 7] rfl) hW
  · replace h4 := h4 c8
    refine lv_aload_n hx hcd dL_law_2221 rfl (lv_at hl 5 rfl) ?_
    refine lv_iconst (v := 0) hx hcd dL_law_2222 (by decide) ?_
    refine va_lald hx hcd hKL hW.1 143 0 g_X2_0 rfl (i := 0) (vp_in_nI (n := 0) (by omega) (by omega)) dL_law_2223 ?_
    refine lv_iload hx hcd dL_law_2224 (lv_at hl 0 rfl) ?_
    refine lv_i2l (v := r.toInt64) hx hcd dL_law_2226 rfl ?_
    refine W.lcmp hx hcd dL_law_2227 ?_
    refine lv_if_eq (tgt := 2233) hx hcd dL_law_2228 (by decide) (fun _ => ?_) (fun c9 => absurd ((lg_cmp_eq _ _).mpr h4) c9)
    refine lv_goto (tgt := 2293) hx hcd dL_law_2233 (by decide) ?_
    exact kk _ _ _ (lv_sub hl [2, 3, 4, 5, 6, 7] rfl) hW
set_option maxHeartbeats 4000000 in
set_option maxRecDepth 100000 in
theorem w_save (hfl : l.stackTraces = false) (G : g_lw p s m c b L xs D y cL cD) (hl : lv_has ls 8 (g_ll b oa od ad i)) (hW : g_W (fun q => s.heap.size ≤ q) s.heap D y ad (g_X2 cL cD oa od f fd) σ H locs) (hin : vp_in i L ∧ vp_in (i + 1) L ∧ vp_in (i + 2) L ∧ vp_in (i + 3) L ∧ vp_in (i + 4) L) (hcs : cells + 1 ≤ 603072 ∧ slots + 6 ≤ 7186538) {r : Int32} {σ1 σ2 : gS} (h1 : X6_save σ = some (r, σ1)) (h2 : X7_save σ1 = some (r, σ2))
    (kk : ∀ (ls : Array Slot) (H : Heap) (locs : List Loc), lv_has ls 8 (g_ll b oa od ad i) → g_W (fun q => s.heap.size ≤ q) s.heap D y ad (g_X2 cL cD oa od f fd) σ2 H locs → W p l e room_1 s m #[Value.ref b] below meth c H locs (cells + 1) (slots + 6) Q (F0 m 2293 ls [])) : W p l e room_1 s m #[Value.ref b] below meth c H locs cells slots Q (F0 m 2236 ls []) := by
  obtain ⟨hC, hKL, hKD, hY, hX, hbl⟩ := G
  have hx := hC.1
  have hcd := hC.2.1
  have hbA : ¬ (s.heap.size ≤ b) := Nat.not_le.mpr hbl
  have hr0 : cells + 0 ≤ room_1.cells ∧ slots + 0 ≤ room_1.slots := ⟨Nat.le_trans (Nat.le_add_right cells 1) hcs.1, Nat.le_trans (Nat.le_add_right slots 6) hcs.2⟩
  refine lv_aload_n hx hcd dL_law_2236 rfl (lv_at hl 1 rfl) ?_
  refine g_calli hW (g_runV (i := 0) (As := []) (rest := []) hC hW (c_X6_save l D y ad σ _ h1) ok_L_251 ⟨rfl, rfl, Nat.le_of_ble_eq_true rfl, Nat.le_of_ble_eq_true rfl⟩ (by decide) rfl rfl rfl rfl hl.1 rfl (Nat.le_of_ble_eq_true rfl) dL_law_2237 hr0) (fun H locs hW => ?_)
  refine lv_aload_n hx hcd dL_law_2240 rfl (lv_at hl 2 rfl) ?_
  refine g_calli hW (g_runV (i := 132) (As := []) (rest := [.int r]) hC hW (c_X7_save l D y ad σ1 _ h2) ok_L_254 ⟨rfl, rfl, Nat.le_of_ble_eq_true rfl, Nat.le_of_ble_eq_true rfl⟩ (by decide) rfl rfl rfl rfl hl.1 rfl (Nat.le_of_ble_eq_true rfl) dL_law_2241 hr0) (fun H locs hW => ?_)
  refine lv_icmp_eq (tgt := 2293) hx hcd dL_law_2244 (by decide) (fun _ => ?_) (fun c9 => absurd rfl c9)
  exact W.widen (Nat.le_add_right _ 1) (Nat.le_add_right _ 6) (kk _ _ _ (lv_sub hl [0, 1, 2, 3, 4, 5] rfl) hW)
set_option maxHeartbeats 4000000 in
set_option maxRecDepth 100000 in
theorem w_restore (hfl : l.stackTraces = false) (G : g_lw p s m c b L xs D y cL cD) (hl : lv_has ls 8 (g_ll b oa od ad i)) (hW : g_W (fun q => s.heap.size ≤ q) s.heap D y ad (g_X2 cL cD oa od f fd) σ H locs) (hin : vp_in i L ∧ vp_in (i + 1) L ∧ vp_in (i + 2) L ∧ vp_in (i + 3) L ∧ vp_in (i + 4) L) (hcs : cells + 1 ≤ 603072 ∧ slots + 6 ≤ 7186538) {k : Int32} {r : Int32} {f1 : Nat → Int64} {σ1 σ2 : gS} (h1 : L_restore σ f = some (k, f1, σ1)) (h2 : X7_restore σ1 = some (r, σ2)) (h3 : σ2 132 8 = k) (h4 : k = 0 → f1 0 = r.toInt64)
    (kk : ∀ (ls : Array Slot) (H : Heap) (locs : List Loc), lv_has ls 8 (g_ll b oa od ad i) → g_W (fun q => s.heap.size ≤ q) s.heap D y ad (g_X2 cL cD oa od f1 fd) σ2 H locs → W p l e room_1 s m #[Value.ref b] below meth c H locs (cells + 1) (slots + 6) Q (F0 m 2293 ls [])) : W p l e room_1 s m #[Value.ref b] below meth c H locs cells slots Q (F0 m 2249 ls []) := by
  obtain ⟨hC, hKL, hKD, hY, hX, hbl⟩ := G
  have hx := hC.1
  have hcd := hC.2.1
  have hbA : ¬ (s.heap.size ≤ b) := Nat.not_le.mpr hbl
  have hr1 : cells + 1 + 0 ≤ room_1.cells ∧ slots + 6 + 0 ≤ room_1.slots := ⟨hcs.1, hcs.2⟩
  obtain rfl := h3
  refine lv_aload_n hx hcd dL_law_2249 rfl (lv_at hl 1 rfl) ?_
  refine lv_aload_n hx hcd dL_law_2250 rfl (lv_at hl 3 rfl) ?_
  refine g_callL (j := 0) (As := [.ref (ad 0), .ref oa]) (rest := []) hC hKL hY hW rfl (c_L_restore l hfl D y ad σ _ cL oa f h1) ok_L_255 ⟨rfl, rfl, Nat.le_of_ble_eq_true rfl, Nat.le_of_ble_eq_true rfl⟩ rfl hl.1 rfl (Nat.le_of_ble_eq_true rfl) dL_law_2251 hcs (fun H locs hW => ?_)
  replace hW : g_W (fun q => s.heap.size ≤ q) s.heap D y ad (g_X2 cL cD oa od f1 fd) σ1 H locs := hW
  refine lv_istore (lv' := [(6, .int (σ2 132 8)), (0, .ref b), (1, .ref (ad 0)), (2, .ref (ad 132)), (3, .ref oa), (4, .ref od), (5, .int i)]) hx hcd dL_law_2254 hl (by decide) rfl (fun ls hl => ?_)
  refine lv_aload_n hx hcd dL_law_2256 rfl (lv_at hl 3 rfl) ?_
  refine g_calli hW (g_runV (i := 132) (As := []) (rest := []) hC hW (c_X7_restore l D y ad σ1 _ h2) ok_L_257 ⟨rfl, rfl, Nat.le_of_ble_eq_true rfl, Nat.le_of_ble_eq_true rfl⟩ (by decide) rfl rfl rfl rfl hl.1 rfl (Nat.le_of_ble_eq_true rfl) dL_law_2257 hr1) (fun H locs hW => ?_)
  refine lv_istore (lv' := [(7, .int r), (6, .int (σ2 132 8)), (0, .ref b), (1, .ref (ad 0)), (2, .ref (ad 132)), (3, .ref oa), (4, .ref od), (5, .int i)]) hx hcd dL_law_2260 hl (by decide) rfl (fun ls hl => ?_)
  refine lv_aload_n hx hcd dL_law_2262 rfl (lv_at hl 4 rfl) ?_
  refine g_calli hW (g_runV (i := 132) (As := []) (rest := []) hC hW (c_X7_thrown l D y ad σ2 _ (show X7_thrown σ2 = some (σ2 132 8) from rfl)) ok_L_137 ⟨rfl, rfl, Nat.le_of_ble_eq_true rfl, Nat.le_of_ble_eq_true rfl⟩ (by decide) rfl rfl rfl rfl hl.1 rfl (Nat.le_of_ble_eq_true rfl) dL_law_2263 hr1) (fun H locs hW => ?_)
  refine lv_iload hx hcd dL_law_2266 (lv_at hl 1 rfl) ?_
  refine lv_icmp_eq (tgt := 2273) hx hcd dL_law_2268 (by decide) (fun _ => ?_) (fun c9 => absurd rfl c9)
  refine lv_iload hx hcd dL_law_2273 (lv_at hl 1 rfl) ?_
  refine lv_if_ne (tgt := 2290) hx hcd dL_law_2275 (by decide) (fun c8 => ?_) (fun c8 => ?_)
  · clear h4
    refine lv_goto (tgt := 2293) hx hcd dL_law_2290 (by decide) ?_
    exact kk _ _ _ (lv_sub hl [2, 3, 4, 5, 6, 7] rfl) hW
  · replace h4 := h4 c8
    refine lv_aload_n hx hcd dL_law_2278 rfl (lv_at hl 5 rfl) ?_
    refine lv_iconst (v := 0) hx hcd dL_law_2279 (by decide) ?_
    refine va_lald hx hcd hKL hW.1 143 0 g_X2_0 rfl (i := 0) (vp_in_nI (n := 0) (by omega) (by omega)) dL_law_2280 ?_
    refine lv_iload hx hcd dL_law_2281 (lv_at hl 0 rfl) ?_
    refine lv_i2l (v := r.toInt64) hx hcd dL_law_2283 rfl ?_
    refine W.lcmp hx hcd dL_law_2284 ?_
    refine lv_if_eq (tgt := 2290) hx hcd dL_law_2285 (by decide) (fun _ => ?_) (fun c9 => absurd ((lg_cmp_eq _ _).mpr h4) c9)
    refine lv_goto (tgt := 2293) hx hcd dL_law_2290 (by decide) ?_
    exact kk _ _ _ (lv_sub hl [2, 3, 4, 5, 6, 7] rfl) hW
end LW
