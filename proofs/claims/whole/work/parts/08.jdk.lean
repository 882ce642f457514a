/-! ===== Arrays.fill over an int row of the world ===== -/
section FI
variable {p : Program} {l : Launch} {e : Env} {R : Room} {s : State} {m : MethodId} {args : Array Value} {below : List Frame} {meth : Method} {c : Code} {H : Heap} {locs : List Loc} {cells slots : Nat} {Q : State → Prop}
variable {cc : ByteArray} {pc nL : Nat} {ls : Array Slot} {rest : List Value} {own : String} {D : va_G} {y : ClassId × ClassId × ClassId} {A : Nat → Prop} {H0 : Heap} {ad : Nat → Nat} {X : va_W} {σ : gS}
theorem g_alen (hC : g_C p s m args c cc nL own D y) (hW : g_W A H0 D y ad X σ H locs) {i n : Nat} (hi : i < 143) (hsh : g_sh i = .inr (0, n)) (hdg : decode cc pc = .ok (.arraylength, 1))
    (kk : W p l e R s m args below meth c H locs cells slots Q (F0 m (pc + 1) ls (.int (nI n) :: rest))) : W p l e R s m args below meth c H locs cells slots Q (F0 m pc ls (.ref (ad i) :: rest)) := by
  obtain ⟨hx, hb, hml, hown, hts, hK⟩ := hC
  exact va_alen (x := (n, .inl (σ i))) hx hb hK hW.1 i 0 (by rw [g_wl_get y ad σ X hi, g_ce_int hsh]) rfl rfl hdg kk
theorem ib_nI {t n : Nat} (h : t < n) (hn : n < 2 ^ 31) : ib (nI t) n = true := by
  unfold ib
  rw [nI_toInt (by omega)]
  exact decide_eq_true ⟨by omega, by omega⟩
theorem g_fill_step {i t : Nat} {v : Int32} (ht : t < 2 ^ 31) : g_up (g_row σ i (fun j => if j < t then v else σ i j)) i (nI t).toNatClampNeg v = g_row σ i (fun j => if j < t + 1 then v else σ i j) := by
  funext a b
  rw [nI_clamp ht]
  unfold g_up g_row
  by_cases ha : a = i
  · subst ha
    by_cases hb : b = t
    · subst hb
      simp
    · by_cases h2 : b < t
      · rw [if_neg (fun q => hb q.2), if_pos rfl, if_pos rfl]
        show (if b < t then v else σ a b) = if b < t + 1 then v else σ a b
        rw [if_pos h2, if_pos (by omega)]
      · rw [if_neg (fun q => hb q.2), if_pos rfl, if_pos rfl]
        show (if b < t then v else σ a b) = if b < t + 1 then v else σ a b
        rw [if_neg h2, if_neg (by omega)]
  · rw [if_neg (fun q => ha q.1), if_neg ha, if_neg ha]
set_option maxHeartbeats 4000000 in
set_option maxRecDepth 100000 in
theorem l_fill (hC : g_C p s m args c cJ7_fill_53178 4 RJ7 D y) (hr : meth.sig.returnType = none) (hlk : meth.locks = false) {sz : Nat} (hsz : s.heap.size = sz) {i n : Nat} (hi : i < 143) (hsh : g_sh i = .inr (0, n)) (hn : n < 2 ^ 31) (v : Int32) : ∀ (k t : Nat), t + k = n → ∀ (H : Heap) (locs : List Loc) (ls : Array Slot), g_W (g_A ad sz) s.heap D y ad [] (g_row σ i (fun j => if j < t then v else σ i j)) H locs → lv_has ls 4 [(0, .ref (ad i)), (1, .int v), (2, .int (nI t)), (3, .int (nI n))] →
    W p l e R s m args below meth c H locs 0 0 (MQ below (g_Qv D y ad (g_fill σ i n v) sz) args s 0 0 (g_A ad sz)) (F0 m 5 ls [])
  | k, t, ht => by
    intro H locs ls hW hl
    have hx := hC.1
    have hcd := hC.2.1
    refine lv_iload_n hx hcd dJ7_fill_53178_5 rfl (lv_at hl 2 rfl) ?_
    refine lv_iload_n hx hcd dJ7_fill_53178_6 rfl (lv_at hl 3 rfl) ?_
    refine lv_icmp_ge (tgt := 20) hx hcd dJ7_fill_53178_7 (by decide) (fun c1 => ?_) (fun c1 => ?_)
    · have e0 : t = n := by
        rcases Nat.lt_or_ge t n with q | q
        · exact absurd c1 (nI_ge q hn)
        · omega
      subst e0
      exact g_vret hC hr hlk hsz hW dJ7_fill_53178_20
    · have h1 : t < n := by
        rcases Nat.lt_or_ge t n with q | q
        · exact q
        · exact absurd (nI_le q (by omega)) c1
      refine lv_aload_n hx hcd dJ7_fill_53178_10 rfl (lv_at hl 0 rfl) ?_
      refine lv_iload_n hx hcd dJ7_fill_53178_11 rfl (lv_at hl 2 rfl) ?_
      refine lv_iload_n hx hcd dJ7_fill_53178_12 rfl (lv_at hl 1 rfl) ?_
      refine g_iast hC hW hi hsh (ib_nI h1 hn) dJ7_fill_53178_13 (fun H locs hW => ?_)
      rw [g_fill_step (by omega)] at hW
      refine lv_iinc (v := nI (t + 1)) (lv' := [(2, .int (nI (t + 1))), (0, .ref (ad i)), (1, .int v), (3, .int (nI n))]) hx hcd dJ7_fill_53178_14 hl (k := 2) rfl (by rw [← nI_1]; rfl) (by decide) rfl (fun ls hl => ?_)
      refine lv_goto (tgt := 5) hx hcd dJ7_fill_53178_17 (by decide) ?_
      obtain ⟨k', rfl⟩ : ∃ k', k = k' + 1 := ⟨k - 1, by omega⟩
      exact l_fill hC hr hlk hsz hi hsh hn v k' (t + 1) (by omega) H locs ls hW (lv_sub hl [1, 2, 0, 3] rfl)
end FI
set_option maxHeartbeats 4000000 in
set_option maxRecDepth 100000 in
theorem c_fill (l : Launch) (D : va_G) (y : ClassId × ClassId × ClassId) (ad : Nat → Nat) {i n : Nat} (hi : i < 143) (hsh : g_sh i = .inr (0, n)) (hn : n < 2 ^ 31) (v : Int32) (σ : gS) (sz : Nat) : Met l yJ7_fill_53178 (Cond.code yJ7_fill_53178 cJ7_fill_53178 4 none :: gl) ({ frames := 0, cells := 0, slots := 0, locals := 0 }) (g_Pc D y ad σ sz [.ref (ad i), .int v]) (g_Qv D y ad (g_fill σ i n v) sz) 0 0 (g_A ad sz) := by
  refine g_start (by decide) (Nat.le_of_ble_eq_true rfl) (fun p e s m below meth c ls hC hr hlk hsz hW hl => ?_)
  have hx := hC.1
  have hcd := hC.2.1
  have hl : lv_has ls 4 [(0, .ref (ad i)), (1, .int v)] := hl
  refine lv_iconst (v := 0) hx hcd dJ7_fill_53178_0 (by decide) ?_
  refine lv_istore_n (lv' := [(2, .int 0), (0, .ref (ad i)), (1, .int v)]) hx hcd dJ7_fill_53178_1 rfl hl (by decide) rfl (fun ls hl => ?_)
  refine lv_aload_n hx hcd dJ7_fill_53178_2 rfl (lv_at hl 1 rfl) ?_
  refine g_alen hC hW hi hsh dJ7_fill_53178_3 ?_
  refine lv_istore_n (lv' := [(3, .int (nI n)), (2, .int 0), (0, .ref (ad i)), (1, .int v)]) hx hcd dJ7_fill_53178_4 rfl hl (by decide) rfl (fun ls hl => ?_)
  have e0 : g_row σ i (fun j => if j < 0 then v else σ i j) = σ := by
    funext a b
    unfold g_row
    by_cases ha : a = i
    · subst ha; rw [if_pos rfl]; simp
    · rw [if_neg ha]
  rw [← e0] at hW
  exact l_fill (σ := σ) hC hr hlk hsz hi hsh hn v n 0 (by omega) _ _ _ hW (lv_sub hl [2, 3, 1, 0] rfl)
