/-! ===== the constructors ===== -/
theorem s_rep {A : Nat → Prop} {H0 : Heap} {D : va_G} {ws : va_W} {H : Heap} {locs : List Loc} {k q : Nat} {e e' : va_E} (hW : s_W A H0 D ws H locs) (hk : ws[k]? = some (q, e)) (h : va_at D vwCl (q, e) H → va_at D vwCl (q, e') H) : s_W A H0 D (ws.set k (q, e')) H locs := by
  obtain ⟨hP, hD, hS, hA⟩ := hW
  exact ⟨hP.set hD hk (h (hP k _ hk)) (fun _ _ => rfl), hD.set hk, hS, hA⟩
theorem s_cellq {D : va_G} {H : Heap} {q n : Nat} {cA : ClassId} {f g : Nat → Option Nat} (hfg : ∀ j, j < n → f j = g j) (h : va_at D vwCl (q, .inl (cA, n, .inr (.inr (.inr (.inr f))))) H) : va_at D vwCl (q, .inl (cA, n, .inr (.inr (.inr (.inr g))))) H := by
  have h1 : H[q]? = some (vp_cell cA (n, .inr (.inr (.inr (.inr f))))) := h
  show H[q]? = some (vp_cell cA (n, .inr (.inr (.inr (.inr g)))))
  rw [h1, vp_cell_q, vp_cell_q]
  unfold arrV
  have e1 : (Array.ofFn (n := n) fun j => va_rf (f j.val)) = Array.ofFn (n := n) fun j => va_rf (g j.val) := congrArg Array.ofFn (funext fun j => by rw [hfg j.val j.isLt])
  rw [e1]
def w_air (y : ClassId × ClassId × ClassId) (h : Nat) (a : Nat → Nat) : va_W := [(h, .inr (2, [.int 0, .int 0, .int 15, .int 0, .int 0, .ref (a 1), .ref (a 2), .ref (a 3), .ref (a 4), .ref (a 5), .ref (a 6), .ref (a 7), .ref (a 8), .ref (a 9), .ref (a 10), .ref (a 11)]))] ++ [(a 1, .inl (y.1, 8, .inl fun _ => 0))] ++ [(a 2, .inl (y.1, 8, .inl fun _ => 0))] ++ [(a 3, .inl (y.1, 64, .inl fun _ => 0))] ++ [(a 4, .inl (y.1, 10, .inl fun _ => 0))] ++ [(a 5, .inl (y.1, 10, .inl fun _ => 0))] ++ [(a 6, .inl (y.1, 10, .inl fun _ => 0))] ++ [(a 7, .inl (y.1, 10, .inl fun _ => 0))] ++ [(a 8, .inl (y.1, 10, .inl fun _ => 0))] ++ [(a 9, .inl (y.1, 20, .inl fun _ => 0))] ++ [(a 10, .inl (y.1, 20, .inl fun _ => 0))] ++ [(a 11, .inl (y.1, 20, .inl fun j => if j < 20 then (-1) else 0))]
def w_cla (y : ClassId × ClassId × ClassId) (h : Nat) (a : Nat → Nat) : va_W := [(h, .inr (3, [.ref (a 1), .ref (a 2), .ref (a 3), .ref (a 4), .int 0, .int 0, .int 0])), (a 1, .inl (y.1, 160, .inl fun _ => 0)), (a 2, .inl (y.1, 20, .inl fun _ => 0)), (a 3, .inl (y.1, 20, .inl fun _ => 0)), (a 4, .inl (y.1, 20, .inl fun _ => 0))]
def w_evr (y : ClassId × ClassId × ClassId) (h : Nat) (a : Nat → Nat) : va_W := [(h, .inr (4, [.ref (a 0), .ref (a 5), .ref (a 6), .int 0]))] ++ w_cla y (a 0) a ++ [(a 5, .inl (y.1, 3, .inl fun _ => 0))] ++ [(a 6, .inl (y.1, 3, .inl fun _ => 0))]
def w_fst (y : ClassId × ClassId × ClassId) (h : Nat) (a : Nat → Nat) : va_W := [(h, .inr (5, [.ref (a 0), .ref (a 5), .ref (a 6), .ref (a 7), .int 0]))] ++ w_cla y (a 0) a ++ [(a 5, .inl (y.1, 3, .inl fun _ => 0))] ++ [(a 6, .inl (y.1, 3, .inl fun _ => 0))] ++ [(a 7, .inl (y.1, 3, .inl fun _ => 0))]
def w_txt (y : ClassId × ClassId × ClassId) (h : Nat) (a : Nat → Nat) : va_W := [(h, .inr (7, [.ref (a 0), .ref (a 1), .int 0, .int 0, .int 0, .int 0]))] ++ [(a 0, .inl (y.2.1, 60, .inl fun _ => 0))] ++ [(a 1, .inl (y.1, 3, .inl fun _ => 0))]
def w_his (y : ClassId × ClassId × ClassId) (h r : Nat) (u : Nat → Nat → Nat) : va_W := [(h, .inr (6, [.ref r, .int 0, .int 0]))] ++ [(r, .inl (y.2.2, 6, .inr (.inr (.inr (.inr fun j => some (u j 0))))))] ++ w_air y (u 0 0) (u 0) ++ w_air y (u 1 0) (u 1) ++ w_air y (u 2 0) (u 2) ++ w_air y (u 3 0) (u 3) ++ w_air y (u 4 0) (u 4) ++ w_air y (u 5 0) (u 5)
section SFI
variable {p : Program} {l : Launch} {e : Env} {R : Room} {s : State} {m : MethodId} {args : Array Value} {below : List Frame} {meth : Method} {c : Code} {D : va_G} {y : ClassId × ClassId × ClassId}
set_option maxHeartbeats 4000000 in
set_option maxRecDepth 100000 in
theorem ls_fill (hC : g_C p s m args c cJ7_fill_53178 4 RJ7 D y) (hr : meth.sig.returnType = none) (hlk : meth.locks = false) {sz q n : Nat} {f : Nat → Int32} {w0 : va_W} (hsz : s.heap.size = sz) (hn : n < 2 ^ 31) (v : Int32) : ∀ (k t : Nat), t + k = n → ∀ (H : Heap) (locs : List Loc) (ls : Array Slot), s_W (va_A w0 sz) s.heap D [(q, .inl (y.1, n, .inl fun j => if j < t then v else f j))] H locs → lv_has ls 4 [(0, .ref q), (1, .int v), (2, .int (nI t)), (3, .int (nI n))] →
    W p l e R s m args below meth c H locs 0 0 (MQ below (s_Qv D (fun _ : Unit => [(q, .inl (y.1, n, .inl fun j => if j < n then v else f j))]) w0 sz) args s 0 0 (va_A w0 sz)) (F0 m 5 ls [])
  | k, t, ht => by
    intro H locs ls hW hl
    have hx := hC.1
    have hcd := hC.2.1
    refine lv_iload_n hx hcd dJ7_fill_53178_5 rfl (lv_at hl 2 rfl) ?_
    refine lv_iload_n hx hcd dJ7_fill_53178_6 rfl (lv_at hl 3 rfl) ?_
    refine lv_icmp_ge (tgt := 20) hx hcd dJ7_fill_53178_7 (by decide) (fun c1 => ?_) (fun c1 => ?_)
    · have e0 : t = n := by
        rcases Nat.lt_or_ge t n with q | q
        · exact absurd c1 (nI_ge q hn)
        · omega
      subst e0
      exact s_vret () hC hr hlk hsz hW dJ7_fill_53178_20
    · have h1 : t < n := by
        rcases Nat.lt_or_ge t n with q | q
        · exact q
        · exact absurd (nI_le q (by omega)) c1
      refine lv_aload_n hx hcd dJ7_fill_53178_10 rfl (lv_at hl 0 rfl) ?_
      refine lv_iload_n hx hcd dJ7_fill_53178_11 rfl (lv_at hl 2 rfl) ?_
      refine lv_iload_n hx hcd dJ7_fill_53178_12 rfl (lv_at hl 1 rfl) ?_
      obtain ⟨hP, hD, hS, hA⟩ := hW
      refine va_iast hx hcd hC.2.2.2.2.2 hP hD hS 0 0 rfl rfl (vp_in_nI h1 (by omega)) dJ7_fill_53178_13 (fun H locs hP hD hS => ?_)
      have e1 : upd (fun j => if j < t then v else f j) (nI t).toNatClampNeg v = fun j => if j < t + 1 then v else f j := by
        funext b
        rw [nI_clamp (by omega)]
        unfold upd
        by_cases hb : b = t
        · subst hb; simp
        · by_cases h2 : b < t
          · simp [hb, h2, Nat.lt_succ_of_lt h2]
          · simp [hb, h2, show ¬ b < t + 1 by omega]
      have hW : s_W (va_A w0 sz) s.heap D [(q, .inl (y.1, n, .inl fun j => if j < t + 1 then v else f j))] H locs := by
        rw [← e1]; exact ⟨hP, hD, hS, hA⟩
      refine lv_iinc (v := nI (t + 1)) (lv' := [(2, .int (nI (t + 1))), (0, .ref q), (1, .int v), (3, .int (nI n))]) hx hcd dJ7_fill_53178_14 hl (k := 2) rfl (by rw [← nI_1]; rfl) (by decide) rfl (fun ls hl => ?_)
      refine lv_goto (tgt := 5) hx hcd dJ7_fill_53178_17 (by decide) ?_
      obtain ⟨k', rfl⟩ : ∃ k', k = k' + 1 := ⟨k - 1, by omega⟩
      exact ls_fill hC hr hlk hsz hn v k' (t + 1) (by omega) H locs ls hW (lv_sub hl [1, 2, 0, 3] rfl)
end SFI
set_option maxHeartbeats 4000000 in
set_option maxRecDepth 100000 in
theorem cs_fill (l : Launch) (D : va_G) (y : ClassId × ClassId × ClassId) (q : Nat) {n : Nat} (hn : n < 2 ^ 31) (f : Nat → Int32) (v : Int32) (sz : Nat) : Met l yJ7_fill_53178 (Cond.code yJ7_fill_53178 cJ7_fill_53178 4 none :: gl) ({ frames := 0, cells := 0, slots := 0, locals := 0 }) (s_Pc D y [(q, .inl (y.1, n, .inl f))] sz [.ref q, .int v]) (s_Qv D (fun _ : Unit => [(q, .inl (y.1, n, .inl fun j => if j < n then v else f j))]) [(q, .inl (y.1, n, .inl f))] sz) 0 0 (va_A [(q, .inl (y.1, n, .inl f))] sz) := by
  refine s_start (by decide) (Nat.le_of_ble_eq_true rfl) (fun p e s m below meth c ls hC hr hlk hnm hO hsz hW hl => ?_)
  have hx := hC.1
  have hcd := hC.2.1
  have hl : lv_has ls 4 [(0, .ref q), (1, .int v)] := hl
  refine lv_iconst (v := 0) hx hcd dJ7_fill_53178_0 (by decide) ?_
  refine lv_istore_n (lv' := [(2, .int 0), (0, .ref q), (1, .int v)]) hx hcd dJ7_fill_53178_1 rfl hl (by decide) rfl (fun ls hl => ?_)
  refine lv_aload_n hx hcd dJ7_fill_53178_2 rfl (lv_at hl 1 rfl) ?_
  refine va_alen (x := (n, .inl f)) hx hcd hC.2.2.2.2.2 hW.1 0 0 rfl rfl rfl dJ7_fill_53178_3 ?_
  refine lv_istore_n (lv' := [(3, .int (nI n)), (2, .int 0), (0, .ref q), (1, .int v)]) hx hcd dJ7_fill_53178_4 rfl hl (by decide) rfl (fun ls hl => ?_)
  have e0 : (fun j => if j < 0 then v else f j) = f := funext fun j => if_neg (Nat.not_lt_zero j)
  refine ls_fill (f := f) hC hr hlk hsz hn v n 0 (by omega) _ _ _ ?_ (lv_sub hl [2, 3, 1, 0] rfl)
  rw [e0]
  exact hW
section SCS
variable {p : Program} {l : Launch} {e : Env} {R : Room} {s : State} {m : MethodId} {args : Array Value} {below : List Frame} {meth : Method} {c : Code} {H : Heap} {locs : List Loc} {cells slots : Nat} {Q : State → Prop}
variable {cc : ByteArray} {pc nL : Nat} {ls : Array Slot} {rest : List Value} {own : String} {D : va_G} {y : ClassId × ClassId × ClassId} {A : Nat → Prop} {H0 : Heap} {ws : va_W}
theorem s_fill (hC : g_C p s m args c cc nL own D y) (hO : va_AO RX0 s) {q n : Nat} {f : Nat → Int32} {v : Int32} (hn : n < 2 ^ 31) (hW : s_W A H0 D (ws ++ [(q, .inl (y.1, n, .inl f))]) H locs) {index : Nat} (ok : g_okS own index yJ7_fill_53178 cJ7_fill_53178 4 none 2) (hrm : 0 + 1 ≤ R.frames ∧ 8 + (4 + 11) + 0 ≤ R.locals) (hls : ls.size = nL) (hrest : (rest.map fun v => v.category).sum ≤ 8) (hdg : decode cc pc = .ok (.invokestatic index, 3)) (hcs : cells + 0 ≤ R.cells ∧ slots + 0 ≤ R.slots)
    (kk : ∀ (H1 : Heap) (locs1 : List Loc), s_W A H0 D (ws ++ [(q, .inl (y.1, n, .inl fun j => if j < n then v else f j))]) H1 locs1 → W p l e R s m args below meth c H1 locs1 cells slots Q (F0 m (pc + 3) ls rest)) : W p l e R s m args below meth c H locs cells slots Q (F0 m pc ls (.int v :: .ref q :: rest)) := by
  obtain ⟨hx, hb, hml, hown, hts, hK⟩ := hC
  obtain ⟨hP, hD, hS, hA⟩ := hW
  have hl : (ws ++ [(q, (.inl (y.1, n, .inl f) : va_E))])[ws.length]? = some (q, .inl (y.1, n, .inl f)) := by rw [List.getElem?_append_right (Nat.le_refl _), Nat.sub_self]; rfl
  have hP0 : va_P D vwCl [(q, .inl (y.1, n, .inl f))] H := fun k x hk => by
    have h1 := (List.getElem?_eq_some_iff.mp hk).1
    have h0 : k = 0 := by simp at h1; omega
    subst h0
    rw [← Option.some.inj hk]
    exact hP _ _ hl
  have hD0 : va_D (fun _ => True) [(q, (.inl (y.1, n, .inl f) : va_E))] := ⟨fun i j a b ha hb _ => by
    have h1 := (List.getElem?_eq_some_iff.mp ha).1
    have h2 := (List.getElem?_eq_some_iff.mp hb).1
    simp at h1 h2
    omega, fun _ _ _ => trivial⟩
  have hF : ∀ z, va_A [(q, .inl (y.1, n, .inl f))] H.size z → A z := by
    rintro z (⟨k, e2, h⟩ | h)
    · have h1 := (List.getElem?_eq_some_iff.mp h).1
      have h0 : k = 0 := by simp at h1; omega
      subst h0
      have h6 : q = z := congrArg Prod.fst (Option.some.inj h)
      rw [← h6]
      exact hD.2 _ _ hl
    · exact hA z (Nat.le_trans hS.1 h)
  refine va_callv (va_runS (As := [.ref q, .int v]) (rest := rest) ⟨hx, hb, hml, hown, hts⟩ (cs_fill l D y q hn f v H.size) (va_cwS 2 hts (g_goodS ok) rfl rfl rfl ok.2.2.2.2 ⟨hrm.1, hrm.2⟩) ⟨s_blind, fun U hU hW => ⟨rfl, by rw [hU], by rw [hU]; exact hP0, va_K.moved hW.alike hK, hD0, va_AO.moved hW.alike hO⟩⟩ rfl rfl hls rfl (lv_room hrest) hdg hcs) hS (fun z _ h => hF z h) hF (fun u t H1 locs1 ht hvm hw hB hz hk hS => ?_)
  obtain ⟨hP1, hD1⟩ := hB
  rw [ht] at hP1
  obtain ⟨hP2, hD2⟩ := s_join hP hD hF hk hP1 hD1
  exact kk H1 locs1 ⟨hP2, hD2, hS, hA⟩
end SCS
set_option maxHeartbeats 4000000 in
set_option maxRecDepth 100000 in
theorem c_X0_init (l : Launch) (D : va_G) (y : ClassId × ClassId × ClassId) (h : Nat) (sz : Nat) : Met l yX0_init (Cond.code yX0_init cX0_init 1 none :: gl) ({ frames := 1, cells := 11, slots := 190, locals := 23 }) (s_Pc D y [(h, .inr (2, [.int 0, .int 0, .int 0, .int 0, .int 0, .null, .null, .null, .null, .null, .null, .null, .null, .null, .null, .null]))] sz [.ref h]) (s_Qv D (fun a : Nat → Nat => w_air y h a) [(h, .inr (2, [.int 0, .int 0, .int 0, .int 0, .int 0, .null, .null, .null, .null, .null, .null, .null, .null, .null, .null, .null]))] sz) 11 190 (va_A [(h, .inr (2, [.int 0, .int 0, .int 0, .int 0, .int 0, .null, .null, .null, .null, .null, .null, .null, .null, .null, .null, .null]))] sz) := by
  refine s_start (by decide) (Nat.le_of_ble_eq_true rfl) (fun p e s m below meth c ls hC hr hlk hnm hO hsz hW hl => ?_)
  have hx := hC.1
  have hcd := hC.2.1
  have hl : lv_has ls 1 [(0, .ref h)] := hl
  refine lv_aload_n hx hcd dX0_init_0 rfl (lv_at hl 0 rfl) ?_
  refine s_obj hC hl.1 ol_X0 oi_i oi_c ⟨Nat.le_of_ble_eq_true rfl, Nat.le_of_ble_eq_true rfl⟩ dX0_init_1 ?_
  refine lv_aload_n hx hcd dX0_init_4 rfl (lv_at hl 0 rfl) ?_
  refine lv_bipush (v := 15) hx hcd dX0_init_5 (by decide) ?_
  refine s_put (q0 := 0) (T := TX0) (N := 16) (ci := 2) (k := 2) hC hW tyX0 inGX0 tyX0_ok nmX0 rfl rfl (by decide) fl_X0_9 rfl rfl rfl (Nat.le_of_ble_eq_true rfl) rfl dX0_init_7 (fun H locs hW => ?_)
  replace hW : s_W _ _ D ([(h, .inr (2, [.int 0, .int 0, .int 15, .int 0, .int 0, .null, .null, .null, .null, .null, .null, .null, .null, .null, .null, .null]))]) H locs := hW
  refine lv_aload_n hx hcd dX0_init_10 rfl (lv_at hl 0 rfl) ?_
  refine lv_bipush (v := 8) hx hcd dX0_init_11 (by decide) ?_
  refine s_newi (N := 8) hC hW (by decide) (by decide) (Nat.le_of_ble_eq_true rfl) ac_int ⟨Nat.le_of_ble_eq_true rfl, Nat.le_of_ble_eq_true rfl⟩ dX0_init_13 (fun q0 H hW => ?_)
  refine s_putF (q0 := 0) (T := TX0) (N := 16) (ci := 2) (k := 5) hC hnm hW tyX0 inGX0 tyX0_ok nmX0 rfl rfl (by decide) fl_X0_15 rfl rfl rfl rfl (Nat.le_of_ble_eq_true rfl) rfl dX0_init_15 (fun H locs hW => ?_)
  replace hW : s_W _ _ D ([(h, .inr (2, [.int 0, .int 0, .int 15, .int 0, .int 0, .ref q0, .null, .null, .null, .null, .null, .null, .null, .null, .null, .null]))] ++ [(q0, .inl (y.1, 8, .inl fun _ => 0))]) H locs := hW
  refine lv_aload_n hx hcd dX0_init_18 rfl (lv_at hl 0 rfl) ?_
  refine lv_bipush (v := 8) hx hcd dX0_init_19 (by decide) ?_
  refine s_newi (N := 8) hC hW (by decide) (by decide) (Nat.le_of_ble_eq_true rfl) ac_int ⟨Nat.le_of_ble_eq_true rfl, Nat.le_of_ble_eq_true rfl⟩ dX0_init_21 (fun q1 H hW => ?_)
  refine s_putF (q0 := 0) (T := TX0) (N := 16) (ci := 2) (k := 6) hC hnm hW tyX0 inGX0 tyX0_ok nmX0 rfl rfl (by decide) fl_X0_19 rfl rfl rfl rfl (Nat.le_of_ble_eq_true rfl) rfl dX0_init_23 (fun H locs hW => ?_)
  replace hW : s_W _ _ D ([(h, .inr (2, [.int 0, .int 0, .int 15, .int 0, .int 0, .ref q0, .ref q1, .null, .null, .null, .null, .null, .null, .null, .null, .null]))] ++ [(q0, .inl (y.1, 8, .inl fun _ => 0))] ++ [(q1, .inl (y.1, 8, .inl fun _ => 0))]) H locs := hW
  refine lv_aload_n hx hcd dX0_init_26 rfl (lv_at hl 0 rfl) ?_
  refine lv_bipush (v := 64) hx hcd dX0_init_27 (by decide) ?_
  refine s_newi (N := 64) hC hW (by decide) (by decide) (Nat.le_of_ble_eq_true rfl) ac_int ⟨Nat.le_of_ble_eq_true rfl, Nat.le_of_ble_eq_true rfl⟩ dX0_init_29 (fun q2 H hW => ?_)
  refine s_putF (q0 := 0) (T := TX0) (N := 16) (ci := 2) (k := 7) hC hnm hW tyX0 inGX0 tyX0_ok nmX0 rfl rfl (by decide) fl_X0_22 rfl rfl rfl rfl (Nat.le_of_ble_eq_true rfl) rfl dX0_init_31 (fun H locs hW => ?_)
  replace hW : s_W _ _ D ([(h, .inr (2, [.int 0, .int 0, .int 15, .int 0, .int 0, .ref q0, .ref q1, .ref q2, .null, .null, .null, .null, .null, .null, .null, .null]))] ++ [(q0, .inl (y.1, 8, .inl fun _ => 0))] ++ [(q1, .inl (y.1, 8, .inl fun _ => 0))] ++ [(q2, .inl (y.1, 64, .inl fun _ => 0))]) H locs := hW
  refine lv_aload_n hx hcd dX0_init_34 rfl (lv_at hl 0 rfl) ?_
  refine lv_bipush (v := 10) hx hcd dX0_init_35 (by decide) ?_
  refine s_newi (N := 10) hC hW (by decide) (by decide) (Nat.le_of_ble_eq_true rfl) ac_int ⟨Nat.le_of_ble_eq_true rfl, Nat.le_of_ble_eq_true rfl⟩ dX0_init_37 (fun q3 H hW => ?_)
  refine s_putF (q0 := 0) (T := TX0) (N := 16) (ci := 2) (k := 8) hC hnm hW tyX0 inGX0 tyX0_ok nmX0 rfl rfl (by decide) fl_X0_25 rfl rfl rfl rfl (Nat.le_of_ble_eq_true rfl) rfl dX0_init_39 (fun H locs hW => ?_)
  replace hW : s_W _ _ D ([(h, .inr (2, [.int 0, .int 0, .int 15, .int 0, .int 0, .ref q0, .ref q1, .ref q2, .ref q3, .null, .null, .null, .null, .null, .null, .null]))] ++ [(q0, .inl (y.1, 8, .inl fun _ => 0))] ++ [(q1, .inl (y.1, 8, .inl fun _ => 0))] ++ [(q2, .inl (y.1, 64, .inl fun _ => 0))] ++ [(q3, .inl (y.1, 10, .inl fun _ => 0))]) H locs := hW
  refine lv_aload_n hx hcd dX0_init_42 rfl (lv_at hl 0 rfl) ?_
  refine lv_bipush (v := 10) hx hcd dX0_init_43 (by decide) ?_
  refine s_newi (N := 10) hC hW (by decide) (by decide) (Nat.le_of_ble_eq_true rfl) ac_int ⟨Nat.le_of_ble_eq_true rfl, Nat.le_of_ble_eq_true rfl⟩ dX0_init_45 (fun q4 H hW => ?_)
  refine s_putF (q0 := 0) (T := TX0) (N := 16) (ci := 2) (k := 9) hC hnm hW tyX0 inGX0 tyX0_ok nmX0 rfl rfl (by decide) fl_X0_28 rfl rfl rfl rfl (Nat.le_of_ble_eq_true rfl) rfl dX0_init_47 (fun H locs hW => ?_)
  replace hW : s_W _ _ D ([(h, .inr (2, [.int 0, .int 0, .int 15, .int 0, .int 0, .ref q0, .ref q1, .ref q2, .ref q3, .ref q4, .null, .null, .null, .null, .null, .null]))] ++ [(q0, .inl (y.1, 8, .inl fun _ => 0))] ++ [(q1, .inl (y.1, 8, .inl fun _ => 0))] ++ [(q2, .inl (y.1, 64, .inl fun _ => 0))] ++ [(q3, .inl (y.1, 10, .inl fun _ => 0))] ++ [(q4, .inl (y.1, 10, .inl fun _ => 0))]) H locs := hW
  refine lv_aload_n hx hcd dX0_init_50 rfl (lv_at hl 0 rfl) ?_
  refine lv_bipush (v := 10) hx hcd dX0_init_51 (by decide) ?_
  refine s_newi (N := 10) hC hW (by decide) (by decide) (Nat.le_of_ble_eq_true rfl) ac_int ⟨Nat.le_of_ble_eq_true rfl, Nat.le_of_ble_eq_true rfl⟩ dX0_init_53 (fun q5 H hW => ?_)
  refine s_putF (q0 := 0) (T := TX0) (N := 16) (ci := 2) (k := 10) hC hnm hW tyX0 inGX0 tyX0_ok nmX0 rfl rfl (by decide) fl_X0_31 rfl rfl rfl rfl (Nat.le_of_ble_eq_true rfl) rfl dX0_init_55 (fun H locs hW => ?_)
  replace hW : s_W _ _ D ([(h, .inr (2, [.int 0, .int 0, .int 15, .int 0, .int 0, .ref q0, .ref q1, .ref q2, .ref q3, .ref q4, .ref q5, .null, .null, .null, .null, .null]))] ++ [(q0, .inl (y.1, 8, .inl fun _ => 0))] ++ [(q1, .inl (y.1, 8, .inl fun _ => 0))] ++ [(q2, .inl (y.1, 64, .inl fun _ => 0))] ++ [(q3, .inl (y.1, 10, .inl fun _ => 0))] ++ [(q4, .inl (y.1, 10, .inl fun _ => 0))] ++ [(q5, .inl (y.1, 10, .inl fun _ => 0))]) H locs := hW
  refine lv_aload_n hx hcd dX0_init_58 rfl (lv_at hl 0 rfl) ?_
  refine lv_bipush (v := 10) hx hcd dX0_init_59 (by decide) ?_
  refine s_newi (N := 10) hC hW (by decide) (by decide) (Nat.le_of_ble_eq_true rfl) ac_int ⟨Nat.le_of_ble_eq_true rfl, Nat.le_of_ble_eq_true rfl⟩ dX0_init_61 (fun q6 H hW => ?_)
  refine s_putF (q0 := 0) (T := TX0) (N := 16) (ci := 2) (k := 11) hC hnm hW tyX0 inGX0 tyX0_ok nmX0 rfl rfl (by decide) fl_X0_34 rfl rfl rfl rfl (Nat.le_of_ble_eq_true rfl) rfl dX0_init_63 (fun H locs hW => ?_)
  replace hW : s_W _ _ D ([(h, .inr (2, [.int 0, .int 0, .int 15, .int 0, .int 0, .ref q0, .ref q1, .ref q2, .ref q3, .ref q4, .ref q5, .ref q6, .null, .null, .null, .null]))] ++ [(q0, .inl (y.1, 8, .inl fun _ => 0))] ++ [(q1, .inl (y.1, 8, .inl fun _ => 0))] ++ [(q2, .inl (y.1, 64, .inl fun _ => 0))] ++ [(q3, .inl (y.1, 10, .inl fun _ => 0))] ++ [(q4, .inl (y.1, 10, .inl fun _ => 0))] ++ [(q5, .inl (y.1, 10, .inl fun _ => 0))] ++ [(q6, .inl (y.1, 10, .inl fun _ => 0))]) H locs := hW
  refine lv_aload_n hx hcd dX0_init_66 rfl (lv_at hl 0 rfl) ?_
  refine lv_bipush (v := 10) hx hcd dX0_init_67 (by decide) ?_
  refine s_newi (N := 10) hC hW (by decide) (by decide) (Nat.le_of_ble_eq_true rfl) ac_int ⟨Nat.le_of_ble_eq_true rfl, Nat.le_of_ble_eq_true rfl⟩ dX0_init_69 (fun q7 H hW => ?_)
  refine s_putF (q0 := 0) (T := TX0) (N := 16) (ci := 2) (k := 12) hC hnm hW tyX0 inGX0 tyX0_ok nmX0 rfl rfl (by decide) fl_X0_37 rfl rfl rfl rfl (Nat.le_of_ble_eq_true rfl) rfl dX0_init_71 (fun H locs hW => ?_)
  replace hW : s_W _ _ D ([(h, .inr (2, [.int 0, .int 0, .int 15, .int 0, .int 0, .ref q0, .ref q1, .ref q2, .ref q3, .ref q4, .ref q5, .ref q6, .ref q7, .null, .null, .null]))] ++ [(q0, .inl (y.1, 8, .inl fun _ => 0))] ++ [(q1, .inl (y.1, 8, .inl fun _ => 0))] ++ [(q2, .inl (y.1, 64, .inl fun _ => 0))] ++ [(q3, .inl (y.1, 10, .inl fun _ => 0))] ++ [(q4, .inl (y.1, 10, .inl fun _ => 0))] ++ [(q5, .inl (y.1, 10, .inl fun _ => 0))] ++ [(q6, .inl (y.1, 10, .inl fun _ => 0))] ++ [(q7, .inl (y.1, 10, .inl fun _ => 0))]) H locs := hW
  refine lv_aload_n hx hcd dX0_init_74 rfl (lv_at hl 0 rfl) ?_
  refine lv_bipush (v := 20) hx hcd dX0_init_75 (by decide) ?_
  refine s_newi (N := 20) hC hW (by decide) (by decide) (Nat.le_of_ble_eq_true rfl) ac_int ⟨Nat.le_of_ble_eq_true rfl, Nat.le_of_ble_eq_true rfl⟩ dX0_init_77 (fun q8 H hW => ?_)
  refine s_putF (q0 := 0) (T := TX0) (N := 16) (ci := 2) (k := 13) hC hnm hW tyX0 inGX0 tyX0_ok nmX0 rfl rfl (by decide) fl_X0_40 rfl rfl rfl rfl (Nat.le_of_ble_eq_true rfl) rfl dX0_init_79 (fun H locs hW => ?_)
  replace hW : s_W _ _ D ([(h, .inr (2, [.int 0, .int 0, .int 15, .int 0, .int 0, .ref q0, .ref q1, .ref q2, .ref q3, .ref q4, .ref q5, .ref q6, .ref q7, .ref q8, .null, .null]))] ++ [(q0, .inl (y.1, 8, .inl fun _ => 0))] ++ [(q1, .inl (y.1, 8, .inl fun _ => 0))] ++ [(q2, .inl (y.1, 64, .inl fun _ => 0))] ++ [(q3, .inl (y.1, 10, .inl fun _ => 0))] ++ [(q4, .inl (y.1, 10, .inl fun _ => 0))] ++ [(q5, .inl (y.1, 10, .inl fun _ => 0))] ++ [(q6, .inl (y.1, 10, .inl fun _ => 0))] ++ [(q7, .inl (y.1, 10, .inl fun _ => 0))] ++ [(q8, .inl (y.1, 20, .inl fun _ => 0))]) H locs := hW
  refine lv_aload_n hx hcd dX0_init_82 rfl (lv_at hl 0 rfl) ?_
  refine lv_bipush (v := 20) hx hcd dX0_init_83 (by decide) ?_
  refine s_newi (N := 20) hC hW (by decide) (by decide) (Nat.le_of_ble_eq_true rfl) ac_int ⟨Nat.le_of_ble_eq_true rfl, Nat.le_of_ble_eq_true rfl⟩ dX0_init_85 (fun q9 H hW => ?_)
  refine s_putF (q0 := 0) (T := TX0) (N := 16) (ci := 2) (k := 14) hC hnm hW tyX0 inGX0 tyX0_ok nmX0 rfl rfl (by decide) fl_X0_43 rfl rfl rfl rfl (Nat.le_of_ble_eq_true rfl) rfl dX0_init_87 (fun H locs hW => ?_)
  replace hW : s_W _ _ D ([(h, .inr (2, [.int 0, .int 0, .int 15, .int 0, .int 0, .ref q0, .ref q1, .ref q2, .ref q3, .ref q4, .ref q5, .ref q6, .ref q7, .ref q8, .ref q9, .null]))] ++ [(q0, .inl (y.1, 8, .inl fun _ => 0))] ++ [(q1, .inl (y.1, 8, .inl fun _ => 0))] ++ [(q2, .inl (y.1, 64, .inl fun _ => 0))] ++ [(q3, .inl (y.1, 10, .inl fun _ => 0))] ++ [(q4, .inl (y.1, 10, .inl fun _ => 0))] ++ [(q5, .inl (y.1, 10, .inl fun _ => 0))] ++ [(q6, .inl (y.1, 10, .inl fun _ => 0))] ++ [(q7, .inl (y.1, 10, .inl fun _ => 0))] ++ [(q8, .inl (y.1, 20, .inl fun _ => 0))] ++ [(q9, .inl (y.1, 20, .inl fun _ => 0))]) H locs := hW
  refine lv_aload_n hx hcd dX0_init_90 rfl (lv_at hl 0 rfl) ?_
  refine lv_bipush (v := 20) hx hcd dX0_init_91 (by decide) ?_
  refine s_newi (N := 20) hC hW (by decide) (by decide) (Nat.le_of_ble_eq_true rfl) ac_int ⟨Nat.le_of_ble_eq_true rfl, Nat.le_of_ble_eq_true rfl⟩ dX0_init_93 (fun q10 H hW => ?_)
  refine s_putF (q0 := 0) (T := TX0) (N := 16) (ci := 2) (k := 15) hC hnm hW tyX0 inGX0 tyX0_ok nmX0 rfl rfl (by decide) fl_X0_46 rfl rfl rfl rfl (Nat.le_of_ble_eq_true rfl) rfl dX0_init_95 (fun H locs hW => ?_)
  replace hW : s_W _ _ D ([(h, .inr (2, [.int 0, .int 0, .int 15, .int 0, .int 0, .ref q0, .ref q1, .ref q2, .ref q3, .ref q4, .ref q5, .ref q6, .ref q7, .ref q8, .ref q9, .ref q10]))] ++ [(q0, .inl (y.1, 8, .inl fun _ => 0))] ++ [(q1, .inl (y.1, 8, .inl fun _ => 0))] ++ [(q2, .inl (y.1, 64, .inl fun _ => 0))] ++ [(q3, .inl (y.1, 10, .inl fun _ => 0))] ++ [(q4, .inl (y.1, 10, .inl fun _ => 0))] ++ [(q5, .inl (y.1, 10, .inl fun _ => 0))] ++ [(q6, .inl (y.1, 10, .inl fun _ => 0))] ++ [(q7, .inl (y.1, 10, .inl fun _ => 0))] ++ [(q8, .inl (y.1, 20, .inl fun _ => 0))] ++ [(q9, .inl (y.1, 20, .inl fun _ => 0))] ++ [(q10, .inl (y.1, 20, .inl fun _ => 0))]) H locs := hW
  refine lv_aload_n hx hcd dX0_init_98 rfl (lv_at hl 0 rfl) ?_
  refine s_get (q0 := 0) (T := TX0) (N := 16) (ci := 2) (k := 15) hC hW inGX0 rfl rfl (by decide) fl_X0_46 rfl dX0_init_99 ?_
  refine lv_iconst (v := (-1)) hx hcd dX0_init_102 (by decide) ?_
  refine s_fill (rest := []) hC hO (by decide) hW ok_X0_49 ⟨Nat.le_of_ble_eq_true rfl, Nat.le_of_ble_eq_true rfl⟩ hl.1 (Nat.le_of_ble_eq_true rfl) dX0_init_103 ⟨Nat.le_of_ble_eq_true rfl, Nat.le_of_ble_eq_true rfl⟩ (fun H locs hW => ?_)
  exact s_vret (fun j => [h, q0, q1, q2, q3, q4, q5, q6, q7, q8, q9, q10].getD j 0) hC hr hlk hsz hW dX0_init_106
set_option maxHeartbeats 4000000 in
set_option maxRecDepth 100000 in
theorem c_X1_init (l : Launch) (D : va_G) (y : ClassId × ClassId × ClassId) (h : Nat) (sz : Nat) : Met l yX1_init (Cond.code yX1_init cX1_init 1 none :: gl) ({ frames := 1, cells := 4, slots := 220, locals := 12 }) (s_Pc D y [(h, .inr (3, [.null, .null, .null, .null, .int 0, .int 0, .int 0]))] sz [.ref h]) (s_Qv D (fun a : Nat → Nat => w_cla y h a) [(h, .inr (3, [.null, .null, .null, .null, .int 0, .int 0, .int 0]))] sz) 4 220 (va_A [(h, .inr (3, [.null, .null, .null, .null, .int 0, .int 0, .int 0]))] sz) := by
  refine s_start (by decide) (Nat.le_of_ble_eq_true rfl) (fun p e s m below meth c ls hC hr hlk hnm hO hsz hW hl => ?_)
  have hx := hC.1
  have hcd := hC.2.1
  have hl : lv_has ls 1 [(0, .ref h)] := hl
  refine lv_aload_n hx hcd dX1_init_0 rfl (lv_at hl 0 rfl) ?_
  refine s_obj hC hl.1 ol_X1 oi_i oi_c ⟨Nat.le_of_ble_eq_true rfl, Nat.le_of_ble_eq_true rfl⟩ dX1_init_1 ?_
  refine lv_aload_n hx hcd dX1_init_4 rfl (lv_at hl 0 rfl) ?_
  refine lv_sipush (v := 160) hx hcd dX1_init_5 (by decide) ?_
  refine s_newi (N := 160) hC hW (by decide) (by decide) (Nat.le_of_ble_eq_true rfl) ac_int ⟨Nat.le_of_ble_eq_true rfl, Nat.le_of_ble_eq_true rfl⟩ dX1_init_8 (fun q0 H hW => ?_)
  refine s_putF (q0 := 0) (T := TX1) (N := 7) (ci := 3) (k := 0) hC hnm hW tyX1 inGX1 tyX1_ok nmX1 rfl rfl (by decide) fl_X1_9 rfl rfl rfl rfl (Nat.le_of_ble_eq_true rfl) rfl dX1_init_10 (fun H locs hW => ?_)
  replace hW : s_W _ _ D ([(h, .inr (3, [.ref q0, .null, .null, .null, .int 0, .int 0, .int 0]))] ++ [(q0, .inl (y.1, 160, .inl fun _ => 0))]) H locs := hW
  refine lv_aload_n hx hcd dX1_init_13 rfl (lv_at hl 0 rfl) ?_
  refine lv_bipush (v := 20) hx hcd dX1_init_14 (by decide) ?_
  refine s_newi (N := 20) hC hW (by decide) (by decide) (Nat.le_of_ble_eq_true rfl) ac_int ⟨Nat.le_of_ble_eq_true rfl, Nat.le_of_ble_eq_true rfl⟩ dX1_init_16 (fun q1 H hW => ?_)
  refine s_putF (q0 := 0) (T := TX1) (N := 7) (ci := 3) (k := 1) hC hnm hW tyX1 inGX1 tyX1_ok nmX1 rfl rfl (by decide) fl_X1_15 rfl rfl rfl rfl (Nat.le_of_ble_eq_true rfl) rfl dX1_init_18 (fun H locs hW => ?_)
  replace hW : s_W _ _ D ([(h, .inr (3, [.ref q0, .ref q1, .null, .null, .int 0, .int 0, .int 0]))] ++ [(q0, .inl (y.1, 160, .inl fun _ => 0))] ++ [(q1, .inl (y.1, 20, .inl fun _ => 0))]) H locs := hW
  refine lv_aload_n hx hcd dX1_init_21 rfl (lv_at hl 0 rfl) ?_
  refine lv_bipush (v := 20) hx hcd dX1_init_22 (by decide) ?_
  refine s_newi (N := 20) hC hW (by decide) (by decide) (Nat.le_of_ble_eq_true rfl) ac_int ⟨Nat.le_of_ble_eq_true rfl, Nat.le_of_ble_eq_true rfl⟩ dX1_init_24 (fun q2 H hW => ?_)
  refine s_putF (q0 := 0) (T := TX1) (N := 7) (ci := 3) (k := 2) hC hnm hW tyX1 inGX1 tyX1_ok nmX1 rfl rfl (by decide) fl_X1_18 rfl rfl rfl rfl (Nat.le_of_ble_eq_true rfl) rfl dX1_init_26 (fun H locs hW => ?_)
  replace hW : s_W _ _ D ([(h, .inr (3, [.ref q0, .ref q1, .ref q2, .null, .int 0, .int 0, .int 0]))] ++ [(q0, .inl (y.1, 160, .inl fun _ => 0))] ++ [(q1, .inl (y.1, 20, .inl fun _ => 0))] ++ [(q2, .inl (y.1, 20, .inl fun _ => 0))]) H locs := hW
  refine lv_aload_n hx hcd dX1_init_29 rfl (lv_at hl 0 rfl) ?_
  refine lv_bipush (v := 20) hx hcd dX1_init_30 (by decide) ?_
  refine s_newi (N := 20) hC hW (by decide) (by decide) (Nat.le_of_ble_eq_true rfl) ac_int ⟨Nat.le_of_ble_eq_true rfl, Nat.le_of_ble_eq_true rfl⟩ dX1_init_32 (fun q3 H hW => ?_)
  refine s_putF (q0 := 0) (T := TX1) (N := 7) (ci := 3) (k := 3) hC hnm hW tyX1 inGX1 tyX1_ok nmX1 rfl rfl (by decide) fl_X1_21 rfl rfl rfl rfl (Nat.le_of_ble_eq_true rfl) rfl dX1_init_34 (fun H locs hW => ?_)
  replace hW : s_W _ _ D ([(h, .inr (3, [.ref q0, .ref q1, .ref q2, .ref q3, .int 0, .int 0, .int 0]))] ++ [(q0, .inl (y.1, 160, .inl fun _ => 0))] ++ [(q1, .inl (y.1, 20, .inl fun _ => 0))] ++ [(q2, .inl (y.1, 20, .inl fun _ => 0))] ++ [(q3, .inl (y.1, 20, .inl fun _ => 0))]) H locs := hW
  exact s_vret (fun j => [h, q0, q1, q2, q3].getD j 0) hC hr hlk hsz hW dX1_init_37
set_option maxHeartbeats 4000000 in
set_option maxRecDepth 100000 in
theorem c_X2_init (l : Launch) (D : va_G) (y : ClassId × ClassId × ClassId) (h : Nat) (sz : Nat) : Met l yX2_init (Cond.code yX2_init cX2_init 1 none :: gl) ({ frames := 2, cells := 7, slots := 233, locals := 32 }) (s_Pc D y [(h, .inr (4, [.null, .null, .null, .int 0]))] sz [.ref h]) (s_Qv D (fun a : Nat → Nat => w_evr y h a) [(h, .inr (4, [.null, .null, .null, .int 0]))] sz) 7 233 (va_A [(h, .inr (4, [.null, .null, .null, .int 0]))] sz) := by
  refine s_start (by decide) (Nat.le_of_ble_eq_true rfl) (fun p e s m below meth c ls hC hr hlk hnm hO hsz hW hl => ?_)
  have hx := hC.1
  have hcd := hC.2.1
  have hl : lv_has ls 1 [(0, .ref h)] := hl
  refine lv_aload_n hx hcd dX2_init_0 rfl (lv_at hl 0 rfl) ?_
  refine s_obj hC hl.1 ol_X2 oi_i oi_c ⟨Nat.le_of_ble_eq_true rfl, Nat.le_of_ble_eq_true rfl⟩ dX2_init_1 ?_
  refine lv_aload_n hx hcd dX2_init_4 rfl (lv_at hl 0 rfl) ?_
  refine s_new (fs := [.null, .null, .null, .null, .int 0, .int 0, .int 0]) (ci := 3) hC hW tyX1 inGX1 tyX1_ok cl_X2_9 it_X1 ii_X1 rfl (fun j hj => by rcases (show j = 0 ∨ j = 1 ∨ j = 2 ∨ j = 3 ∨ j = 4 ∨ j = 5 ∨ j = 6 by omega) with rfl | rfl | rfl | rfl | rfl | rfl | rfl <;> rfl) ⟨Nat.le_of_ble_eq_true rfl, Nat.le_of_ble_eq_true rfl⟩ dX2_init_5 (fun q0 H hW => ?_)
  refine lv_dup hx hcd dX2_init_8 rfl ?_
  refine s_callI (ws := _) (rest := [.ref q0, .ref h]) hC hO hW (c_X1_init l D y q0 _) okI_X2_11 ⟨rfl, rfl, Nat.le_of_ble_eq_true rfl, Nat.le_of_ble_eq_true rfl⟩ hl.1 (Nat.le_of_ble_eq_true rfl) dX2_init_9 ⟨Nat.le_of_ble_eq_true rfl, Nat.le_of_ble_eq_true rfl⟩ (fun u0 H locs hW => ?_)
  refine s_putF (q0 := 0) (T := TX2) (N := 4) (ci := 4) (k := 0) hC hnm hW tyX2 inGX2 tyX2_ok nmX2 rfl rfl (by decide) fl_X2_12 rfl rfl rfl rfl (Nat.le_of_ble_eq_true rfl) rfl dX2_init_12 (fun H locs hW => ?_)
  replace hW : s_W _ _ D ([(h, .inr (4, [.ref q0, .null, .null, .int 0]))] ++ w_cla y q0 u0) H locs := hW
  refine lv_aload_n hx hcd dX2_init_15 rfl (lv_at hl 0 rfl) ?_
  refine lv_iconst (v := 3) hx hcd dX2_init_16 (by decide) ?_
  refine s_newi (N := 3) hC hW (by decide) (by decide) (Nat.le_of_ble_eq_true rfl) ac_int ⟨Nat.le_of_ble_eq_true rfl, Nat.le_of_ble_eq_true rfl⟩ dX2_init_17 (fun q1 H hW => ?_)
  refine s_putF (q0 := 0) (T := TX2) (N := 4) (ci := 4) (k := 1) hC hnm hW tyX2 inGX2 tyX2_ok nmX2 rfl rfl (by decide) fl_X2_18 rfl rfl rfl rfl (Nat.le_of_ble_eq_true rfl) rfl dX2_init_19 (fun H locs hW => ?_)
  replace hW : s_W _ _ D ([(h, .inr (4, [.ref q0, .ref q1, .null, .int 0]))] ++ w_cla y q0 u0 ++ [(q1, .inl (y.1, 3, .inl fun _ => 0))]) H locs := hW
  refine lv_aload_n hx hcd dX2_init_22 rfl (lv_at hl 0 rfl) ?_
  refine lv_iconst (v := 3) hx hcd dX2_init_23 (by decide) ?_
  refine s_newi (N := 3) hC hW (by decide) (by decide) (Nat.le_of_ble_eq_true rfl) ac_int ⟨Nat.le_of_ble_eq_true rfl, Nat.le_of_ble_eq_true rfl⟩ dX2_init_24 (fun q2 H hW => ?_)
  refine s_putF (q0 := 0) (T := TX2) (N := 4) (ci := 4) (k := 2) hC hnm hW tyX2 inGX2 tyX2_ok nmX2 rfl rfl (by decide) fl_X2_22 rfl rfl rfl rfl (Nat.le_of_ble_eq_true rfl) rfl dX2_init_26 (fun H locs hW => ?_)
  replace hW : s_W _ _ D ([(h, .inr (4, [.ref q0, .ref q1, .ref q2, .int 0]))] ++ w_cla y q0 u0 ++ [(q1, .inl (y.1, 3, .inl fun _ => 0))] ++ [(q2, .inl (y.1, 3, .inl fun _ => 0))]) H locs := hW
  exact s_vret (fun j => if j = 0 then q0 else if j < 5 then u0 j else [q1, q2].getD (j - 5) 0) hC hr hlk hsz hW dX2_init_29
set_option maxHeartbeats 4000000 in
set_option maxRecDepth 100000 in
theorem c_X3_init (l : Launch) (D : va_G) (y : ClassId × ClassId × ClassId) (h : Nat) (sz : Nat) : Met l yX3_init (Cond.code yX3_init cX3_init 1 none :: gl) ({ frames := 2, cells := 8, slots := 236, locals := 32 }) (s_Pc D y [(h, .inr (5, [.null, .null, .null, .null, .int 0]))] sz [.ref h]) (s_Qv D (fun a : Nat → Nat => w_fst y h a) [(h, .inr (5, [.null, .null, .null, .null, .int 0]))] sz) 8 236 (va_A [(h, .inr (5, [.null, .null, .null, .null, .int 0]))] sz) := by
  refine s_start (by decide) (Nat.le_of_ble_eq_true rfl) (fun p e s m below meth c ls hC hr hlk hnm hO hsz hW hl => ?_)
  have hx := hC.1
  have hcd := hC.2.1
  have hl : lv_has ls 1 [(0, .ref h)] := hl
  refine lv_aload_n hx hcd dX3_init_0 rfl (lv_at hl 0 rfl) ?_
  refine s_obj hC hl.1 ol_X3 oi_i oi_c ⟨Nat.le_of_ble_eq_true rfl, Nat.le_of_ble_eq_true rfl⟩ dX3_init_1 ?_
  refine lv_aload_n hx hcd dX3_init_4 rfl (lv_at hl 0 rfl) ?_
  refine s_new (fs := [.null, .null, .null, .null, .int 0, .int 0, .int 0]) (ci := 3) hC hW tyX1 inGX1 tyX1_ok cl_X3_9 it_X1 ii_X1 rfl (fun j hj => by rcases (show j = 0 ∨ j = 1 ∨ j = 2 ∨ j = 3 ∨ j = 4 ∨ j = 5 ∨ j = 6 by omega) with rfl | rfl | rfl | rfl | rfl | rfl | rfl <;> rfl) ⟨Nat.le_of_ble_eq_true rfl, Nat.le_of_ble_eq_true rfl⟩ dX3_init_5 (fun q0 H hW => ?_)
  refine lv_dup hx hcd dX3_init_8 rfl ?_
  refine s_callI (ws := _) (rest := [.ref q0, .ref h]) hC hO hW (c_X1_init l D y q0 _) okI_X3_11 ⟨rfl, rfl, Nat.le_of_ble_eq_true rfl, Nat.le_of_ble_eq_true rfl⟩ hl.1 (Nat.le_of_ble_eq_true rfl) dX3_init_9 ⟨Nat.le_of_ble_eq_true rfl, Nat.le_of_ble_eq_true rfl⟩ (fun u0 H locs hW => ?_)
  refine s_putF (q0 := 0) (T := TX3) (N := 5) (ci := 5) (k := 0) hC hnm hW tyX3 inGX3 tyX3_ok nmX3 rfl rfl (by decide) fl_X3_12 rfl rfl rfl rfl (Nat.le_of_ble_eq_true rfl) rfl dX3_init_12 (fun H locs hW => ?_)
  replace hW : s_W _ _ D ([(h, .inr (5, [.ref q0, .null, .null, .null, .int 0]))] ++ w_cla y q0 u0) H locs := hW
  refine lv_aload_n hx hcd dX3_init_15 rfl (lv_at hl 0 rfl) ?_
  refine lv_iconst (v := 3) hx hcd dX3_init_16 (by decide) ?_
  refine s_newi (N := 3) hC hW (by decide) (by decide) (Nat.le_of_ble_eq_true rfl) ac_int ⟨Nat.le_of_ble_eq_true rfl, Nat.le_of_ble_eq_true rfl⟩ dX3_init_17 (fun q1 H hW => ?_)
  refine s_putF (q0 := 0) (T := TX3) (N := 5) (ci := 5) (k := 1) hC hnm hW tyX3 inGX3 tyX3_ok nmX3 rfl rfl (by decide) fl_X3_18 rfl rfl rfl rfl (Nat.le_of_ble_eq_true rfl) rfl dX3_init_19 (fun H locs hW => ?_)
  replace hW : s_W _ _ D ([(h, .inr (5, [.ref q0, .ref q1, .null, .null, .int 0]))] ++ w_cla y q0 u0 ++ [(q1, .inl (y.1, 3, .inl fun _ => 0))]) H locs := hW
  refine lv_aload_n hx hcd dX3_init_22 rfl (lv_at hl 0 rfl) ?_
  refine lv_iconst (v := 3) hx hcd dX3_init_23 (by decide) ?_
  refine s_newi (N := 3) hC hW (by decide) (by decide) (Nat.le_of_ble_eq_true rfl) ac_int ⟨Nat.le_of_ble_eq_true rfl, Nat.le_of_ble_eq_true rfl⟩ dX3_init_24 (fun q2 H hW => ?_)
  refine s_putF (q0 := 0) (T := TX3) (N := 5) (ci := 5) (k := 2) hC hnm hW tyX3 inGX3 tyX3_ok nmX3 rfl rfl (by decide) fl_X3_22 rfl rfl rfl rfl (Nat.le_of_ble_eq_true rfl) rfl dX3_init_26 (fun H locs hW => ?_)
  replace hW : s_W _ _ D ([(h, .inr (5, [.ref q0, .ref q1, .ref q2, .null, .int 0]))] ++ w_cla y q0 u0 ++ [(q1, .inl (y.1, 3, .inl fun _ => 0))] ++ [(q2, .inl (y.1, 3, .inl fun _ => 0))]) H locs := hW
  refine lv_aload_n hx hcd dX3_init_29 rfl (lv_at hl 0 rfl) ?_
  refine lv_iconst (v := 3) hx hcd dX3_init_30 (by decide) ?_
  refine s_newi (N := 3) hC hW (by decide) (by decide) (Nat.le_of_ble_eq_true rfl) ac_int ⟨Nat.le_of_ble_eq_true rfl, Nat.le_of_ble_eq_true rfl⟩ dX3_init_31 (fun q3 H hW => ?_)
  refine s_putF (q0 := 0) (T := TX3) (N := 5) (ci := 5) (k := 3) hC hnm hW tyX3 inGX3 tyX3_ok nmX3 rfl rfl (by decide) fl_X3_25 rfl rfl rfl rfl (Nat.le_of_ble_eq_true rfl) rfl dX3_init_33 (fun H locs hW => ?_)
  replace hW : s_W _ _ D ([(h, .inr (5, [.ref q0, .ref q1, .ref q2, .ref q3, .int 0]))] ++ w_cla y q0 u0 ++ [(q1, .inl (y.1, 3, .inl fun _ => 0))] ++ [(q2, .inl (y.1, 3, .inl fun _ => 0))] ++ [(q3, .inl (y.1, 3, .inl fun _ => 0))]) H locs := hW
  exact s_vret (fun j => if j = 0 then q0 else if j < 5 then u0 j else [q1, q2, q3].getD (j - 5) 0) hC hr hlk hsz hW dX3_init_36
set_option maxHeartbeats 4000000 in
set_option maxRecDepth 100000 in
theorem c_X5_init (l : Launch) (D : va_G) (y : ClassId × ClassId × ClassId) (h : Nat) (sz : Nat) : Met l yX5_init (Cond.code yX5_init cX5_init 1 none :: gl) ({ frames := 1, cells := 2, slots := 63, locals := 12 }) (s_Pc D y [(h, .inr (7, [.null, .null, .int 0, .int 0, .int 0, .int 0]))] sz [.ref h]) (s_Qv D (fun a : Nat → Nat => w_txt y h a) [(h, .inr (7, [.null, .null, .int 0, .int 0, .int 0, .int 0]))] sz) 2 63 (va_A [(h, .inr (7, [.null, .null, .int 0, .int 0, .int 0, .int 0]))] sz) := by
  refine s_start (by decide) (Nat.le_of_ble_eq_true rfl) (fun p e s m below meth c ls hC hr hlk hnm hO hsz hW hl => ?_)
  have hx := hC.1
  have hcd := hC.2.1
  have hl : lv_has ls 1 [(0, .ref h)] := hl
  refine lv_aload_n hx hcd dX5_init_0 rfl (lv_at hl 0 rfl) ?_
  refine s_obj hC hl.1 ol_X5 oi_i oi_c ⟨Nat.le_of_ble_eq_true rfl, Nat.le_of_ble_eq_true rfl⟩ dX5_init_1 ?_
  refine lv_aload_n hx hcd dX5_init_4 rfl (lv_at hl 0 rfl) ?_
  refine lv_bipush (v := 60) hx hcd dX5_init_5 (by decide) ?_
  refine s_newc (N := 60) hC hW (by decide) (by decide) (Nat.le_of_ble_eq_true rfl) ac_char ⟨Nat.le_of_ble_eq_true rfl, Nat.le_of_ble_eq_true rfl⟩ dX5_init_7 (fun q0 H hW => ?_)
  refine s_putF (q0 := 0) (T := TX5) (N := 6) (ci := 7) (k := 0) hC hnm hW tyX5 inGX5 tyX5_ok nmX5 rfl rfl (by decide) fl_X5_9 rfl rfl rfl rfl (Nat.le_of_ble_eq_true rfl) rfl dX5_init_9 (fun H locs hW => ?_)
  replace hW : s_W _ _ D ([(h, .inr (7, [.ref q0, .null, .int 0, .int 0, .int 0, .int 0]))] ++ [(q0, .inl (y.2.1, 60, .inl fun _ => 0))]) H locs := hW
  refine lv_aload_n hx hcd dX5_init_12 rfl (lv_at hl 0 rfl) ?_
  refine lv_iconst (v := 3) hx hcd dX5_init_13 (by decide) ?_
  refine s_newi (N := 3) hC hW (by decide) (by decide) (Nat.le_of_ble_eq_true rfl) ac_int ⟨Nat.le_of_ble_eq_true rfl, Nat.le_of_ble_eq_true rfl⟩ dX5_init_14 (fun q1 H hW => ?_)
  refine s_putF (q0 := 0) (T := TX5) (N := 6) (ci := 7) (k := 1) hC hnm hW tyX5 inGX5 tyX5_ok nmX5 rfl rfl (by decide) fl_X5_15 rfl rfl rfl rfl (Nat.le_of_ble_eq_true rfl) rfl dX5_init_16 (fun H locs hW => ?_)
  replace hW : s_W _ _ D ([(h, .inr (7, [.ref q0, .ref q1, .int 0, .int 0, .int 0, .int 0]))] ++ [(q0, .inl (y.2.1, 60, .inl fun _ => 0))] ++ [(q1, .inl (y.1, 3, .inl fun _ => 0))]) H locs := hW
  exact s_vret (fun j => [q0, q1].getD j 0) hC hr hlk hsz hW dX5_init_19
set_option maxHeartbeats 4000000 in
set_option maxRecDepth 100000 in
theorem c_X4_init (l : Launch) (D : va_G) (y : ClassId × ClassId × ClassId) (h : Nat) (sz : Nat) : Met l yX4_init (Cond.code yX4_init cX4_init 2 none :: gl) ({ frames := 2, cells := 73, slots := 1242, locals := 43 }) (s_Pc D y [(h, .inr (6, [.null, .int 0, .int 0]))] sz [.ref h]) (s_Qv D (fun a : Nat × (Nat → Nat → Nat) => w_his y h a.1 a.2) [(h, .inr (6, [.null, .int 0, .int 0]))] sz) 73 1242 (va_A [(h, .inr (6, [.null, .int 0, .int 0]))] sz) := by
  refine s_start (by decide) (Nat.le_of_ble_eq_true rfl) (fun p e s m below meth c ls hC hr hlk hnm hO hsz hW hl => ?_)
  have hx := hC.1
  have hcd := hC.2.1
  have hl : lv_has ls 2 [(0, .ref h)] := hl
  refine lv_aload_n hx hcd dX4_init_0 rfl (lv_at hl 0 rfl) ?_
  refine s_obj hC hl.1 ol_X4 oi_i oi_c ⟨Nat.le_of_ble_eq_true rfl, Nat.le_of_ble_eq_true rfl⟩ dX4_init_1 ?_
  refine lv_aload_n hx hcd dX4_init_4 rfl (lv_at hl 0 rfl) ?_
  refine lv_bipush (v := 6) hx hcd dX4_init_5 (by decide) ?_
  refine s_newq (N := 6) hC hO hW cl_X4_9 (by decide) (by decide) (Nat.le_of_ble_eq_true rfl) ⟨Nat.le_of_ble_eq_true rfl, Nat.le_of_ble_eq_true rfl⟩ dX4_init_7 (fun q0 H hW => ?_)
  refine s_putF (q0 := 0) (T := TX4) (N := 3) (ci := 6) (k := 0) hC hnm hW tyX4 inGX4 tyX4_ok nmX4 rfl rfl (by decide) fl_X4_11 rfl rfl rfl rfl (Nat.le_of_ble_eq_true rfl) rfl dX4_init_10 (fun H locs hW => ?_)
  replace hW : s_W _ _ D ([(h, .inr (6, [.ref q0, .int 0, .int 0]))] ++ [(q0, .inl (y.2.2, 6, .inr (.inr (.inr (.inr fun _ => none)))))]) H locs := hW
  refine lv_iconst (v := 0) hx hcd dX4_init_13 (by decide) ?_
  refine lv_istore_n (lv' := [(1, .int 0), (0, .ref h)]) hx hcd dX4_init_14 rfl hl (by decide) rfl (fun ls hl => ?_)
  refine lv_iload_n hx hcd dX4_init_15 rfl (lv_at hl 0 rfl) ?_
  refine lv_bipush (v := 6) hx hcd dX4_init_16 (by decide) ?_
  refine lv_icmp_ge (tgt := 40) hx hcd dX4_init_18 (by decide) (fun c9 => absurd c9 (by decide)) (fun _ => ?_)
  refine lv_aload_n hx hcd dX4_init_21 rfl (lv_at hl 1 rfl) ?_
  refine s_get (q0 := 0) (T := TX4) (N := 3) (ci := 6) (k := 0) hC hW inGX4 rfl rfl (by decide) fl_X4_11 rfl dX4_init_22 ?_
  refine lv_iload_n hx hcd dX4_init_25 rfl (lv_at hl 0 rfl) ?_
  refine s_new (fs := [.int 0, .int 0, .int 0, .int 0, .int 0, .null, .null, .null, .null, .null, .null, .null, .null, .null, .null, .null]) (ci := 2) hC hW tyX0 inGX0 tyX0_ok cl_X4_9 it_X0 ii_X0 rfl (fun j hj => by rcases (show j = 0 ∨ j = 1 ∨ j = 2 ∨ j = 3 ∨ j = 4 ∨ j = 5 ∨ j = 6 ∨ j = 7 ∨ j = 8 ∨ j = 9 ∨ j = 10 ∨ j = 11 ∨ j = 12 ∨ j = 13 ∨ j = 14 ∨ j = 15 by omega) with rfl | rfl | rfl | rfl | rfl | rfl | rfl | rfl | rfl | rfl | rfl | rfl | rfl | rfl | rfl | rfl <;> rfl) ⟨Nat.le_of_ble_eq_true rfl, Nat.le_of_ble_eq_true rfl⟩ dX4_init_26 (fun q1 H hW => ?_)
  refine lv_dup hx hcd dX4_init_29 rfl ?_
  refine s_callI (ws := _) (rest := [.ref q1, .int 0, .ref q0]) hC hO hW (c_X0_init l D y q1 _) okI_X4_17 ⟨rfl, rfl, Nat.le_of_ble_eq_true rfl, Nat.le_of_ble_eq_true rfl⟩ hl.1 (Nat.le_of_ble_eq_true rfl) dX4_init_30 ⟨Nat.le_of_ble_eq_true rfl, Nat.le_of_ble_eq_true rfl⟩ (fun u0 H locs hW => ?_)
  obtain ⟨hP, hD, hS, hA⟩ := hW
  refine va_astq hx hcd hC.2.2.2.2.2 hP hD hS 1 2 2 2 rfl rfl rfl rfl (vp_in_nI (n := 0) (by omega) (by omega)) dX4_init_33 (fun H locs hP hD hS => ?_)
  have hW : s_W (va_A [(h, .inr (6, [.null, .int 0, .int 0]))] sz) s.heap D ([(h, .inr (6, [.ref q0, .int 0, .int 0]))] ++ [(q0, .inl (y.2.2, 6, .inr (.inr (.inr (.inr (va_up (fun _ => none) (0 : Int32).toNatClampNeg (some q1)))))))] ++ w_air y q1 u0) H locs := ⟨hP, hD, hS, hA⟩
  clear hP hD hS hA
  refine lv_iinc (k := 0) (v := 1) (lv' := [(1, .int 1), (0, .ref h)]) hx hcd dX4_init_34 hl rfl (by decide) (by decide) rfl (fun ls hl => ?_)
  refine lv_goto (tgt := 15) hx hcd dX4_init_37 (by decide) ?_
  refine lv_iload_n hx hcd dX4_init_15 rfl (lv_at hl 0 rfl) ?_
  refine lv_bipush (v := 6) hx hcd dX4_init_16 (by decide) ?_
  refine lv_icmp_ge (tgt := 40) hx hcd dX4_init_18 (by decide) (fun c9 => absurd c9 (by decide)) (fun _ => ?_)
  refine lv_aload_n hx hcd dX4_init_21 rfl (lv_at hl 1 rfl) ?_
  refine s_get (q0 := 0) (T := TX4) (N := 3) (ci := 6) (k := 0) hC hW inGX4 rfl rfl (by decide) fl_X4_11 rfl dX4_init_22 ?_
  refine lv_iload_n hx hcd dX4_init_25 rfl (lv_at hl 0 rfl) ?_
  refine s_new (fs := [.int 0, .int 0, .int 0, .int 0, .int 0, .null, .null, .null, .null, .null, .null, .null, .null, .null, .null, .null]) (ci := 2) hC hW tyX0 inGX0 tyX0_ok cl_X4_9 it_X0 ii_X0 rfl (fun j hj => by rcases (show j = 0 ∨ j = 1 ∨ j = 2 ∨ j = 3 ∨ j = 4 ∨ j = 5 ∨ j = 6 ∨ j = 7 ∨ j = 8 ∨ j = 9 ∨ j = 10 ∨ j = 11 ∨ j = 12 ∨ j = 13 ∨ j = 14 ∨ j = 15 by omega) with rfl | rfl | rfl | rfl | rfl | rfl | rfl | rfl | rfl | rfl | rfl | rfl | rfl | rfl | rfl | rfl <;> rfl) ⟨Nat.le_of_ble_eq_true rfl, Nat.le_of_ble_eq_true rfl⟩ dX4_init_26 (fun q2 H hW => ?_)
  refine lv_dup hx hcd dX4_init_29 rfl ?_
  refine s_callI (ws := _) (rest := [.ref q2, .int 1, .ref q0]) hC hO hW (c_X0_init l D y q2 _) okI_X4_17 ⟨rfl, rfl, Nat.le_of_ble_eq_true rfl, Nat.le_of_ble_eq_true rfl⟩ hl.1 (Nat.le_of_ble_eq_true rfl) dX4_init_30 ⟨Nat.le_of_ble_eq_true rfl, Nat.le_of_ble_eq_true rfl⟩ (fun u1 H locs hW => ?_)
  obtain ⟨hP, hD, hS, hA⟩ := hW
  refine va_astq hx hcd hC.2.2.2.2.2 hP hD hS 1 2 14 2 rfl rfl rfl rfl (vp_in_nI (n := 1) (by omega) (by omega)) dX4_init_33 (fun H locs hP hD hS => ?_)
  have hW : s_W (va_A [(h, .inr (6, [.null, .int 0, .int 0]))] sz) s.heap D ([(h, .inr (6, [.ref q0, .int 0, .int 0]))] ++ [(q0, .inl (y.2.2, 6, .inr (.inr (.inr (.inr (va_up (va_up (fun _ => none) (0 : Int32).toNatClampNeg (some q1)) (1 : Int32).toNatClampNeg (some q2)))))))] ++ w_air y q1 u0 ++ w_air y q2 u1) H locs := ⟨hP, hD, hS, hA⟩
  clear hP hD hS hA
  refine lv_iinc (k := 0) (v := 2) (lv' := [(1, .int 2), (0, .ref h)]) hx hcd dX4_init_34 hl rfl (by decide) (by decide) rfl (fun ls hl => ?_)
  refine lv_goto (tgt := 15) hx hcd dX4_init_37 (by decide) ?_
  refine lv_iload_n hx hcd dX4_init_15 rfl (lv_at hl 0 rfl) ?_
  refine lv_bipush (v := 6) hx hcd dX4_init_16 (by decide) ?_
  refine lv_icmp_ge (tgt := 40) hx hcd dX4_init_18 (by decide) (fun c9 => absurd c9 (by decide)) (fun _ => ?_)
  refine lv_aload_n hx hcd dX4_init_21 rfl (lv_at hl 1 rfl) ?_
  refine s_get (q0 := 0) (T := TX4) (N := 3) (ci := 6) (k := 0) hC hW inGX4 rfl rfl (by decide) fl_X4_11 rfl dX4_init_22 ?_
  refine lv_iload_n hx hcd dX4_init_25 rfl (lv_at hl 0 rfl) ?_
  refine s_new (fs := [.int 0, .int 0, .int 0, .int 0, .int 0, .null, .null, .null, .null, .null, .null, .null, .null, .null, .null, .null]) (ci := 2) hC hW tyX0 inGX0 tyX0_ok cl_X4_9 it_X0 ii_X0 rfl (fun j hj => by rcases (show j = 0 ∨ j = 1 ∨ j = 2 ∨ j = 3 ∨ j = 4 ∨ j = 5 ∨ j = 6 ∨ j = 7 ∨ j = 8 ∨ j = 9 ∨ j = 10 ∨ j = 11 ∨ j = 12 ∨ j = 13 ∨ j = 14 ∨ j = 15 by omega) with rfl | rfl | rfl | rfl | rfl | rfl | rfl | rfl | rfl | rfl | rfl | rfl | rfl | rfl | rfl | rfl <;> rfl) ⟨Nat.le_of_ble_eq_true rfl, Nat.le_of_ble_eq_true rfl⟩ dX4_init_26 (fun q3 H hW => ?_)
  refine lv_dup hx hcd dX4_init_29 rfl ?_
  refine s_callI (ws := _) (rest := [.ref q3, .int 2, .ref q0]) hC hO hW (c_X0_init l D y q3 _) okI_X4_17 ⟨rfl, rfl, Nat.le_of_ble_eq_true rfl, Nat.le_of_ble_eq_true rfl⟩ hl.1 (Nat.le_of_ble_eq_true rfl) dX4_init_30 ⟨Nat.le_of_ble_eq_true rfl, Nat.le_of_ble_eq_true rfl⟩ (fun u2 H locs hW => ?_)
  obtain ⟨hP, hD, hS, hA⟩ := hW
  refine va_astq hx hcd hC.2.2.2.2.2 hP hD hS 1 2 26 2 rfl rfl rfl rfl (vp_in_nI (n := 2) (by omega) (by omega)) dX4_init_33 (fun H locs hP hD hS => ?_)
  have hW : s_W (va_A [(h, .inr (6, [.null, .int 0, .int 0]))] sz) s.heap D ([(h, .inr (6, [.ref q0, .int 0, .int 0]))] ++ [(q0, .inl (y.2.2, 6, .inr (.inr (.inr (.inr (va_up (va_up (va_up (fun _ => none) (0 : Int32).toNatClampNeg (some q1)) (1 : Int32).toNatClampNeg (some q2)) (2 : Int32).toNatClampNeg (some q3)))))))] ++ w_air y q1 u0 ++ w_air y q2 u1 ++ w_air y q3 u2) H locs := ⟨hP, hD, hS, hA⟩
  clear hP hD hS hA
  refine lv_iinc (k := 0) (v := 3) (lv' := [(1, .int 3), (0, .ref h)]) hx hcd dX4_init_34 hl rfl (by decide) (by decide) rfl (fun ls hl => ?_)
  refine lv_goto (tgt := 15) hx hcd dX4_init_37 (by decide) ?_
  refine lv_iload_n hx hcd dX4_init_15 rfl (lv_at hl 0 rfl) ?_
  refine lv_bipush (v := 6) hx hcd dX4_init_16 (by decide) ?_
  refine lv_icmp_ge (tgt := 40) hx hcd dX4_init_18 (by decide) (fun c9 => absurd c9 (by decide)) (fun _ => ?_)
  refine lv_aload_n hx hcd dX4_init_21 rfl (lv_at hl 1 rfl) ?_
  refine s_get (q0 := 0) (T := TX4) (N := 3) (ci := 6) (k := 0) hC hW inGX4 rfl rfl (by decide) fl_X4_11 rfl dX4_init_22 ?_
  refine lv_iload_n hx hcd dX4_init_25 rfl (lv_at hl 0 rfl) ?_
  refine s_new (fs := [.int 0, .int 0, .int 0, .int 0, .int 0, .null, .null, .null, .null, .null, .null, .null, .null, .null, .null, .null]) (ci := 2) hC hW tyX0 inGX0 tyX0_ok cl_X4_9 it_X0 ii_X0 rfl (fun j hj => by rcases (show j = 0 ∨ j = 1 ∨ j = 2 ∨ j = 3 ∨ j = 4 ∨ j = 5 ∨ j = 6 ∨ j = 7 ∨ j = 8 ∨ j = 9 ∨ j = 10 ∨ j = 11 ∨ j = 12 ∨ j = 13 ∨ j = 14 ∨ j = 15 by omega) with rfl | rfl | rfl | rfl | rfl | rfl | rfl | rfl | rfl | rfl | rfl | rfl | rfl | rfl | rfl | rfl <;> rfl) ⟨Nat.le_of_ble_eq_true rfl, Nat.le_of_ble_eq_true rfl⟩ dX4_init_26 (fun q4 H hW => ?_)
  refine lv_dup hx hcd dX4_init_29 rfl ?_
  refine s_callI (ws := _) (rest := [.ref q4, .int 3, .ref q0]) hC hO hW (c_X0_init l D y q4 _) okI_X4_17 ⟨rfl, rfl, Nat.le_of_ble_eq_true rfl, Nat.le_of_ble_eq_true rfl⟩ hl.1 (Nat.le_of_ble_eq_true rfl) dX4_init_30 ⟨Nat.le_of_ble_eq_true rfl, Nat.le_of_ble_eq_true rfl⟩ (fun u3 H locs hW => ?_)
  obtain ⟨hP, hD, hS, hA⟩ := hW
  refine va_astq hx hcd hC.2.2.2.2.2 hP hD hS 1 2 38 2 rfl rfl rfl rfl (vp_in_nI (n := 3) (by omega) (by omega)) dX4_init_33 (fun H locs hP hD hS => ?_)
  have hW : s_W (va_A [(h, .inr (6, [.null, .int 0, .int 0]))] sz) s.heap D ([(h, .inr (6, [.ref q0, .int 0, .int 0]))] ++ [(q0, .inl (y.2.2, 6, .inr (.inr (.inr (.inr (va_up (va_up (va_up (va_up (fun _ => none) (0 : Int32).toNatClampNeg (some q1)) (1 : Int32).toNatClampNeg (some q2)) (2 : Int32).toNatClampNeg (some q3)) (3 : Int32).toNatClampNeg (some q4)))))))] ++ w_air y q1 u0 ++ w_air y q2 u1 ++ w_air y q3 u2 ++ w_air y q4 u3) H locs := ⟨hP, hD, hS, hA⟩
  clear hP hD hS hA
  refine lv_iinc (k := 0) (v := 4) (lv' := [(1, .int 4), (0, .ref h)]) hx hcd dX4_init_34 hl rfl (by decide) (by decide) rfl (fun ls hl => ?_)
  refine lv_goto (tgt := 15) hx hcd dX4_init_37 (by decide) ?_
  refine lv_iload_n hx hcd dX4_init_15 rfl (lv_at hl 0 rfl) ?_
  refine lv_bipush (v := 6) hx hcd dX4_init_16 (by decide) ?_
  refine lv_icmp_ge (tgt := 40) hx hcd dX4_init_18 (by decide) (fun c9 => absurd c9 (by decide)) (fun _ => ?_)
  refine lv_aload_n hx hcd dX4_init_21 rfl (lv_at hl 1 rfl) ?_
  refine s_get (q0 := 0) (T := TX4) (N := 3) (ci := 6) (k := 0) hC hW inGX4 rfl rfl (by decide) fl_X4_11 rfl dX4_init_22 ?_
  refine lv_iload_n hx hcd dX4_init_25 rfl (lv_at hl 0 rfl) ?_
  refine s_new (fs := [.int 0, .int 0, .int 0, .int 0, .int 0, .null, .null, .null, .null, .null, .null, .null, .null, .null, .null, .null]) (ci := 2) hC hW tyX0 inGX0 tyX0_ok cl_X4_9 it_X0 ii_X0 rfl (fun j hj => by rcases (show j = 0 ∨ j = 1 ∨ j = 2 ∨ j = 3 ∨ j = 4 ∨ j = 5 ∨ j = 6 ∨ j = 7 ∨ j = 8 ∨ j = 9 ∨ j = 10 ∨ j = 11 ∨ j = 12 ∨ j = 13 ∨ j = 14 ∨ j = 15 by omega) with rfl | rfl | rfl | rfl | rfl | rfl | rfl | rfl | rfl | rfl | rfl | rfl | rfl | rfl | rfl | rfl <;> rfl) ⟨Nat.le_of_ble_eq_true rfl, Nat.le_of_ble_eq_true rfl⟩ dX4_init_26 (fun q5 H hW => ?_)
  refine lv_dup hx hcd dX4_init_29 rfl ?_
  refine s_callI (ws := _) (rest := [.ref q5, .int 4, .ref q0]) hC hO hW (c_X0_init l D y q5 _) okI_X4_17 ⟨rfl, rfl, Nat.le_of_ble_eq_true rfl, Nat.le_of_ble_eq_true rfl⟩ hl.1 (Nat.le_of_ble_eq_true rfl) dX4_init_30 ⟨Nat.le_of_ble_eq_true rfl, Nat.le_of_ble_eq_true rfl⟩ (fun u4 H locs hW => ?_)
  obtain ⟨hP, hD, hS, hA⟩ := hW
  refine va_astq hx hcd hC.2.2.2.2.2 hP hD hS 1 2 50 2 rfl rfl rfl rfl (vp_in_nI (n := 4) (by omega) (by omega)) dX4_init_33 (fun H locs hP hD hS => ?_)
  have hW : s_W (va_A [(h, .inr (6, [.null, .int 0, .int 0]))] sz) s.heap D ([(h, .inr (6, [.ref q0, .int 0, .int 0]))] ++ [(q0, .inl (y.2.2, 6, .inr (.inr (.inr (.inr (va_up (va_up (va_up (va_up (va_up (fun _ => none) (0 : Int32).toNatClampNeg (some q1)) (1 : Int32).toNatClampNeg (some q2)) (2 : Int32).toNatClampNeg (some q3)) (3 : Int32).toNatClampNeg (some q4)) (4 : Int32).toNatClampNeg (some q5)))))))] ++ w_air y q1 u0 ++ w_air y q2 u1 ++ w_air y q3 u2 ++ w_air y q4 u3 ++ w_air y q5 u4) H locs := ⟨hP, hD, hS, hA⟩
  clear hP hD hS hA
  refine lv_iinc (k := 0) (v := 5) (lv' := [(1, .int 5), (0, .ref h)]) hx hcd dX4_init_34 hl rfl (by decide) (by decide) rfl (fun ls hl => ?_)
  refine lv_goto (tgt := 15) hx hcd dX4_init_37 (by decide) ?_
  refine lv_iload_n hx hcd dX4_init_15 rfl (lv_at hl 0 rfl) ?_
  refine lv_bipush (v := 6) hx hcd dX4_init_16 (by decide) ?_
  refine lv_icmp_ge (tgt := 40) hx hcd dX4_init_18 (by decide) (fun c9 => absurd c9 (by decide)) (fun _ => ?_)
  refine lv_aload_n hx hcd dX4_init_21 rfl (lv_at hl 1 rfl) ?_
  refine s_get (q0 := 0) (T := TX4) (N := 3) (ci := 6) (k := 0) hC hW inGX4 rfl rfl (by decide) fl_X4_11 rfl dX4_init_22 ?_
  refine lv_iload_n hx hcd dX4_init_25 rfl (lv_at hl 0 rfl) ?_
  refine s_new (fs := [.int 0, .int 0, .int 0, .int 0, .int 0, .null, .null, .null, .null, .null, .null, .null, .null, .null, .null, .null]) (ci := 2) hC hW tyX0 inGX0 tyX0_ok cl_X4_9 it_X0 ii_X0 rfl (fun j hj => by rcases (show j = 0 ∨ j = 1 ∨ j = 2 ∨ j = 3 ∨ j = 4 ∨ j = 5 ∨ j = 6 ∨ j = 7 ∨ j = 8 ∨ j = 9 ∨ j = 10 ∨ j = 11 ∨ j = 12 ∨ j = 13 ∨ j = 14 ∨ j = 15 by omega) with rfl | rfl | rfl | rfl | rfl | rfl | rfl | rfl | rfl | rfl | rfl | rfl | rfl | rfl | rfl | rfl <;> rfl) ⟨Nat.le_of_ble_eq_true rfl, Nat.le_of_ble_eq_true rfl⟩ dX4_init_26 (fun q6 H hW => ?_)
  refine lv_dup hx hcd dX4_init_29 rfl ?_
  refine s_callI (ws := _) (rest := [.ref q6, .int 5, .ref q0]) hC hO hW (c_X0_init l D y q6 _) okI_X4_17 ⟨rfl, rfl, Nat.le_of_ble_eq_true rfl, Nat.le_of_ble_eq_true rfl⟩ hl.1 (Nat.le_of_ble_eq_true rfl) dX4_init_30 ⟨Nat.le_of_ble_eq_true rfl, Nat.le_of_ble_eq_true rfl⟩ (fun u5 H locs hW => ?_)
  obtain ⟨hP, hD, hS, hA⟩ := hW
  refine va_astq hx hcd hC.2.2.2.2.2 hP hD hS 1 2 62 2 rfl rfl rfl rfl (vp_in_nI (n := 5) (by omega) (by omega)) dX4_init_33 (fun H locs hP hD hS => ?_)
  have hW : s_W (va_A [(h, .inr (6, [.null, .int 0, .int 0]))] sz) s.heap D ([(h, .inr (6, [.ref q0, .int 0, .int 0]))] ++ [(q0, .inl (y.2.2, 6, .inr (.inr (.inr (.inr (va_up (va_up (va_up (va_up (va_up (va_up (fun _ => none) (0 : Int32).toNatClampNeg (some q1)) (1 : Int32).toNatClampNeg (some q2)) (2 : Int32).toNatClampNeg (some q3)) (3 : Int32).toNatClampNeg (some q4)) (4 : Int32).toNatClampNeg (some q5)) (5 : Int32).toNatClampNeg (some q6)))))))] ++ w_air y q1 u0 ++ w_air y q2 u1 ++ w_air y q3 u2 ++ w_air y q4 u3 ++ w_air y q5 u4 ++ w_air y q6 u5) H locs := ⟨hP, hD, hS, hA⟩
  clear hP hD hS hA
  refine lv_iinc (k := 0) (v := 6) (lv' := [(1, .int 6), (0, .ref h)]) hx hcd dX4_init_34 hl rfl (by decide) (by decide) rfl (fun ls hl => ?_)
  refine lv_goto (tgt := 15) hx hcd dX4_init_37 (by decide) ?_
  refine lv_iload_n hx hcd dX4_init_15 rfl (lv_at hl 0 rfl) ?_
  refine lv_bipush (v := 6) hx hcd dX4_init_16 (by decide) ?_
  refine lv_icmp_ge (tgt := 40) hx hcd dX4_init_18 (by decide) (fun _ => ?_) (fun c9 => absurd (by decide) c9)
  have hW := s_rep (k := 1) hW rfl (s_cellq (n := 6) (g := fun j => some ((fun i j => if j = 0 then [q1, q2, q3, q4, q5, q6].getD i 0 else [u0, u1, u2, u3, u4, u5].getD i (fun _ => 0) j) j 0)) (fun j hj => by rcases (show j = 0 ∨ j = 1 ∨ j = 2 ∨ j = 3 ∨ j = 4 ∨ j = 5 by omega) with rfl | rfl | rfl | rfl | rfl | rfl <;> rfl))
  exact s_vret (q0, (fun i j => if j = 0 then [q1, q2, q3, q4, q5, q6].getD i 0 else [u0, u1, u2, u3, u4, u5].getD i (fun _ => 0) j)) hC hr hlk hsz hW dX4_init_40
