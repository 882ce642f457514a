/-! ===== the law's helpers: they call a method that may throw, and catch ===== -/
def g_nc : List (String × String) := [("java/lang/IllegalArgumentException", "java/lang/IndexOutOfBoundsException"), ("java/lang/IllegalStateException", "java/lang/IllegalArgumentException"), ("java/lang/IllegalStateException", "java/lang/IndexOutOfBoundsException"), ("java/lang/UnsupportedOperationException", "java/lang/IndexOutOfBoundsException"), ("java/util/NoSuchElementException", "java/lang/IllegalArgumentException"), ("java/util/NoSuchElementException", "java/lang/IndexOutOfBoundsException")]
def g_Y (A : Nat → Prop) (U : State) (H : Heap) : Prop := g_Z A U H ∧ ∀ q ∈ g_nc, va_Nc q.1 q.2 U
theorem g_Y.warm {A : Nat → Prop} {s U : State} {H : Heap} (hW : s.WarmedH U.vm) (h : g_Y A s H) : g_Y A U H := ⟨h.1.warm hW, fun q hq => va_Nc.moved hW.alike (h.2 q hq)⟩
theorem g_Y.kept {A : Nat → Prop} {s : State} {H H1 : Heap} (h : g_Y A s H) (hq : ∀ a : Nat, a < H.size → ¬ A a → H1[a]? = H[a]?) : g_Y A s H1 := ⟨h.1.kept hq, h.2⟩
theorem g_Y.narrow {A B : Nat → Prop} {s : State} {H : Heap} (h : g_Y A s H) (hAB : ∀ q, B q → A q) : g_Y B s H := ⟨h.1.narrow hAB, h.2⟩
def g_AL (ad : Nat → Nat) (oa sz : Nat) : Nat → Prop := fun q => q = oa ∨ g_A ad sz q
def g_PcL (D : va_G) (y : ClassId × ClassId × ClassId) (ad : Nat → Nat) (σ : gS) (sz : Nat) (kl : ClassId × FieldType) (oa : Nat) (e : va_E) (av : List Value) : Array Value → State → Prop := va_Pc av (fun U => U.heap.size = sz ∧ va_P D vwCl (g_wl y ad σ ++ [(oa, e)]) U.heap ∧ va_K D vwCl (g_ty y) U ∧ va_K D vwCl [kl] U ∧ va_D (fun _ => True) (g_wl y ad σ ++ [(oa, e)]) ∧ g_Y (g_AL ad oa sz) U U.heap)
def g_QL (D : va_G) (y : ClassId × ClassId × ClassId) (ad : Nat → Nat) (sz oa : Nat) (q : Int32 × va_E × gS) : Array Value → State → Outcome → State → Prop := va_Qi (fun (r1 : Int32) (_ : Unit) => r1 = q.1) (fun _ t => va_P D vwCl (g_wl y ad q.2.2 ++ [(oa, q.2.1)]) t.heap) (g_AL ad oa sz)
theorem g_blindL {D : va_G} {y : ClassId × ClassId × ClassId} {ad : Nat → Nat} {σ : gS} {sz : Nat} {kl : ClassId × FieldType} {oa : Nat} {e : va_E} {av : List Value} : FrameBlind (g_PcL D y ad σ sz kl oa e av) := by
  intro a U g mk q
  obtain ⟨q0, q1, qP, qK, qL, qD, qZ⟩ := q
  exact ⟨q0, q1, qP, va_K.moved (u := U) (U := U.calling g mk a) (Vm.Alike.refl U.vm) qK, va_K.moved (u := U) (U := U.calling g mk a) (Vm.Alike.refl U.vm) qL, qD, g_Y.warm (s := U) (U := U.calling g mk a) (State.WarmedH.refl U) qZ⟩
theorem g_ofWH {l : Launch} {y : MethodName} {ws ws' : List Cond} {rm : Room} {Pc : Array Value → State → Prop} {Qc : Array Value → State → Outcome → State → Prop} {mc ms : Nat} {free : Addr → Prop} {cc : ByteArray} {maxL : Nat} {ret : Option FieldType} {hh : List (Nat × Nat × Nat × Nat)}
    (hy : plainName y.cls = true) (hw : ws = Cond.codeWith y cc maxL ret hh :: ws')
    (body : ∀ p e s m args below meth c s₁, BodyLoose p l y (headSpec ws rm) cc maxL ret e s m args below meth c s₁ → c.maxLocals = maxL → Pc args s →
      W p l e (headSpec ws rm).room s m args below meth c s.heap [] 0 0 (MQ below Qc args s mc ms free) (entryFrame m args maxL)) : Met l y ws rm Pc Qc mc ms free := by
  refine MetFree.of_bodyS (code := cc) (maxLocals := maxL) (ret := ret) hy ?_ ?_
  · intro args s m h hn
    obtain ⟨m9, meth, c, hn9, h1, h2, h3, h4, -, h5, h6, -⟩ := Cond.codeWith_spec (atoms_spec (ws := ws) h _ (by rw [hw]; exact List.mem_cons_self))
    cases hn.symm.trans hn9
    exact ⟨meth, c, h1, h2, h3, h4, h5, h6⟩
  · intro p e s m args below meth c s₁ B hml hP _
    have hh0 : s₁.heap = s.heap := by rw [B.state]; rfl
    obtain ⟨t, a1, o, b1, b2, b3⟩ := body p e s m args below meth c s₁ B hml hP s₁ hh0 (Stand.of_body B)
    exact ⟨t, o, a1, b1, b2, ⟨b3.1, b3.2⟩⟩
theorem g_startL {l : Launch} {yM : MethodName} {cc : ByteArray} {maxL : Nat} {ret : Option FieldType} {rm : Room} {hh : List (Nat × Nat × Nat × Nat)} {D : va_G} {y : ClassId × ClassId × ClassId} {ad : Nat → Nat} {σ : gS} {sz : Nat} {kl : ClassId × FieldType} {oa : Nat} {ee : va_E} {av : List Value} {Qc : Array Value → State → Outcome → State → Prop} (hy : plainName yM.cls = true) (hlen : (lg_sl av).length ≤ maxL)
    (body : ∀ (p : Program) (e : Env) (s : State) (m : MethodId) (below : List Frame) (meth : Method) (c : Code) (ls : Array Slot), g_C p s m av.toArray c cc maxL yM.cls D y → meth.sig.returnType = ret → meth.locks = false → s.heap.size = sz → g_W (g_AL ad oa sz) s.heap D y ad [(oa, ee)] σ s.heap [] → lv_has ls maxL (lv_args 0 av) → c.exceptionTable.toList = tableOf hh → g_Y (g_AL ad oa sz) s s.heap → va_K D vwCl [kl] s →
      W p l e rm s m av.toArray below meth c s.heap [] 0 0 (MQ below Qc av.toArray s 1 6 (g_AL ad oa sz)) (F0 m 0 ls [])) : Met l yM (Cond.codeWith yM cc maxL ret hh :: gl) rm (g_PcL D y ad σ sz kl oa ee av) Qc 1 6 (g_AL ad oa sz) := by
  refine g_ofWH (cc := cc) (maxL := maxL) (ret := ret) (hh := hh) hy rfl ?_
  intro p e s m args below meth c s₁ B hml hv
  obtain ⟨rfl, hsz, hP, hK, hL, hD0, hZ⟩ := hv
  have hx := B.exec
  have hb := B.bytes
  have hr := B.returns
  have hts := atoms_spec (ws := Cond.codeWith yM cc maxL ret hh :: gl) B.pre
  have hown : s.vm.findClass yM.cls = some m.cls := findClass_of_methodNamed B.named
  have hlocks := B.notSynchronized
  have ht := vx_table (x := yM) B (hts _ List.mem_cons_self)
  have hl := lv_entry av (n := maxL) hlen
  rw [lg_entry_eq]
  have hD1 : va_D (g_AL ad oa sz) (g_wl y ad σ ++ [(oa, ee)]) := by
    refine ⟨hD0.1, fun k q hq => ?_⟩
    by_cases hk : k < 143
    · rw [g_wl_get y ad σ _ hk] at hq
      rw [← Option.some.inj hq]
      exact Or.inr (Or.inl ⟨k, hk, rfl⟩)
    · rw [List.getElem?_append_right (by rw [g_wl_len]; omega), g_wl_len] at hq
      have h1 := (List.getElem?_eq_some_iff.mp hq).1
      have h0 : k - 143 = 0 := by simp at h1; omega
      rw [h0] at hq
      rw [← Option.some.inj hq]
      exact Or.inl rfl
  exact body p e s m below meth c _ ⟨hx, hb, hml, hown, fun w h => hts w (List.mem_cons_of_mem _ h), hK⟩ hr hlocks hsz ⟨hP, hD1, va_S.rf, fun q h => Or.inr (Or.inr (by rw [← hsz]; exact h))⟩ hl ht hZ hL
section GL
variable {p : Program} {l : Launch} {e : Env} {R : Room} {s : State} {m : MethodId} {args : Array Value} {below : List Frame} {meth : Method} {c : Code} {H : Heap} {locs : List Loc} {cells slots : Nat} {Q : State → Prop}
variable {cc : ByteArray} {pc nL : Nat} {ls : Array Slot} {rest : List Value} {own : String} {D : va_G} {y : ClassId × ClassId × ClassId} {A : Nat → Prop} {H0 : Heap} {ad : Nat → Nat} {X : va_W} {σ : gS}
theorem g_xl_set {y : ClassId × ClassId × ClassId} {ad : Nat → Nat} {σ : gS} {oa : Nat} {e e2 : va_E} : (g_wl y ad σ ++ [(oa, e)]).set 143 (oa, e2) = g_wl y ad σ ++ [(oa, e2)] := by
  rw [List.set_append, if_neg (by rw [g_wl_len]; omega), g_wl_len]; rfl
theorem g_xl_get {y : ClassId × ClassId × ClassId} {ad : Nat → Nat} {σ : gS} {oa : Nat} {e : va_E} : (g_wl y ad σ ++ [(oa, e)])[143]? = some (oa, e) := by
  rw [List.getElem?_append_right (by rw [g_wl_len]; omega), g_wl_len]; rfl
theorem g_last {cL : ClassId} {oa : Nat} {f : Nat → Int64} {x : Int64} (hC : g_C p s m args c cc nL own D y) (hKL : va_K D vwCl [(cL, .long)] s) (hW : g_W A H0 D y ad [(oa, .inl (cL, 1, .inr (.inl f)))] σ H locs) (hdg : decode cc pc = .ok (.lastore, 1))
    (kk : ∀ (H1 : Heap) (locs1 : List Loc), g_W A H0 D y ad [(oa, .inl (cL, 1, .inr (.inl (vp_updL f 0 x))))] σ H1 locs1 → W p l e R s m args below meth c H1 locs1 cells slots Q (F0 m (pc + 1) ls rest)) : W p l e R s m args below meth c H locs cells slots Q (F0 m pc ls (.long x :: .int 0 :: .ref oa :: rest)) := by
  obtain ⟨hx, hb, -⟩ := hC
  obtain ⟨hP, hD, hS, hA⟩ := hW
  refine va_last hx hb hKL hP hD hS 143 0 g_xl_get rfl (i := 0) (vp_in_nI (n := 0) (by omega) (by omega)) hdg (fun H1 locs1 hP hD hS => ?_)
  rw [g_xl_set] at hP hD
  exact kk H1 locs1 ⟨hP, hD, hS, hA⟩
theorem g_dast {cL : ClassId} {oa : Nat} {f : Nat → UInt64} {x : UInt64} (hC : g_C p s m args c cc nL own D y) (hKL : va_K D vwCl [(cL, .double)] s) (hW : g_W A H0 D y ad [(oa, .inl (cL, 1, .inr (.inr (.inr (.inl f)))))] σ H locs) (hdg : decode cc pc = .ok (.dastore, 1))
    (kk : ∀ (H1 : Heap) (locs1 : List Loc), g_W A H0 D y ad [(oa, .inl (cL, 1, .inr (.inr (.inr (.inl (va_up f 0 x))))))] σ H1 locs1 → W p l e R s m args below meth c H1 locs1 cells slots Q (F0 m (pc + 1) ls rest)) : W p l e R s m args below meth c H locs cells slots Q (F0 m pc ls (.double x :: .int 0 :: .ref oa :: rest)) := by
  obtain ⟨hx, hb, -⟩ := hC
  obtain ⟨hP, hD, hS, hA⟩ := hW
  refine va_dast hx hb hKL hP hD hS 143 0 g_xl_get rfl (i := 0) (vp_in_nI (n := 0) (by omega) (by omega)) hdg (fun H1 locs1 hP hD hS => ?_)
  rw [g_xl_set] at hP hD
  exact kk H1 locs1 ⟨hP, hD, hS, hA⟩
/-- the call of a method that may throw -/
theorem g_runX (hC : g_C p s m args c cc nL own D y) (hW : g_W A H0 D y ad X σ H locs) (hH : H0 = s.heap) (hZ : g_Z A s s.heap) {index n maxL : Nat} {yM : MethodName} {bytes : ByteArray} {ret : Option FieldType} {rm : Room} {As st0 : List Value} {Qc : Array Value → State → Outcome → State → Prop} {XC : String → State → State → Prop} {free : Addr → Prop}
    (hM : vx_Met l yM (Cond.code yM bytes maxL ret :: gl) rm (g_PcX D y ad σ H.size (.ref (ad 0) :: As)) Qc XC 1 6 free) (ok : g_okV own index RX6 yM bytes maxL ret n) (hrm : rm.cells = 1 ∧ rm.slots = 6 ∧ rm.frames + 1 ≤ R.frames ∧ 8 + (maxL + 11) + rm.locals ≤ R.locals) (hn : As.length = n) (hls : ls.size = nL) (hst : st0 = As.reverse ++ .ref (ad 0) :: rest) (hrest : (rest.map fun v => v.category).sum ≤ 8) (hdg : decode cc pc = .ok (.invokevirtual index, 3)) (hcs : cells + 1 ≤ R.cells ∧ slots + 6 ≤ R.slots) :
    vx_Run p l e R s m args below meth c H locs cells slots 1 6 (F0 m pc ls st0) rest (Qc (Value.ref (ad 0) :: As).toArray) XC free := by
  obtain ⟨hx, hb, hml, hown, hts, hK⟩ := hC
  have hcl := g_cl hW
  obtain ⟨hP, hD, hS, hA⟩ := hW
  subst hH
  have hP0 : va_P D vwCl (g_wl y ad σ) H := fun k x hk => hP k x (by rw [List.getElem?_append_left (List.getElem?_eq_some_iff.mp hk).1]; exact hk)
  have hD0 : va_D (fun _ => True) (g_wl y ad σ) := ⟨fun i j a b ha hb => hD.1 i j a b (by rw [List.getElem?_append_left (List.getElem?_eq_some_iff.mp ha).1]; exact ha) (by rw [List.getElem?_append_left (List.getElem?_eq_some_iff.mp hb).1]; exact hb), fun _ _ _ => trivial⟩
  have hZ1 : g_Z (g_A ad H.size) s H := (hZ.kept hS.2.1).narrow hcl
  refine vx_runV (As := As) (rest := rest) ⟨hx, hb, hml, hown, hts⟩ hM (cwV n hts (g_goodV ok) rfl hrm.1 hrm.2.1 ok.2.2.2.2.2 ⟨hrm.2.2.1, hrm.2.2.2⟩) ⟨g_blindX, ?_, fun U hU hW => ⟨rfl, by rw [hU], by rw [hU]; exact hP0, va_K.moved hW.alike hK, hD0, by rw [hU]; exact hZ1.warm hW⟩⟩ rfl hn hls (by rw [hst]) (lv_room hrest) hdg hcs
  exact va_recv hK hP (ci := 8) (q := (RX6, TX6, 11)) rfl (by rw [g_wl_get y ad σ X (show (0 : Nat) < 143 by omega), g_ce_obj (show g_sh 0 = _ from rfl)])
theorem g_callX {st0 : List Value} {a : Array Value} {q : (String ⊕ Int32) × gS} (hW : g_W A H0 D y ad X σ H locs) (hr : vx_Run p l e R s m args below meth c H locs cells slots 1 6 (F0 m pc ls st0) rest (g_QX D y ad H.size q a) (g_XX D y ad H.size q) (g_A ad H.size))
    (kr : ∀ (r : Int32), q.1 = .inr r → ∀ (H1 : Heap) (locs1 : List Loc), g_W A H0 D y ad X q.2 H1 locs1 → W p l e R s m args below meth c H1 locs1 (cells + 1) (slots + 6) Q (F0 m (pc + 3) ls (.int r :: rest)))
    (kx : ∀ (E : String), q.1 = .inl E → ∀ (H1 : Heap) (locs1 : List Loc) (ce : Cell) (q9 : Addr), g_W A H0 D y ad X q.2 H1 locs1 → H1[q9]? = some ce → ce.vm = .none → s.vm.findClass E = some ce.cls → vx_W p l e R s m args below meth c H1 locs1 (cells + 1) (slots + 6) Q (F0 m pc ls rest) q9) : W p l e R s m args below meth c H locs cells slots Q (F0 m pc ls st0) := by
  refine vx_calli hr hW.2.2.1 (fun q _ h => g_cl hW q h) (g_cl hW) (fun q _ h => g_cl hW q h) (fun E ce q9 u t H1 locs1 ht hvm hp hB hz hk hS hce hcv hcl => ?_) (fun r u t H1 locs1 ht hvm hp hB hz hk hS => ?_)
  · obtain ⟨hE, hB⟩ := hB
    rw [ht] at hB
    exact kx E hE H1 locs1 ce q9 (g_join hW hB hk hS) hce hcv hcl
  · rw [ht] at hB
    exact kr r hp H1 locs1 (g_join hW hB hk hS)
theorem g_callXf {st0 : List Value} {a : Array Value} {q : (String ⊕ UInt32) × gS} (hW : g_W A H0 D y ad X σ H locs) (hr : vx_Run p l e R s m args below meth c H locs cells slots 1 6 (F0 m pc ls st0) rest (g_QXf D y ad H.size q a) (g_XX D y ad H.size q) (g_A ad H.size))
    (kr : ∀ (r : UInt32), q.1 = .inr r → ∀ (H1 : Heap) (locs1 : List Loc), g_W A H0 D y ad X q.2 H1 locs1 → W p l e R s m args below meth c H1 locs1 (cells + 1) (slots + 6) Q (F0 m (pc + 3) ls (.float r :: rest)))
    (kx : ∀ (E : String), q.1 = .inl E → ∀ (H1 : Heap) (locs1 : List Loc) (ce : Cell) (q9 : Addr), g_W A H0 D y ad X q.2 H1 locs1 → H1[q9]? = some ce → ce.vm = .none → s.vm.findClass E = some ce.cls → vx_W p l e R s m args below meth c H1 locs1 (cells + 1) (slots + 6) Q (F0 m pc ls rest) q9) : W p l e R s m args below meth c H locs cells slots Q (F0 m pc ls st0) := by
  refine vx_callf hr hW.2.2.1 (fun q _ h => g_cl hW q h) (g_cl hW) (fun q _ h => g_cl hW q h) (fun E ce q9 u t H1 locs1 ht hvm hp hB hz hk hS hce hcv hcl => ?_) (fun r u t H1 locs1 ht hvm hp hB hz hk hS => ?_)
  · obtain ⟨hE, hB⟩ := hB
    rw [ht] at hB
    exact kx E hE H1 locs1 ce q9 (g_join hW hB hk hS) hce hcv hcl
  · rw [ht] at hB
    exact kr r hp H1 locs1 (g_join hW hB hk hS)
theorem g_iretL {sz oa : Nat} {r : Int32} {ee : va_E} (hC : g_C p s m args c cc nL own D y) (hr : meth.sig.returnType = some .int) (hlk : meth.locks = false) (hsz : s.heap.size = sz) (hW : g_W (g_AL ad oa sz) s.heap D y ad [(oa, ee)] σ H locs) (hdg : decode cc pc = .ok (.ireturn, 1)) :
    W p l e R s m args below meth c H locs 1 6 (MQ below (g_QL D y ad sz oa (r, ee, σ)) args s 1 6 (g_AL ad oa sz)) (F0 m pc ls [.int r]) := by
  obtain ⟨hx, hb, -⟩ := hC
  obtain ⟨hP, hD, hS, hA⟩ := hW
  exact W.iret hx hb hr (fun t ht hW => ⟨⟨r, (), rfl, rfl, by show va_P D vwCl (g_wl y ad σ ++ [(oa, ee)]) t.heap; rw [ht]; exact hP⟩, hS.F ht⟩) hS.2.2 hdg hlk
end GL
theorem lk_8 : Cond.classLink RL 8 "StandAssigner" ∈ gl := gl_1 (i := 27) (by decide +kernel) rfl
theorem lk_13 : Cond.classLink RL 13 "java/lang/IllegalArgumentException" ∈ gl := gl_2 (i := 155) (by decide +kernel) rfl
theorem lk_15 : Cond.classLink RL 15 "java/lang/IllegalStateException" ∈ gl := gl_2 (i := 156) (by decide +kernel) rfl
theorem lk_21 : Cond.classLink RL 21 "java/lang/IndexOutOfBoundsException" ∈ gl := gl_3 (i := 16) (by decide +kernel) rfl
theorem lk_37 : Cond.classLink RL 37 "java/util/NoSuchElementException" ∈ gl := gl_3 (i := 119) (by decide +kernel) rfl
theorem lk_55 : Cond.classLink RL 55 "java/lang/UnsupportedOperationException" ∈ gl := gl_3 (i := 220) (by decide +kernel) rfl
theorem lk_105 : Cond.classLink RL 105 "java/lang/ArithmeticException" ∈ gl := gl_4 (i := 231) (by decide +kernel) rfl
theorem lk_124 : Cond.classLink RL 124 "StandAssignerModel" ∈ gl := gl_5 (i := 173) (by decide +kernel) rfl
theorem cst_ArithmeticException : Cond.castable "java/lang/ArithmeticException" "java/lang/ArithmeticException" ∈ gx := List.mem_filter.mpr ⟨by decide +kernel, rfl⟩
theorem cst_IllegalArgumentException : Cond.castable "java/lang/IllegalArgumentException" "java/lang/IllegalArgumentException" ∈ gx := List.mem_filter.mpr ⟨by decide +kernel, rfl⟩
theorem cst_IllegalStateException : Cond.castable "java/lang/IllegalStateException" "java/lang/IllegalStateException" ∈ gx := List.mem_filter.mpr ⟨by decide +kernel, rfl⟩
theorem cst_IndexOutOfBoundsException : Cond.castable "java/lang/IndexOutOfBoundsException" "java/lang/IndexOutOfBoundsException" ∈ gx := List.mem_filter.mpr ⟨by decide +kernel, rfl⟩
theorem cst_UnsupportedOperationException : Cond.castable "java/lang/UnsupportedOperationException" "java/lang/UnsupportedOperationException" ∈ gx := List.mem_filter.mpr ⟨by decide +kernel, rfl⟩
theorem cst_NoSuchElementException : Cond.castable "java/util/NoSuchElementException" "java/util/NoSuchElementException" ∈ gx := List.mem_filter.mpr ⟨by decide +kernel, rfl⟩
