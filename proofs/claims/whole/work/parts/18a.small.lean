/-! ===== constructors: rows over small worlds ===== -/
def s_W (A : Nat → Prop) (H0 : Heap) (D : va_G) (ws : va_W) (H : Heap) (locs : List Loc) : Prop :=
  va_P D vwCl ws H ∧ va_D A ws ∧ va_S A H0 H locs ∧ ∀ q, H0.size ≤ q → A q
def s_Pc (D : va_G) (y : ClassId × ClassId × ClassId) (ws : va_W) (sz : Nat) (av : List Value) : Array Value → State → Prop := va_Pc av (fun U => U.heap.size = sz ∧ va_P D vwCl ws U.heap ∧ va_K D vwCl (g_ty y) U ∧ va_D (fun _ => True) ws ∧ va_AO RX0 U)
def s_Qv (D : va_G) {S : Type} (wf : S → va_W) (ws : va_W) (sz : Nat) : Array Value → State → Outcome → State → Prop := va_Qv (fun (_ : S) => True) (fun u t => va_P D vwCl (wf u) t.heap ∧ va_D (va_A ws sz) (wf u)) (va_A ws sz)
theorem s_blind {D : va_G} {y : ClassId × ClassId × ClassId} {ws : va_W} {sz : Nat} {av : List Value} : FrameBlind (s_Pc D y ws sz av) := by
  intro a U g mk q
  obtain ⟨q0, q1, qP, qK, qD, qO⟩ := q
  exact ⟨q0, q1, qP, va_K.moved (u := U) (U := U.calling g mk a) (Vm.Alike.refl U.vm) qK, qD, va_AO.moved (u := U) (U := U.calling g mk a) (Vm.Alike.refl U.vm) qO⟩
theorem s_join {A0 : Nat → Prop} {D : va_G} {X w1 : va_W} {q : Nat} {e : va_E} {H H1 : Heap} (hP : va_P D vwCl (X ++ [(q, e)]) H) (hD : va_D A0 (X ++ [(q, e)])) (hF : ∀ z, va_A [(q, e)] H.size z → A0 z) (hk : ∀ z : Nat, z < H.size → ¬ va_A [(q, e)] H.size z → H1[z]? = H[z]?) (hP1 : va_P D vwCl w1 H1) (hD1 : va_D (va_A [(q, e)] H.size) w1) : va_P D vwCl (X ++ w1) H1 ∧ va_D A0 (X ++ w1) := by
  have hl : (X ++ [(q, e)])[X.length]? = some (q, e) := by rw [List.getElem?_append_right (Nat.le_refl _), Nat.sub_self]; rfl
  have hx : ∀ (k : Nat) (x : Nat × va_E), X[k]? = some x → (X ++ [(q, e)])[k]? = some x ∧ k < X.length := fun k x h => by
    have h1 := (List.getElem?_eq_some_iff.mp h).1
    exact ⟨by rw [List.getElem?_append_left h1]; exact h, h1⟩
  have hne : ∀ (k : Nat) (x : Nat × va_E), X[k]? = some x → x.1 < H.size ∧ ¬ va_A [(q, e)] H.size x.1 := fun k x h => by
    obtain ⟨h1, h2⟩ := hx k x h
    have hlt := (hP k x h1).lt
    refine ⟨hlt, ?_⟩
    rintro (⟨k2, e2, h3⟩ | h3)
    · have h4 := (List.getElem?_eq_some_iff.mp h3).1
      have h5 : k2 = 0 := by simp at h4; omega
      subst h5
      have h6 : x.1 = q := (congrArg Prod.fst (Option.some.inj h3)).symm
      have := hD.1 k X.length x (q, e) h1 hl h6
      omega
    · omega
  refine ⟨va_P.app (fun k x h => ?_) hP1, va_D.app ?_ (hD1.weaken (fun _ _ _ h => hF _ h)) (fun i j x z hx1 hz1 => ?_)⟩
  · obtain ⟨h1, h2⟩ := hne k x h
    exact (hP k x (hx k x h).1).kept (hk x.1 h1 h2)
  · exact ⟨fun i j a b ha hb => hD.1 i j a b (hx i a ha).1 (hx j b hb).1, fun k x h => hD.2 k x (hx k x h).1⟩
  · intro e9
    have h1 := hD1.2 j z hz1
    rw [← e9] at h1
    exact (hne i x hx1).2 h1
section SR
variable {p : Program} {l : Launch} {e : Env} {R : Room} {s : State} {m : MethodId} {args : Array Value} {below : List Frame} {meth : Method} {c : Code} {H : Heap} {locs : List Loc} {cells slots : Nat} {Q : State → Prop}
variable {cc : ByteArray} {pc nL : Nat} {ls : Array Slot} {rest : List Value} {own : String} {D : va_G} {y : ClassId × ClassId × ClassId} {A : Nat → Prop} {H0 : Heap} {ws : va_W}
theorem s_newi (hC : g_C p s m args c cc nL own D y) (hW : s_W A H0 D ws H locs) {n : Int32} {N : Nat} (hn : ¬ n < 0) (hN : n.toNatClampNeg = N) (hb4 : N * componentBytes .int ≤ 536870912) (harr : Cond.arrayClass .int ∈ gl) (hcs : cells + 1 ≤ R.cells ∧ slots + N ≤ R.slots) (hdg : decode cc pc = .ok (.newarray .int, 2))
    (kk : ∀ (q : Nat) (H1 : Heap), s_W A H0 D (ws ++ [(q, .inl (y.1, N, .inl fun _ => 0))]) H1 locs → W p l e R s m args below meth c H1 locs (cells + 1) (slots + N) Q (F0 m (pc + 2) ls (.ref q :: rest))) : W p l e R s m args below meth c H locs cells slots Q (F0 m pc ls (.int n :: rest)) := by
  obtain ⟨hx, hb, hml, hown, hts, hK⟩ := hC
  obtain ⟨hP, hD, hS, hA⟩ := hW
  refine va_newa (atype := .int) (ty := .int) (a0 := (N, .inl fun _ => 0)) hx hb (hts _ harr) rfl hK hP hD hS hA (fun _ => rfl) hn hN hb4 hcs.1 hcs.2 hdg (fun q cA H1 hK2 hP hD hS => ?_)
  have e1 : s.vm.findClass ("[" ++ FieldType.int.toString) = some cA := (hK2.2 3 (cA, .int) rfl).2
  have e2 : s.vm.findClass ("[" ++ FieldType.int.toString) = some y.1 := (hK.2 0 (y.1, .int) rfl).2
  obtain rfl : cA = y.1 := Option.some.inj (e1.symm.trans e2)
  exact kk q H1 ⟨hP, hD, hS, hA⟩
theorem s_newc (hC : g_C p s m args c cc nL own D y) (hW : s_W A H0 D ws H locs) {n : Int32} {N : Nat} (hn : ¬ n < 0) (hN : n.toNatClampNeg = N) (hb4 : N * componentBytes .char ≤ 536870912) (harr : Cond.arrayClass .char ∈ gl) (hcs : cells + 1 ≤ R.cells ∧ slots + N ≤ R.slots) (hdg : decode cc pc = .ok (.newarray .char, 2))
    (kk : ∀ (q : Nat) (H1 : Heap), s_W A H0 D (ws ++ [(q, .inl (y.2.1, N, .inl fun _ => 0))]) H1 locs → W p l e R s m args below meth c H1 locs (cells + 1) (slots + N) Q (F0 m (pc + 2) ls (.ref q :: rest))) : W p l e R s m args below meth c H locs cells slots Q (F0 m pc ls (.int n :: rest)) := by
  obtain ⟨hx, hb, hml, hown, hts, hK⟩ := hC
  obtain ⟨hP, hD, hS, hA⟩ := hW
  refine va_newa (atype := .char) (ty := .char) (a0 := (N, .inl fun _ => 0)) hx hb (hts _ harr) rfl hK hP hD hS hA (fun _ => rfl) hn hN hb4 hcs.1 hcs.2 hdg (fun q cA H1 hK2 hP hD hS => ?_)
  have e1 : s.vm.findClass ("[" ++ FieldType.char.toString) = some cA := (hK2.2 3 (cA, .char) rfl).2
  have e2 : s.vm.findClass ("[" ++ FieldType.char.toString) = some y.2.1 := (hK.2 1 (y.2.1, .char) rfl).2
  obtain rfl : cA = y.2.1 := Option.some.inj (e1.symm.trans e2)
  exact kk q H1 ⟨hP, hD, hS, hA⟩
theorem s_newq (hC : g_C p s m args c cc nL own D y) (hO : va_AO RX0 s) (hW : s_W A H0 D ws H locs) {index : Nat} (hlk : Cond.classLink own index RX0 ∈ gl) {n : Int32} {N : Nat} (hn : ¬ n < 0) (hN : n.toNatClampNeg = N) (hb4 : N * 4 ≤ 536870912) (hcs : cells + 1 ≤ R.cells ∧ slots + N ≤ R.slots) (hdg : decode cc pc = .ok (.anewarray index, 3))
    (kk : ∀ (q : Nat) (H1 : Heap), s_W A H0 D (ws ++ [(q, .inl (y.2.2, N, .inr (.inr (.inr (.inr fun _ => none)))))]) H1 locs → W p l e R s m args below meth c H1 locs (cells + 1) (slots + N) Q (F0 m (pc + 3) ls (.ref q :: rest))) : W p l e R s m args below meth c H locs cells slots Q (F0 m pc ls (.int n :: rest)) := by
  obtain ⟨hx, hb, hml, hown, hts, hK⟩ := hC
  obtain ⟨hP, hD, hS, hA⟩ := hW
  refine va_newq (C := RX0) hx hb hown (hts _ hlk) hO hK hP hD hS hA hn hN hb4 hcs.1 hcs.2 hdg (fun q cA H1 hK2 hP hD hS => ?_)
  obtain ⟨k1, c1, a1, a2, a3, e1⟩ := (hK2.2 3 (cA, .object RX0) rfl).2
  obtain ⟨k2, c2, b1, b2, b3, e2⟩ := (hK.2 2 (y.2.2, .object "StandAssigner$Airport") rfl).2
  obtain rfl : cA = y.2.2 := Option.some.inj (e1.symm.trans e2)
  exact kk q H1 ⟨hP, hD, hS, hA⟩
theorem s_new (hC : g_C p s m args c cc nL own D y) (hW : s_W A H0 D ws H locs) {C : String} {T : u_T} {N ci index : Nat} {fs : List Value} (ty : Nat → FieldType) (hin : ∀ w ∈ u_ws C T N, w ∈ gl) (hty : ∀ k, k < N → parseFieldDescriptor (T k).2.2.1 = some (ty k)) (hlk : Cond.classLink own index C ∈ gl) (hinst : Cond.instantiable C N ∈ gl) (hini : Cond.initialized C ∈ gl) (hc : vwCl[ci]? = some (C, T, N)) (hfs : ∀ j, j < N → defaultValue (ty j) = vp_V fs j) (hcs : cells + 1 ≤ R.cells ∧ slots + N ≤ R.slots) (hdg : decode cc pc = .ok (.new index, 3))
    (kk : ∀ (q : Nat) (H1 : Heap), s_W A H0 D (ws ++ [(q, .inr (ci, fs))]) H1 locs → W p l e R s m args below meth c H1 locs (cells + 1) (slots + N) Q (F0 m (pc + 3) ls (.ref q :: rest))) : W p l e R s m args below meth c H locs cells slots Q (F0 m pc ls rest) := by
  obtain ⟨hx, hb, hml, hown, hts, hK⟩ := hC
  obtain ⟨hP, hD, hS, hA⟩ := hW
  exact va_new hx hb hts hin ty hty hown (hts _ hlk) (hts _ hinst) (hts _ hini) hK hP hD hS hA hc hfs hcs.1 hcs.2 hdg (fun q H1 hP hD hS => kk q H1 ⟨hP, hD, hS, hA⟩)
theorem s_putF (hC : g_C p s m args c cc nL own D y) (hin2 : meth.name = "<init>") {ws' : va_W} (hW : s_W A H0 D ws H locs) {T : u_T} {N ci k index a q0 : Nat} {fs : List Value} {v : Value} (ty0 : Nat → FieldType) (hin : ∀ w ∈ u_ws own T N, w ∈ gl) (hty : ∀ k, k < N → parseFieldDescriptor (T k).2.2.1 = some (ty0 k)) (hnm : ∀ a, a < N → ∀ b, b < N → a ≠ b → (T a).2.1 ≠ (T b).2.1) (he : ws[q0]? = some (a, .inr (ci, fs))) (hc : vwCl[ci]? = some (own, T, N)) (hk : k < N) (hlink : Cond.fieldLink own index (T k).1 (T k).2.1 (T k).2.2.1 ∈ gl) (hfin : (T k).2.2.2 = true) (hdecl : (T k).1 = own) (hn : narrow (ty0 k) v = v) (hfit : fits (ty0 k) v = true) (hl : k < fs.length) (hs : ws.set q0 (a, .inr (ci, fs.set k v)) = ws')
    (hdg : decode cc pc = .ok (.putfield index, 3)) (kk : ∀ (H1 : Heap) (locs1 : List Loc), s_W A H0 D ws' H1 locs1 → W p l e R s m args below meth c H1 locs1 cells slots Q (F0 m (pc + 3) ls rest)) : W p l e R s m args below meth c H locs cells slots Q (F0 m pc ls (v :: .ref a :: rest)) := by
  subst hs
  obtain ⟨hx, hb, hml, hown, hts, hK⟩ := hC
  obtain ⟨hP, hD, hS, hA⟩ := hW
  exact va_putF hx hb hts hin ty0 hty hnm hown hK hP hD hS q0 he hc k hk (hts _ hlink) (fun _ h => h) hfin hin2 hdecl (hty k hk) hn hfit hl hdg (fun H1 locs1 hP hD hS => kk H1 locs1 ⟨hP, hD, hS, hA⟩)
theorem s_put (hC : g_C p s m args c cc nL own D y) {ws' : va_W} (hW : s_W A H0 D ws H locs) {T : u_T} {N ci k index a q0 : Nat} {fs : List Value} {v : Value} (ty0 : Nat → FieldType) (hin : ∀ w ∈ u_ws own T N, w ∈ gl) (hty : ∀ k, k < N → parseFieldDescriptor (T k).2.2.1 = some (ty0 k)) (hnm : ∀ a, a < N → ∀ b, b < N → a ≠ b → (T a).2.1 ≠ (T b).2.1) (he : ws[q0]? = some (a, .inr (ci, fs))) (hc : vwCl[ci]? = some (own, T, N)) (hk : k < N) (hlink : Cond.fieldLink own index (T k).1 (T k).2.1 (T k).2.2.1 ∈ gl) (hfin : (T k).2.2.2 = false) (hn : narrow (ty0 k) v = v) (hfit : fits (ty0 k) v = true) (hl : k < fs.length) (hs : ws.set q0 (a, .inr (ci, fs.set k v)) = ws')
    (hdg : decode cc pc = .ok (.putfield index, 3)) (kk : ∀ (H1 : Heap) (locs1 : List Loc), s_W A H0 D ws' H1 locs1 → W p l e R s m args below meth c H1 locs1 cells slots Q (F0 m (pc + 3) ls rest)) : W p l e R s m args below meth c H locs cells slots Q (F0 m pc ls (v :: .ref a :: rest)) := by
  subst hs
  obtain ⟨hx, hb, hml, hown, hts, hK⟩ := hC
  obtain ⟨hP, hD, hS, hA⟩ := hW
  exact va_put hx hb hts hin ty0 hty hnm hown hK hP hD hS q0 he hc k hk (hts _ hlink) (fun _ h => h) hfin (hty k hk) hn hfit hl hdg (fun H1 locs1 hP hD hS => kk H1 locs1 ⟨hP, hD, hS, hA⟩)
theorem s_get (hC : g_C p s m args c cc nL own D y) (hW : s_W A H0 D ws H locs) {T : u_T} {N ci k index a q0 : Nat} {fs : List Value} {v : Value} (hin : ∀ w ∈ u_ws own T N, w ∈ gl) (he : ws[q0]? = some (a, .inr (ci, fs))) (hc : vwCl[ci]? = some (own, T, N)) (hk : k < N) (hlink : Cond.fieldLink own index (T k).1 (T k).2.1 (T k).2.2.1 ∈ gl) (hv : fs[k]? = some v)
    (hdg : decode cc pc = .ok (.getfield index, 3)) (kk : W p l e R s m args below meth c H locs cells slots Q (F0 m (pc + 3) ls (v :: rest))) : W p l e R s m args below meth c H locs cells slots Q (F0 m pc ls (.ref a :: rest)) := by
  obtain ⟨hx, hb, hml, hown, hts, hK⟩ := hC
  exact va_get hx hb hts hin hown hK hW.1 q0 he hc k hk (hts _ hlink) (fun _ h => h) hv hdg kk
theorem s_obj (hC : g_C p s m args c cc nL own D y) (hls : ls.size = nL) {index a : Nat} (h1 : Cond.methodLink own index objectInit ∈ gl) (h2 : Cond.instanceMethod objectInit ∈ gl) (h3 : Cond.code objectInit ⟨#[0xb1]⟩ 1 none ∈ gl) (hR : 1 ≤ R.frames ∧ (rest.map fun v => v.category).sum + 12 ≤ R.locals) (hdg : decode cc pc = .ok (.invokespecial index, 3))
    (kk : W p l e R s m args below meth c H locs cells slots Q (F0 m (pc + 3) ls rest)) : W p l e R s m args below meth c H locs cells slots Q (F0 m pc ls (.ref a :: rest)) := by
  obtain ⟨hx, hb, hml, hown, hts, hK⟩ := hC
  refine W.objInit (a := a) (rest := rest) hx hb hown (hts _ h1) (hts _ h2) (hts _ h3) rfl (by rw [hml]; exact hls) rfl hdg hR.1 (by have := hR.2; simpa using this) ?_
  exact W.eq (g2 := F0 m (pc + 3) ls rest) rfl kk
def g_okI (own : String) (index : Nat) (yM : MethodName) (bytes : ByteArray) (maxL : Nat) : Prop :=
  Cond.code yM bytes maxL none ∈ gl ∧ Cond.methodLink own index yM ∈ gl ∧ Cond.instanceMethod yM ∈ gl ∧ Cond.initialized yM.cls ∈ gl ∧ yM.name = "<init>" ∧ (yM.cls ≠ "java/lang/invoke/MethodHandle" ∧ yM.cls ≠ "java/lang/invoke/VarHandle" ∧ (parseMethodDescriptor yM.desc).map (fun d => d.parameters.length) = some 0)
theorem g_goodI {yM : MethodName} {bytes : ByteArray} {maxL : Nat} (h : Cond.code yM bytes maxL none ∈ gl) : GoodIn gl (Cond.code yM bytes maxL none :: gl) := by
  refine g_gin (fun w hw => ?_)
  rcases List.mem_cons.mp hw with rfl | h2
  · exact h
  · exact h2
/-- a constructor's call on the cell that was made last -/
theorem s_callI (hC : g_C p s m args c cc nL own D y) (hO : va_AO RX0 s) {q : Nat} {ee : va_E} (hW : s_W A H0 D (ws ++ [(q, ee)]) H locs) {S : Type} {wf : S → va_W} {index maxL mc ms : Nat} {yM : MethodName} {bytes : ByteArray} {rm : Room} (hM : Met l yM (Cond.code yM bytes maxL none :: gl) rm (s_Pc D y [(q, ee)] H.size [.ref q]) (s_Qv D wf [(q, ee)] H.size) mc ms (va_A [(q, ee)] H.size)) (ok : g_okI own index yM bytes maxL) (hrm : rm.cells = mc ∧ rm.slots = ms ∧ rm.frames + 1 ≤ R.frames ∧ 8 + (maxL + 11) + rm.locals ≤ R.locals) (hls : ls.size = nL) (hrest : (rest.map fun v => v.category).sum ≤ 8) (hdg : decode cc pc = .ok (.invokespecial index, 3)) (hcs : cells + mc ≤ R.cells ∧ slots + ms ≤ R.slots)
    (kk : ∀ (u : S) (H1 : Heap) (locs1 : List Loc), s_W A H0 D (ws ++ wf u) H1 locs1 → W p l e R s m args below meth c H1 locs1 (cells + mc) (slots + ms) Q (F0 m (pc + 3) ls rest)) : W p l e R s m args below meth c H locs cells slots Q (F0 m pc ls (.ref q :: rest)) := by
  obtain ⟨hx, hb, hml, hown, hts, hK⟩ := hC
  obtain ⟨hP, hD, hS, hA⟩ := hW
  have hl : (ws ++ [(q, ee)])[ws.length]? = some (q, ee) := by rw [List.getElem?_append_right (Nat.le_refl _), Nat.sub_self]; rfl
  have hP0 : va_P D vwCl [(q, ee)] H := fun k x hk => by
    have h1 := (List.getElem?_eq_some_iff.mp hk).1
    have h0 : k = 0 := by simp at h1; omega
    subst h0
    rw [← Option.some.inj hk]
    exact hP _ _ hl
  have hD0 : va_D (fun _ => True) [(q, ee)] := ⟨fun i j a b ha hb _ => by
    have h1 := (List.getElem?_eq_some_iff.mp ha).1
    have h2 := (List.getElem?_eq_some_iff.mp hb).1
    simp at h1 h2
    omega, fun _ _ _ => trivial⟩
  have hF : ∀ z, va_A [(q, ee)] H.size z → A z := by
    rintro z (⟨k, e2, h⟩ | h)
    · have h1 := (List.getElem?_eq_some_iff.mp h).1
      have h0 : k = 0 := by simp at h1; omega
      subst h0
      have h6 : q = z := congrArg Prod.fst (Option.some.inj h)
      rw [← h6]
      exact hD.2 _ _ hl
    · exact hA z (Nat.le_trans hS.1 h)
  refine va_callv (va_runI (As := []) (rest := rest) ⟨hx, hb, hml, hown, hts⟩ hM (cwI 0 hts (g_goodI ok.1) rfl hrm.1 hrm.2.1 (hts _ ok.2.2.2.1) (hts _ ok.2.1) (hts _ ok.2.2.1) ok.2.2.2.2.1 ok.2.2.2.2.2 ⟨hrm.2.2.1, hrm.2.2.2⟩) ⟨s_blind, fun U hU hW => ⟨rfl, by rw [hU], by rw [hU]; exact hP0, va_K.moved hW.alike hK, hD0, va_AO.moved hW.alike hO⟩⟩ rfl rfl hls rfl (lv_room hrest) hdg hcs) hS (fun z _ h => hF z h) hF (fun u t H1 locs1 ht hvm hw hB hz hk hS => ?_)
  obtain ⟨hP1, hD1⟩ := hB
  rw [ht] at hP1
  obtain ⟨hP2, hD2⟩ := s_join hP hD hF hk hP1 hD1
  exact kk u H1 locs1 ⟨hP2, hD2, hS, hA⟩
theorem s_vret {S : Type} {wf : S → va_W} {w0 : va_W} {sz mc ms : Nat} (u : S) (hC : g_C p s m args c cc nL own D y) (hr : meth.sig.returnType = none) (hlk : meth.locks = false) (hsz : s.heap.size = sz) (hW : s_W (va_A w0 sz) s.heap D (wf u) H locs) (hdg : decode cc pc = .ok (.return_, 1)) :
    W p l e R s m args below meth c H locs mc ms (MQ below (s_Qv D wf w0 sz) args s mc ms (va_A w0 sz)) (F0 m pc ls []) := by
  obtain ⟨hx, hb, -⟩ := hC
  obtain ⟨hP, hD, hS, hA⟩ := hW
  exact W.vret hx hb hr (fun t ht hW => ⟨⟨u, rfl, trivial, by rw [ht]; exact hP, hD⟩, hS.F ht⟩) hS.2.2 hdg hlk
end SR
theorem s_start {l : Launch} {yM : MethodName} {cc : ByteArray} {maxL : Nat} {ret : Option FieldType} {rm : Room} {D : va_G} {y : ClassId × ClassId × ClassId} {ws : va_W} {sz mc ms : Nat} {av : List Value} {Qc : Array Value → State → Outcome → State → Prop} (hy : plainName yM.cls = true) (hlen : (lg_sl av).length ≤ maxL)
    (body : ∀ (p : Program) (e : Env) (s : State) (m : MethodId) (below : List Frame) (meth : Method) (c : Code) (ls : Array Slot), g_C p s m av.toArray c cc maxL yM.cls D y → meth.sig.returnType = ret → meth.locks = false → meth.name = yM.name → va_AO RX0 s → s.heap.size = sz → s_W (va_A ws sz) s.heap D ws s.heap [] → lv_has ls maxL (lv_args 0 av) →
      W p l e rm s m av.toArray below meth c s.heap [] 0 0 (MQ below Qc av.toArray s mc ms (va_A ws sz)) (F0 m 0 ls [])) : Met l yM (Cond.code yM cc maxL ret :: gl) rm (s_Pc D y ws sz av) Qc mc ms (va_A ws sz) := by
  refine Met.ofW (cc := cc) (maxL := maxL) (ret := ret) hy rfl ?_
  intro p e s m args below meth c s₁ B hml hv
  obtain ⟨rfl, hsz, hP, hK, hD0, hO⟩ := hv
  have hx := B.exec
  have hb := B.bytes
  have hr := B.returns
  have hts := atoms_spec (ws := Cond.code yM cc maxL ret :: gl) B.pre
  have hown : s.vm.findClass yM.cls = some m.cls := findClass_of_methodNamed B.named
  have hlocks := B.notSynchronized
  have hl := lv_entry av (n := maxL) hlen
  have hnm : meth.name = yM.name := (name_of_methodNamed B.named B.method).1
  rw [lg_entry_eq]
  exact body p e s m below meth c _ ⟨hx, hb, hml, hown, fun w h => hts w (List.mem_cons_of_mem _ h), hK⟩ hr hlocks hnm hO hsz ⟨hP, hD0.self, va_S.rf, fun q h => Or.inr (by rw [← hsz]; exact h)⟩ hl
theorem ac_int : Cond.arrayClass .int ∈ gl := gl_1 (i := 109) (by decide +kernel) rfl
theorem ac_char : Cond.arrayClass .char ∈ gl := gl_1 (i := 159) (by decide +kernel) rfl
theorem oi_i : Cond.instanceMethod objectInit ∈ gl := gl_1 (i := 33) (by decide +kernel) rfl
theorem oi_c : Cond.code objectInit ⟨#[0xb1]⟩ 1 none ∈ gl := gl_1 (i := 34) (by decide +kernel) rfl
theorem it_X0 : Cond.instantiable RX0 16 ∈ gl := gl_1 (i := 36) (by decide +kernel) rfl
theorem ol_X0 : Cond.methodLink RX0 3 objectInit ∈ gl := gl_1 (i := 40) (by decide +kernel) rfl
theorem it_X1 : Cond.instantiable RX1 7 ∈ gl := gl_1 (i := 167) (by decide +kernel) rfl
theorem ol_X1 : Cond.methodLink RX1 3 objectInit ∈ gl := gl_1 (i := 171) (by decide +kernel) rfl
theorem it_X2 : Cond.instantiable RX2 4 ∈ gl := gl_1 (i := 218) (by decide +kernel) rfl
theorem ol_X2 : Cond.methodLink RX2 3 objectInit ∈ gl := gl_1 (i := 222) (by decide +kernel) rfl
theorem it_X3 : Cond.instantiable RX3 5 ∈ gl := gl_1 (i := 161) (by decide +kernel) rfl
theorem ol_X3 : Cond.methodLink RX3 3 objectInit ∈ gl := gl_1 (i := 165) (by decide +kernel) rfl
theorem it_X4 : Cond.instantiable RX4 3 ∈ gl := gl_1 (i := 111) (by decide +kernel) rfl
theorem ol_X4 : Cond.methodLink RX4 3 objectInit ∈ gl := gl_1 (i := 115) (by decide +kernel) rfl
theorem it_X5 : Cond.instantiable RX5 6 ∈ gl := gl_1 (i := 131) (by decide +kernel) rfl
theorem ol_X5 : Cond.methodLink RX5 3 objectInit ∈ gl := gl_1 (i := 135) (by decide +kernel) rfl
theorem it_X6 : Cond.instantiable RX6 11 ∈ gl := gl_1 (i := 28) (by decide +kernel) rfl
theorem ol_X6 : Cond.methodLink RX6 3 objectInit ∈ gl := gl_1 (i := 32) (by decide +kernel) rfl
theorem it_X7 : Cond.instantiable RX7 19 ∈ gl := gl_5 (i := 174) (by decide +kernel) rfl
theorem ol_X7 : Cond.methodLink RX7 3 objectInit ∈ gl := gl_5 (i := 178) (by decide +kernel) rfl
theorem cl_X2_9 : Cond.classLink RX2 9 RX1 ∈ gl := gl_1 (i := 223) (by decide +kernel) rfl
theorem cl_X3_9 : Cond.classLink RX3 9 RX1 ∈ gl := gl_1 (i := 166) (by decide +kernel) rfl
theorem cl_X4_9 : Cond.classLink RX4 9 RX0 ∈ gl := gl_1 (i := 116) (by decide +kernel) rfl
theorem cl_X6_9 : Cond.classLink RX6 9 RX0 ∈ gl := gl_1 (i := 35) (by decide +kernel) rfl
theorem cl_X6_22 : Cond.classLink RX6 22 RX4 ∈ gl := gl_1 (i := 110) (by decide +kernel) rfl
theorem cl_X6_29 : Cond.classLink RX6 29 RX5 ∈ gl := gl_1 (i := 130) (by decide +kernel) rfl
theorem cl_X6_36 : Cond.classLink RX6 36 RX3 ∈ gl := gl_1 (i := 160) (by decide +kernel) rfl
theorem cl_X6_43 : Cond.classLink RX6 43 RX2 ∈ gl := gl_1 (i := 217) (by decide +kernel) rfl
theorem okI_X6_11 : g_okI RX6 11 yX0_init cX0_init 1 := ⟨mc_X0_init, ml_X6_11, mi_X0_init, ii_X0, rfl, by decide +kernel⟩
theorem okI_X6_24 : g_okI RX6 24 yX4_init cX4_init 2 := ⟨mc_X4_init, ml_X6_24, mi_X4_init, ii_X4, rfl, by decide +kernel⟩
theorem okI_X6_31 : g_okI RX6 31 yX5_init cX5_init 1 := ⟨mc_X5_init, ml_X6_31, mi_X5_init, ii_X5, rfl, by decide +kernel⟩
theorem okI_X6_38 : g_okI RX6 38 yX3_init cX3_init 1 := ⟨mc_X3_init, ml_X6_38, mi_X3_init, ii_X3, rfl, by decide +kernel⟩
theorem okI_X6_45 : g_okI RX6 45 yX2_init cX2_init 1 := ⟨mc_X2_init, ml_X6_45, mi_X2_init, ii_X2, rfl, by decide +kernel⟩
theorem okI_X2_11 : g_okI RX2 11 yX1_init cX1_init 1 := ⟨mc_X1_init, ml_X2_11, mi_X1_init, ii_X1, rfl, by decide +kernel⟩
theorem okI_X3_11 : g_okI RX3 11 yX1_init cX1_init 1 := ⟨mc_X1_init, ml_X3_11, mi_X1_init, ii_X1, rfl, by decide +kernel⟩
theorem okI_X4_17 : g_okI RX4 17 yX0_init cX0_init 1 := ⟨mc_X0_init, ml_X4_17, mi_X0_init, ii_X0, rfl, by decide +kernel⟩
theorem okI_L_123 : g_okI RL 123 yX6_init cX6_init 1 := ⟨mc_X6_init, ml_L_123, mi_X6_init, ii_X6, rfl, by decide +kernel⟩
theorem okI_L_126 : g_okI RL 126 yX7_init cX7_init 1 := ⟨mc_X7_init, ml_L_126, mi_X7_init, ii_X7, rfl, by decide +kernel⟩
