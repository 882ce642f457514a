/-! ===== floats: the guard, the ends ===== -/
def n32 (r : UInt32) : Bool := decide (r &&& 0x7fffffff ≤ 0x7f800000)
theorem n32_v {r : UInt32} (h : n32 r = true) : vf_n32 r := by
  unfold n32 at h
  have h2 : r &&& 0x7fffffff ≤ 0x7f800000 := by simpa using h
  exact h2
def g_Qf (D : va_G) (y : ClassId × ClassId × ClassId) (ad : Nat → Nat) (σ : gS) (sz : Nat) (r : UInt32) : Array Value → State → Outcome → State → Prop := va_Qf (fun (r1 : UInt32) (_ : Unit) => r1 = r) (fun _ t => va_P D vwCl (g_wl y ad σ) t.heap) (g_A ad sz)
def g_QXf (D : va_G) (y : ClassId × ClassId × ClassId) (ad : Nat → Nat) (sz : Nat) (q : (String ⊕ UInt32) × gS) : Array Value → State → Outcome → State → Prop := va_Qf (fun (r1 : UInt32) (_ : Unit) => q.1 = .inr r1) (fun _ t => va_P D vwCl (g_wl y ad q.2) t.heap) (g_A ad sz)
section GF
variable {p : Program} {l : Launch} {e : Env} {R : Room} {s : State} {m : MethodId} {args : Array Value} {below : List Frame} {meth : Method} {c : Code} {H : Heap} {locs : List Loc} {cells slots : Nat} {Q : State → Prop}
variable {cc : ByteArray} {pc nL : Nat} {ls : Array Slot} {rest : List Value} {own : String} {D : va_G} {y : ClassId × ClassId × ClassId} {A : Nat → Prop} {H0 : Heap} {ad : Nat → Nat} {X : va_W} {σ : gS} {sz : Nat}
theorem g_fret {r : UInt32} (hC : g_C p s m args c cc nL own D y) (hr : meth.sig.returnType = some .float) (hlk : meth.locks = false) (hsz : s.heap.size = sz) (hW : g_W (g_A ad sz) s.heap D y ad [] σ H locs) (hdg : decode cc pc = .ok (.freturn, 1)) :
    W p l e R s m args below meth c H locs 0 0 (MQ below (g_Qf D y ad σ sz r) args s 0 0 (g_A ad sz)) (F0 m pc ls [.float r]) := by
  obtain ⟨hx, hb, -⟩ := hC
  obtain ⟨hP, hD, hS, hA⟩ := hW
  rw [List.append_nil] at hP
  exact W.fret hx hb hr (fun t ht hW => ⟨⟨r, (), rfl, rfl, by show va_P D vwCl (g_wl y ad σ) t.heap; rw [ht]; exact hP⟩, hS.F ht⟩) hS.2.2 hdg hlk
theorem g_fretX {r : UInt32} {q : (String ⊕ UInt32) × gS} (hq : (.inr r, σ) = q) (hC : g_C p s m args c cc nL own D y) (hr : meth.sig.returnType = some .float) (hlk : meth.locks = false) (hsz : s.heap.size = sz) (hW : g_W (g_A ad sz) s.heap D y ad [] σ H locs) (hdg : decode cc pc = .ok (.freturn, 1)) :
    W p l e R s m args below meth c H locs 0 0 (vx_MQ below (g_QXf D y ad sz q) (g_XX D y ad sz q) args s 1 6 (g_A ad sz)) (F0 m pc ls [.float r]) := by
  subst hq
  obtain ⟨hx, hb, -⟩ := hC
  obtain ⟨hP, hD, hS, hA⟩ := hW
  rw [List.append_nil] at hP
  exact W.widen (k := 1) (n := 6) (by omega) (by omega) (vx_ret (W.fret hx hb hr (fun t ht hW => ⟨⟨r, (), rfl, rfl, by show va_P D vwCl (g_wl y ad σ) t.heap; rw [ht]; exact hP⟩, hS.F ht⟩) hS.2.2 hdg hlk))
end GF
