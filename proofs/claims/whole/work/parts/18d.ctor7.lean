/-! ===== the model's constructor ===== -/
theorem s_cget {C Y : va_W} {n j k : Nat} (hC : C.length = n) (hk : k = n + j) : (C ++ Y)[k]? = Y[j]? := by
  subst hk; rw [List.getElem?_append_right (by omega), hC, Nat.add_sub_cancel_left]
theorem s_cset {C Y Y' : va_W} {n k j : Nat} {x : Nat × va_E} (hC : C.length = n) (hk : k = n + j) (hY : Y.set j x = Y') : (C ++ Y).set k x = C ++ Y' := by
  subst hk; rw [List.set_append, if_neg (by omega), hC, Nat.add_sub_cancel_left, hY]
theorem s_assoc {A : Nat → Prop} {H0 H : Heap} {D : va_G} {C Y Z W' : va_W} {locs : List Loc} (hY : Y ++ Z = W') (h : s_W A H0 D ((C ++ Y) ++ Z) H locs) : s_W A H0 D (C ++ W') H locs := by
  rw [List.append_assoc, hY] at h; exact h
/-- references of the class's cells stay among them -/
theorem g_refs : ∀ k, k < 132 → (match g_sh k with | .inl (_, fl) => fl.all (fun o => match o with | none => true | some r => decide (r < 132)) | .inr _ => true) = true := by decide +kernel
theorem g_fv_ad {ad ad' : Nat → Nat} {f : Nat → Int32} : ∀ (l : List (Option Nat)) (b : Nat), l.all (fun o => match o with | none => true | some r => decide (r < 132)) = true → (∀ i, i < 132 → ad i = ad' i) → g_fv ad f b l = g_fv ad' f b l
  | [], b, h, ha => rfl
  | none :: t, b, h, ha => by
    rw [g_fv, g_fv, g_fv_ad t (b + 1) (by simpa using h) ha]
  | some r :: t, b, h, ha => by
    have h2 : decide (r < 132) = true ∧ t.all (fun o => match o with | none => true | some r => decide (r < 132)) = true := by simpa using h
    rw [g_fv, g_fv, g_fv_ad t (b + 1) h2.2 ha, ha r (of_decide_eq_true h2.1)]
theorem g_ce_ad {D : va_G} {H : Heap} {y : ClassId × ClassId × ClassId} {ad ad' : Nat → Nat} {σ σ' : gS} {k : Nat} (hk : k < 132) (ha : ∀ i, i < 132 → ad i = ad' i) (hs : σ k = σ' k) (q : Nat) (h : va_at D vwCl (q, g_ce y ad σ k) H) : va_at D vwCl (q, g_ce y ad' σ' k) H := by
  have hr := g_refs k hk
  by_cases h3 : k = 3
  · subst h3
    rw [g_ce_ref (show g_sh 3 = .inr (2, 6) from rfl)] at h ⊢
    exact s_cellq (fun j hj => congrArg some (ha _ (by omega))) h
  · cases hg : g_sh k with
    | inl o =>
      obtain ⟨ci, fl⟩ := o
      rw [hg] at hr
      rw [g_ce_obj hg] at h ⊢
      rw [← hs, ← g_fv_ad (ad := ad) fl 0 hr ha]
      exact h
    | inr o =>
      obtain ⟨kk, n⟩ := o
      have h2 : kk ≠ 2 := by
        intro e
        subst e
        have : k = 3 := by
          have hx : ∀ k, k < 132 → (match g_sh k with | .inl _ => true | .inr (2, _) => decide (k = 3) | .inr _ => true) = true := by decide +kernel
          have hy := hx k hk
          rw [hg] at hy
          exact of_decide_eq_true hy
        exact h3 this
      unfold g_ce at h ⊢
      rw [hg] at h ⊢
      dsimp only at h ⊢
      rw [if_neg h2] at h ⊢
      rw [← hs]
      exact h
/-- what stands in the model's cells before begin() -/
def g_z1 (σ : gS) : gS := fun i j => if i < 132 then σ i j else if i = 132 then (if j = 15 then (-1) else 0) else 0
section SA
variable {p : Program} {l : Launch} {e : Env} {R : Room} {s : State} {m : MethodId} {args : Array Value} {below : List Frame} {meth : Method} {c : Code} {H : Heap} {locs : List Loc} {cells slots : Nat} {Q : State → Prop}
variable {cc : ByteArray} {pc nL : Nat} {ls : Array Slot} {rest : List Value} {own : String} {D : va_G} {y : ClassId × ClassId × ClassId} {A : Nat → Prop} {H0 : Heap} {ws : va_W}
/-- a constructor's call on the whole world -/
theorem s_callA (hC : g_C p s m args c cc nL own D y) (hO : va_AO RX0 s) {q : Nat} (hW : s_W A H0 D ws H locs) {S : Type} {wf : S → va_W} {index maxL mc ms : Nat} {yM : MethodName} {bytes : ByteArray} {rm : Room} (hM : Met l yM (Cond.code yM bytes maxL none :: gl) rm (s_Pc D y ws H.size [.ref q]) (s_Qv D wf ws H.size) mc ms (va_A ws H.size)) (ok : g_okI own index yM bytes maxL) (hrm : rm.cells = mc ∧ rm.slots = ms ∧ rm.frames + 1 ≤ R.frames ∧ 8 + (maxL + 11) + rm.locals ≤ R.locals) (hls : ls.size = nL) (hrest : (rest.map fun v => v.category).sum ≤ 8) (hdg : decode cc pc = .ok (.invokespecial index, 3)) (hcs : cells + mc ≤ R.cells ∧ slots + ms ≤ R.slots)
    (kk : ∀ (u : S) (H1 : Heap) (locs1 : List Loc), s_W A H0 D (wf u) H1 locs1 → W p l e R s m args below meth c H1 locs1 (cells + mc) (slots + ms) Q (F0 m (pc + 3) ls rest)) : W p l e R s m args below meth c H locs cells slots Q (F0 m pc ls (.ref q :: rest)) := by
  obtain ⟨hx, hb, hml, hown, hts, hK⟩ := hC
  obtain ⟨hP, hD, hS, hA⟩ := hW
  have hF : ∀ z, va_A ws H.size z → A z := by
    rintro z (⟨k, e2, h⟩ | h)
    · exact hD.2 k (z, e2) h
    · exact hA z (Nat.le_trans hS.1 h)
  refine va_callv (va_runI (As := []) (rest := rest) ⟨hx, hb, hml, hown, hts⟩ hM (cwI 0 hts (g_goodI ok.1) rfl hrm.1 hrm.2.1 (hts _ ok.2.2.2.1) (hts _ ok.2.1) (hts _ ok.2.2.1) ok.2.2.2.2.1 ok.2.2.2.2.2 ⟨hrm.2.2.1, hrm.2.2.2⟩) ⟨s_blind, fun U hU hW => ⟨rfl, by rw [hU], by rw [hU]; exact hP, va_K.moved hW.alike hK, hD.weaken (fun _ _ _ _ => trivial), va_AO.moved hW.alike hO⟩⟩ rfl rfl hls rfl (lv_room hrest) hdg hcs) hS (fun z _ h => hF z h) hF (fun u t H1 locs1 ht hvm hw hB hz hk hS => ?_)
  obtain ⟨hP1, hD1⟩ := hB
  rw [ht] at hP1
  exact kk u H1 locs1 ⟨hP1, hD1.weaken (fun _ _ _ h => hF _ h), hS, hA⟩
end SA
def w_ad7 (ad : Nat → Nat) (h q0 q1 q2 q3 q4 q5 q6 q7 q8 q9 : Nat) : Nat → Nat := fun i => if i < 132 then ad i else [h, q0, q1, q2, q3, q4, q5, q6, q7, q8, q9].getD (i - 132) 0
def w_mod (y : ClassId × ClassId × ClassId) (h q0 q1 q2 q3 q4 q5 q6 q7 q8 q9 : Nat) : va_W := [(h, .inr (9, [.ref q0, .ref q1, .ref q2, .ref q3, .int 0, .ref q4, .int 0, .int 0, .int 0, .ref q5, .ref q6, .ref q7, .int 0, .int 0, .int 0, .int (-1), .ref q8, .ref q9, .int 0])), (q0, .inl (y.1, 162, .inl fun _ => 0)), (q1, .inl (y.1, 162, .inl fun _ => 0)), (q2, .inl (y.1, 162, .inl fun _ => 0)), (q3, .inl (y.1, 162, .inl fun _ => 0)), (q4, .inl (y.1, 972, .inl fun _ => 0)), (q5, .inl (y.1, 3, .inl fun _ => 0)), (q6, .inl (y.1, 3, .inl fun _ => 0)), (q7, .inl (y.2.1, 60, .inl fun _ => 0)), (q8, .inl (y.2.1, 60, .inl fun _ => 0)), (q9, .inl (y.1, 180, .inl fun _ => 0))]
set_option maxHeartbeats 4000000 in
set_option maxRecDepth 100000 in
theorem w_md0 {D : va_G} {H : Heap} {y : ClassId × ClassId × ClassId} {ad : Nat → Nat} {σ : gS} {h : Nat} {q0 q1 q2 q3 q4 q5 q6 q7 q8 q9 : Nat} : ∃ e, (w_mod y h q0 q1 q2 q3 q4 q5 q6 q7 q8 q9)[0]? = some ((w_ad7 ad h q0 q1 q2 q3 q4 q5 q6 q7 q8 q9) 132, e) ∧ (va_at D vwCl ((w_ad7 ad h q0 q1 q2 q3 q4 q5 q6 q7 q8 q9) 132, e) H → va_at D vwCl ((w_ad7 ad h q0 q1 q2 q3 q4 q5 q6 q7 q8 q9) 132, g_ce y (w_ad7 ad h q0 q1 q2 q3 q4 q5 q6 q7 q8 q9) (g_z1 σ) 132) H) := by
  refine ⟨_, rfl, fun h2 => ?_⟩
  rw [g_ce_obj (show g_sh 132 = _ from rfl)]
  exact h2
set_option maxHeartbeats 4000000 in
set_option maxRecDepth 100000 in
theorem w_md1 {D : va_G} {H : Heap} {y : ClassId × ClassId × ClassId} {ad : Nat → Nat} {σ : gS} {h : Nat} {q0 q1 q2 q3 q4 q5 q6 q7 q8 q9 : Nat} : ∃ e, (w_mod y h q0 q1 q2 q3 q4 q5 q6 q7 q8 q9)[1]? = some ((w_ad7 ad h q0 q1 q2 q3 q4 q5 q6 q7 q8 q9) 133, e) ∧ (va_at D vwCl ((w_ad7 ad h q0 q1 q2 q3 q4 q5 q6 q7 q8 q9) 133, e) H → va_at D vwCl ((w_ad7 ad h q0 q1 q2 q3 q4 q5 q6 q7 q8 q9) 133, g_ce y (w_ad7 ad h q0 q1 q2 q3 q4 q5 q6 q7 q8 q9) (g_z1 σ) 133) H) := by
  refine ⟨_, rfl, fun h2 => ?_⟩
  rw [g_ce_int (show g_sh 133 = _ from rfl), show g_z1 σ 133 = fun _ => 0 from rfl]
  exact h2
set_option maxHeartbeats 4000000 in
set_option maxRecDepth 100000 in
theorem w_md2 {D : va_G} {H : Heap} {y : ClassId × ClassId × ClassId} {ad : Nat → Nat} {σ : gS} {h : Nat} {q0 q1 q2 q3 q4 q5 q6 q7 q8 q9 : Nat} : ∃ e, (w_mod y h q0 q1 q2 q3 q4 q5 q6 q7 q8 q9)[2]? = some ((w_ad7 ad h q0 q1 q2 q3 q4 q5 q6 q7 q8 q9) 134, e) ∧ (va_at D vwCl ((w_ad7 ad h q0 q1 q2 q3 q4 q5 q6 q7 q8 q9) 134, e) H → va_at D vwCl ((w_ad7 ad h q0 q1 q2 q3 q4 q5 q6 q7 q8 q9) 134, g_ce y (w_ad7 ad h q0 q1 q2 q3 q4 q5 q6 q7 q8 q9) (g_z1 σ) 134) H) := by
  refine ⟨_, rfl, fun h2 => ?_⟩
  rw [g_ce_int (show g_sh 134 = _ from rfl), show g_z1 σ 134 = fun _ => 0 from rfl]
  exact h2
set_option maxHeartbeats 4000000 in
set_option maxRecDepth 100000 in
theorem w_md3 {D : va_G} {H : Heap} {y : ClassId × ClassId × ClassId} {ad : Nat → Nat} {σ : gS} {h : Nat} {q0 q1 q2 q3 q4 q5 q6 q7 q8 q9 : Nat} : ∃ e, (w_mod y h q0 q1 q2 q3 q4 q5 q6 q7 q8 q9)[3]? = some ((w_ad7 ad h q0 q1 q2 q3 q4 q5 q6 q7 q8 q9) 135, e) ∧ (va_at D vwCl ((w_ad7 ad h q0 q1 q2 q3 q4 q5 q6 q7 q8 q9) 135, e) H → va_at D vwCl ((w_ad7 ad h q0 q1 q2 q3 q4 q5 q6 q7 q8 q9) 135, g_ce y (w_ad7 ad h q0 q1 q2 q3 q4 q5 q6 q7 q8 q9) (g_z1 σ) 135) H) := by
  refine ⟨_, rfl, fun h2 => ?_⟩
  rw [g_ce_int (show g_sh 135 = _ from rfl), show g_z1 σ 135 = fun _ => 0 from rfl]
  exact h2
set_option maxHeartbeats 4000000 in
set_option maxRecDepth 100000 in
theorem w_md4 {D : va_G} {H : Heap} {y : ClassId × ClassId × ClassId} {ad : Nat → Nat} {σ : gS} {h : Nat} {q0 q1 q2 q3 q4 q5 q6 q7 q8 q9 : Nat} : ∃ e, (w_mod y h q0 q1 q2 q3 q4 q5 q6 q7 q8 q9)[4]? = some ((w_ad7 ad h q0 q1 q2 q3 q4 q5 q6 q7 q8 q9) 136, e) ∧ (va_at D vwCl ((w_ad7 ad h q0 q1 q2 q3 q4 q5 q6 q7 q8 q9) 136, e) H → va_at D vwCl ((w_ad7 ad h q0 q1 q2 q3 q4 q5 q6 q7 q8 q9) 136, g_ce y (w_ad7 ad h q0 q1 q2 q3 q4 q5 q6 q7 q8 q9) (g_z1 σ) 136) H) := by
  refine ⟨_, rfl, fun h2 => ?_⟩
  rw [g_ce_int (show g_sh 136 = _ from rfl), show g_z1 σ 136 = fun _ => 0 from rfl]
  exact h2
set_option maxHeartbeats 4000000 in
set_option maxRecDepth 100000 in
theorem w_md5 {D : va_G} {H : Heap} {y : ClassId × ClassId × ClassId} {ad : Nat → Nat} {σ : gS} {h : Nat} {q0 q1 q2 q3 q4 q5 q6 q7 q8 q9 : Nat} : ∃ e, (w_mod y h q0 q1 q2 q3 q4 q5 q6 q7 q8 q9)[5]? = some ((w_ad7 ad h q0 q1 q2 q3 q4 q5 q6 q7 q8 q9) 137, e) ∧ (va_at D vwCl ((w_ad7 ad h q0 q1 q2 q3 q4 q5 q6 q7 q8 q9) 137, e) H → va_at D vwCl ((w_ad7 ad h q0 q1 q2 q3 q4 q5 q6 q7 q8 q9) 137, g_ce y (w_ad7 ad h q0 q1 q2 q3 q4 q5 q6 q7 q8 q9) (g_z1 σ) 137) H) := by
  refine ⟨_, rfl, fun h2 => ?_⟩
  rw [g_ce_int (show g_sh 137 = _ from rfl), show g_z1 σ 137 = fun _ => 0 from rfl]
  exact h2
set_option maxHeartbeats 4000000 in
set_option maxRecDepth 100000 in
theorem w_md6 {D : va_G} {H : Heap} {y : ClassId × ClassId × ClassId} {ad : Nat → Nat} {σ : gS} {h : Nat} {q0 q1 q2 q3 q4 q5 q6 q7 q8 q9 : Nat} : ∃ e, (w_mod y h q0 q1 q2 q3 q4 q5 q6 q7 q8 q9)[6]? = some ((w_ad7 ad h q0 q1 q2 q3 q4 q5 q6 q7 q8 q9) 138, e) ∧ (va_at D vwCl ((w_ad7 ad h q0 q1 q2 q3 q4 q5 q6 q7 q8 q9) 138, e) H → va_at D vwCl ((w_ad7 ad h q0 q1 q2 q3 q4 q5 q6 q7 q8 q9) 138, g_ce y (w_ad7 ad h q0 q1 q2 q3 q4 q5 q6 q7 q8 q9) (g_z1 σ) 138) H) := by
  refine ⟨_, rfl, fun h2 => ?_⟩
  rw [g_ce_int (show g_sh 138 = _ from rfl), show g_z1 σ 138 = fun _ => 0 from rfl]
  exact h2
set_option maxHeartbeats 4000000 in
set_option maxRecDepth 100000 in
theorem w_md7 {D : va_G} {H : Heap} {y : ClassId × ClassId × ClassId} {ad : Nat → Nat} {σ : gS} {h : Nat} {q0 q1 q2 q3 q4 q5 q6 q7 q8 q9 : Nat} : ∃ e, (w_mod y h q0 q1 q2 q3 q4 q5 q6 q7 q8 q9)[7]? = some ((w_ad7 ad h q0 q1 q2 q3 q4 q5 q6 q7 q8 q9) 139, e) ∧ (va_at D vwCl ((w_ad7 ad h q0 q1 q2 q3 q4 q5 q6 q7 q8 q9) 139, e) H → va_at D vwCl ((w_ad7 ad h q0 q1 q2 q3 q4 q5 q6 q7 q8 q9) 139, g_ce y (w_ad7 ad h q0 q1 q2 q3 q4 q5 q6 q7 q8 q9) (g_z1 σ) 139) H) := by
  refine ⟨_, rfl, fun h2 => ?_⟩
  rw [g_ce_int (show g_sh 139 = _ from rfl), show g_z1 σ 139 = fun _ => 0 from rfl]
  exact h2
set_option maxHeartbeats 4000000 in
set_option maxRecDepth 100000 in
theorem w_md8 {D : va_G} {H : Heap} {y : ClassId × ClassId × ClassId} {ad : Nat → Nat} {σ : gS} {h : Nat} {q0 q1 q2 q3 q4 q5 q6 q7 q8 q9 : Nat} : ∃ e, (w_mod y h q0 q1 q2 q3 q4 q5 q6 q7 q8 q9)[8]? = some ((w_ad7 ad h q0 q1 q2 q3 q4 q5 q6 q7 q8 q9) 140, e) ∧ (va_at D vwCl ((w_ad7 ad h q0 q1 q2 q3 q4 q5 q6 q7 q8 q9) 140, e) H → va_at D vwCl ((w_ad7 ad h q0 q1 q2 q3 q4 q5 q6 q7 q8 q9) 140, g_ce y (w_ad7 ad h q0 q1 q2 q3 q4 q5 q6 q7 q8 q9) (g_z1 σ) 140) H) := by
  refine ⟨_, rfl, fun h2 => ?_⟩
  rw [g_ce_chr (show g_sh 140 = _ from rfl), show g_z1 σ 140 = fun _ => 0 from rfl]
  exact h2
set_option maxHeartbeats 4000000 in
set_option maxRecDepth 100000 in
theorem w_md9 {D : va_G} {H : Heap} {y : ClassId × ClassId × ClassId} {ad : Nat → Nat} {σ : gS} {h : Nat} {q0 q1 q2 q3 q4 q5 q6 q7 q8 q9 : Nat} : ∃ e, (w_mod y h q0 q1 q2 q3 q4 q5 q6 q7 q8 q9)[9]? = some ((w_ad7 ad h q0 q1 q2 q3 q4 q5 q6 q7 q8 q9) 141, e) ∧ (va_at D vwCl ((w_ad7 ad h q0 q1 q2 q3 q4 q5 q6 q7 q8 q9) 141, e) H → va_at D vwCl ((w_ad7 ad h q0 q1 q2 q3 q4 q5 q6 q7 q8 q9) 141, g_ce y (w_ad7 ad h q0 q1 q2 q3 q4 q5 q6 q7 q8 q9) (g_z1 σ) 141) H) := by
  refine ⟨_, rfl, fun h2 => ?_⟩
  rw [g_ce_chr (show g_sh 141 = _ from rfl), show g_z1 σ 141 = fun _ => 0 from rfl]
  exact h2
set_option maxHeartbeats 4000000 in
set_option maxRecDepth 100000 in
theorem w_md10 {D : va_G} {H : Heap} {y : ClassId × ClassId × ClassId} {ad : Nat → Nat} {σ : gS} {h : Nat} {q0 q1 q2 q3 q4 q5 q6 q7 q8 q9 : Nat} : ∃ e, (w_mod y h q0 q1 q2 q3 q4 q5 q6 q7 q8 q9)[10]? = some ((w_ad7 ad h q0 q1 q2 q3 q4 q5 q6 q7 q8 q9) 142, e) ∧ (va_at D vwCl ((w_ad7 ad h q0 q1 q2 q3 q4 q5 q6 q7 q8 q9) 142, e) H → va_at D vwCl ((w_ad7 ad h q0 q1 q2 q3 q4 q5 q6 q7 q8 q9) 142, g_ce y (w_ad7 ad h q0 q1 q2 q3 q4 q5 q6 q7 q8 q9) (g_z1 σ) 142) H) := by
  refine ⟨_, rfl, fun h2 => ?_⟩
  rw [g_ce_int (show g_sh 142 = _ from rfl), show g_z1 σ 142 = fun _ => 0 from rfl]
  exact h2
theorem w_md_k {D : va_G} {H : Heap} {y : ClassId × ClassId × ClassId} {ad : Nat → Nat} {σ : gS} {h : Nat} {q0 q1 q2 q3 q4 q5 q6 q7 q8 q9 : Nat} (k : Nat) (hk : k < 143) : ∃ e, (g_cw y ad σ 132 ++ w_mod y h q0 q1 q2 q3 q4 q5 q6 q7 q8 q9)[k]? = some ((w_ad7 ad h q0 q1 q2 q3 q4 q5 q6 q7 q8 q9) k, e) ∧ (va_at D vwCl ((w_ad7 ad h q0 q1 q2 q3 q4 q5 q6 q7 q8 q9) k, e) H → va_at D vwCl ((w_ad7 ad h q0 q1 q2 q3 q4 q5 q6 q7 q8 q9) k, g_ce y (w_ad7 ad h q0 q1 q2 q3 q4 q5 q6 q7 q8 q9) (g_z1 σ) k) H) := by
  have hlen := g_cw_len y ad σ 132
  by_cases h1 : k < 132
  · have e1 : (w_ad7 ad h q0 q1 q2 q3 q4 q5 q6 q7 q8 q9) k = ad k := if_pos h1
    refine ⟨g_ce y ad σ k, ?_, fun h2 => ?_⟩
    · rw [List.getElem?_append_left (by rw [hlen]; exact h1), g_cw_get y ad σ h1, e1]
    · refine g_ce_ad (ad := ad) (σ := σ) h1 (fun i hi => (if_pos hi).symm) ?_ _ h2
      funext j; show σ k j = if k < 132 then σ k j else _; rw [if_pos h1]
  · rcases (show k = 132 ∨ k = 133 ∨ k = 134 ∨ k = 135 ∨ k = 136 ∨ k = 137 ∨ k = 138 ∨ k = 139 ∨ k = 140 ∨ k = 141 ∨ k = 142 by omega) with rfl | rfl | rfl | rfl | rfl | rfl | rfl | rfl | rfl | rfl | rfl
    · rw [s_cget (j := 0) hlen rfl]; exact w_md0
    · rw [s_cget (j := 1) hlen rfl]; exact w_md1
    · rw [s_cget (j := 2) hlen rfl]; exact w_md2
    · rw [s_cget (j := 3) hlen rfl]; exact w_md3
    · rw [s_cget (j := 4) hlen rfl]; exact w_md4
    · rw [s_cget (j := 5) hlen rfl]; exact w_md5
    · rw [s_cget (j := 6) hlen rfl]; exact w_md6
    · rw [s_cget (j := 7) hlen rfl]; exact w_md7
    · rw [s_cget (j := 8) hlen rfl]; exact w_md8
    · rw [s_cget (j := 9) hlen rfl]; exact w_md9
    · rw [s_cget (j := 10) hlen rfl]; exact w_md10
set_option maxHeartbeats 4000000 in
set_option maxRecDepth 100000 in
theorem c_X7_init (l : Launch) (D : va_G) (y : ClassId × ClassId × ClassId) (ad : Nat → Nat) (σ : gS) (h : Nat) (sz : Nat) {σ3 : gS} (hb : X7_begin (g_z1 σ) = some σ3) : Met l yX7_init (Cond.code yX7_init cX7_init 1 none :: gl) ({ frames := 2, cells := 10, slots := 1926, locals := 43 }) (s_Pc D y (g_cw y ad σ 132 ++ [(h, .inr (9, [.null, .null, .null, .null, .int 0, .null, .int 0, .int 0, .int 0, .null, .null, .null, .int 0, .int 0, .int 0, .int 0, .null, .null, .int 0]))]) sz [.ref h]) (s_Qv D (fun a : {a : Nat → Nat // (∀ i, i < 132 → a i = ad i) ∧ a 132 = h} => g_wl y a.1 σ3) (g_cw y ad σ 132 ++ [(h, .inr (9, [.null, .null, .null, .null, .int 0, .null, .int 0, .int 0, .int 0, .null, .null, .null, .int 0, .int 0, .int 0, .int 0, .null, .null, .int 0]))]) sz) 10 1926 (va_A (g_cw y ad σ 132 ++ [(h, .inr (9, [.null, .null, .null, .null, .int 0, .null, .int 0, .int 0, .int 0, .null, .null, .null, .int 0, .int 0, .int 0, .int 0, .null, .null, .int 0]))]) sz) := by
  refine s_start (by decide) (Nat.le_of_ble_eq_true rfl) (fun p e s m below meth c ls hC hr hlk hnm hO hsz hW hl => ?_)
  have hx := hC.1
  have hcd := hC.2.1
  have hl : lv_has ls 1 [(0, .ref h)] := hl
  have hlen := g_cw_len y ad σ 132
  refine lv_aload_n hx hcd dX7_init_0 rfl (lv_at hl 0 rfl) ?_
  refine s_obj hC hl.1 ol_X7 oi_i oi_c ⟨Nat.le_of_ble_eq_true rfl, Nat.le_of_ble_eq_true rfl⟩ dX7_init_1 ?_
  refine lv_aload_n hx hcd dX7_init_4 rfl (lv_at hl 0 rfl) ?_
  refine lv_sipush (v := 162) hx hcd dX7_init_5 (by decide) ?_
  refine s_newi (N := 162) hC hW (by decide) (by decide) (Nat.le_of_ble_eq_true rfl) ac_int ⟨Nat.le_of_ble_eq_true rfl, Nat.le_of_ble_eq_true rfl⟩ dX7_init_8 (fun q0 H hW => ?_)
  replace hW := s_assoc (W' := [(h, .inr (9, [.null, .null, .null, .null, .int 0, .null, .int 0, .int 0, .int 0, .null, .null, .null, .int 0, .int 0, .int 0, .int 0, .null, .null, .int 0])), (q0, .inl (y.1, 162, .inl fun _ => 0))]) rfl hW
  refine s_putF (q0 := 132) (T := TX7) (N := 19) (ci := 9) (k := 0) (fs := [.null, .null, .null, .null, .int 0, .null, .int 0, .int 0, .int 0, .null, .null, .null, .int 0, .int 0, .int 0, .int 0, .null, .null, .int 0]) (ws' := g_cw y ad σ 132 ++ ([(h, .inr (9, [.ref q0, .null, .null, .null, .int 0, .null, .int 0, .int 0, .int 0, .null, .null, .null, .int 0, .int 0, .int 0, .int 0, .null, .null, .int 0])), (q0, .inl (y.1, 162, .inl fun _ => 0))])) hC hnm hW tyX7 inGX7 tyX7_ok nmX7 ((s_cget (j := 0) hlen rfl).trans rfl) rfl (by decide) fl_X7_9 rfl rfl rfl rfl (Nat.le_of_ble_eq_true rfl) (s_cset (j := 0) hlen rfl rfl) dX7_init_10 (fun H locs hW => ?_)
  refine lv_aload_n hx hcd dX7_init_13 rfl (lv_at hl 0 rfl) ?_
  refine lv_sipush (v := 162) hx hcd dX7_init_14 (by decide) ?_
  refine s_newi (N := 162) hC hW (by decide) (by decide) (Nat.le_of_ble_eq_true rfl) ac_int ⟨Nat.le_of_ble_eq_true rfl, Nat.le_of_ble_eq_true rfl⟩ dX7_init_17 (fun q1 H hW => ?_)
  replace hW := s_assoc (W' := [(h, .inr (9, [.ref q0, .null, .null, .null, .int 0, .null, .int 0, .int 0, .int 0, .null, .null, .null, .int 0, .int 0, .int 0, .int 0, .null, .null, .int 0])), (q0, .inl (y.1, 162, .inl fun _ => 0)), (q1, .inl (y.1, 162, .inl fun _ => 0))]) rfl hW
  refine s_putF (q0 := 132) (T := TX7) (N := 19) (ci := 9) (k := 1) (fs := [.ref q0, .null, .null, .null, .int 0, .null, .int 0, .int 0, .int 0, .null, .null, .null, .int 0, .int 0, .int 0, .int 0, .null, .null, .int 0]) (ws' := g_cw y ad σ 132 ++ ([(h, .inr (9, [.ref q0, .ref q1, .null, .null, .int 0, .null, .int 0, .int 0, .int 0, .null, .null, .null, .int 0, .int 0, .int 0, .int 0, .null, .null, .int 0])), (q0, .inl (y.1, 162, .inl fun _ => 0)), (q1, .inl (y.1, 162, .inl fun _ => 0))])) hC hnm hW tyX7 inGX7 tyX7_ok nmX7 ((s_cget (j := 0) hlen rfl).trans rfl) rfl (by decide) fl_X7_13 rfl rfl rfl rfl (Nat.le_of_ble_eq_true rfl) (s_cset (j := 0) hlen rfl rfl) dX7_init_19 (fun H locs hW => ?_)
  refine lv_aload_n hx hcd dX7_init_22 rfl (lv_at hl 0 rfl) ?_
  refine lv_sipush (v := 162) hx hcd dX7_init_23 (by decide) ?_
  refine s_newi (N := 162) hC hW (by decide) (by decide) (Nat.le_of_ble_eq_true rfl) ac_int ⟨Nat.le_of_ble_eq_true rfl, Nat.le_of_ble_eq_true rfl⟩ dX7_init_26 (fun q2 H hW => ?_)
  replace hW := s_assoc (W' := [(h, .inr (9, [.ref q0, .ref q1, .null, .null, .int 0, .null, .int 0, .int 0, .int 0, .null, .null, .null, .int 0, .int 0, .int 0, .int 0, .null, .null, .int 0])), (q0, .inl (y.1, 162, .inl fun _ => 0)), (q1, .inl (y.1, 162, .inl fun _ => 0)), (q2, .inl (y.1, 162, .inl fun _ => 0))]) rfl hW
  refine s_putF (q0 := 132) (T := TX7) (N := 19) (ci := 9) (k := 2) (fs := [.ref q0, .ref q1, .null, .null, .int 0, .null, .int 0, .int 0, .int 0, .null, .null, .null, .int 0, .int 0, .int 0, .int 0, .null, .null, .int 0]) (ws' := g_cw y ad σ 132 ++ ([(h, .inr (9, [.ref q0, .ref q1, .ref q2, .null, .int 0, .null, .int 0, .int 0, .int 0, .null, .null, .null, .int 0, .int 0, .int 0, .int 0, .null, .null, .int 0])), (q0, .inl (y.1, 162, .inl fun _ => 0)), (q1, .inl (y.1, 162, .inl fun _ => 0)), (q2, .inl (y.1, 162, .inl fun _ => 0))])) hC hnm hW tyX7 inGX7 tyX7_ok nmX7 ((s_cget (j := 0) hlen rfl).trans rfl) rfl (by decide) fl_X7_16 rfl rfl rfl rfl (Nat.le_of_ble_eq_true rfl) (s_cset (j := 0) hlen rfl rfl) dX7_init_28 (fun H locs hW => ?_)
  refine lv_aload_n hx hcd dX7_init_31 rfl (lv_at hl 0 rfl) ?_
  refine lv_sipush (v := 162) hx hcd dX7_init_32 (by decide) ?_
  refine s_newi (N := 162) hC hW (by decide) (by decide) (Nat.le_of_ble_eq_true rfl) ac_int ⟨Nat.le_of_ble_eq_true rfl, Nat.le_of_ble_eq_true rfl⟩ dX7_init_35 (fun q3 H hW => ?_)
  replace hW := s_assoc (W' := [(h, .inr (9, [.ref q0, .ref q1, .ref q2, .null, .int 0, .null, .int 0, .int 0, .int 0, .null, .null, .null, .int 0, .int 0, .int 0, .int 0, .null, .null, .int 0])), (q0, .inl (y.1, 162, .inl fun _ => 0)), (q1, .inl (y.1, 162, .inl fun _ => 0)), (q2, .inl (y.1, 162, .inl fun _ => 0)), (q3, .inl (y.1, 162, .inl fun _ => 0))]) rfl hW
  refine s_putF (q0 := 132) (T := TX7) (N := 19) (ci := 9) (k := 3) (fs := [.ref q0, .ref q1, .ref q2, .null, .int 0, .null, .int 0, .int 0, .int 0, .null, .null, .null, .int 0, .int 0, .int 0, .int 0, .null, .null, .int 0]) (ws' := g_cw y ad σ 132 ++ ([(h, .inr (9, [.ref q0, .ref q1, .ref q2, .ref q3, .int 0, .null, .int 0, .int 0, .int 0, .null, .null, .null, .int 0, .int 0, .int 0, .int 0, .null, .null, .int 0])), (q0, .inl (y.1, 162, .inl fun _ => 0)), (q1, .inl (y.1, 162, .inl fun _ => 0)), (q2, .inl (y.1, 162, .inl fun _ => 0)), (q3, .inl (y.1, 162, .inl fun _ => 0))])) hC hnm hW tyX7 inGX7 tyX7_ok nmX7 ((s_cget (j := 0) hlen rfl).trans rfl) rfl (by decide) fl_X7_19 rfl rfl rfl rfl (Nat.le_of_ble_eq_true rfl) (s_cset (j := 0) hlen rfl rfl) dX7_init_37 (fun H locs hW => ?_)
  refine lv_aload_n hx hcd dX7_init_40 rfl (lv_at hl 0 rfl) ?_
  refine lv_sipush (v := 972) hx hcd dX7_init_41 (by decide) ?_
  refine s_newi (N := 972) hC hW (by decide) (by decide) (Nat.le_of_ble_eq_true rfl) ac_int ⟨Nat.le_of_ble_eq_true rfl, Nat.le_of_ble_eq_true rfl⟩ dX7_init_44 (fun q4 H hW => ?_)
  replace hW := s_assoc (W' := [(h, .inr (9, [.ref q0, .ref q1, .ref q2, .ref q3, .int 0, .null, .int 0, .int 0, .int 0, .null, .null, .null, .int 0, .int 0, .int 0, .int 0, .null, .null, .int 0])), (q0, .inl (y.1, 162, .inl fun _ => 0)), (q1, .inl (y.1, 162, .inl fun _ => 0)), (q2, .inl (y.1, 162, .inl fun _ => 0)), (q3, .inl (y.1, 162, .inl fun _ => 0)), (q4, .inl (y.1, 972, .inl fun _ => 0))]) rfl hW
  refine s_putF (q0 := 132) (T := TX7) (N := 19) (ci := 9) (k := 5) (fs := [.ref q0, .ref q1, .ref q2, .ref q3, .int 0, .null, .int 0, .int 0, .int 0, .null, .null, .null, .int 0, .int 0, .int 0, .int 0, .null, .null, .int 0]) (ws' := g_cw y ad σ 132 ++ ([(h, .inr (9, [.ref q0, .ref q1, .ref q2, .ref q3, .int 0, .ref q4, .int 0, .int 0, .int 0, .null, .null, .null, .int 0, .int 0, .int 0, .int 0, .null, .null, .int 0])), (q0, .inl (y.1, 162, .inl fun _ => 0)), (q1, .inl (y.1, 162, .inl fun _ => 0)), (q2, .inl (y.1, 162, .inl fun _ => 0)), (q3, .inl (y.1, 162, .inl fun _ => 0)), (q4, .inl (y.1, 972, .inl fun _ => 0))])) hC hnm hW tyX7 inGX7 tyX7_ok nmX7 ((s_cget (j := 0) hlen rfl).trans rfl) rfl (by decide) fl_X7_22 rfl rfl rfl rfl (Nat.le_of_ble_eq_true rfl) (s_cset (j := 0) hlen rfl rfl) dX7_init_46 (fun H locs hW => ?_)
  refine lv_aload_n hx hcd dX7_init_49 rfl (lv_at hl 0 rfl) ?_
  refine lv_iconst (v := 3) hx hcd dX7_init_50 (by decide) ?_
  refine s_newi (N := 3) hC hW (by decide) (by decide) (Nat.le_of_ble_eq_true rfl) ac_int ⟨Nat.le_of_ble_eq_true rfl, Nat.le_of_ble_eq_true rfl⟩ dX7_init_51 (fun q5 H hW => ?_)
  replace hW := s_assoc (W' := [(h, .inr (9, [.ref q0, .ref q1, .ref q2, .ref q3, .int 0, .ref q4, .int 0, .int 0, .int 0, .null, .null, .null, .int 0, .int 0, .int 0, .int 0, .null, .null, .int 0])), (q0, .inl (y.1, 162, .inl fun _ => 0)), (q1, .inl (y.1, 162, .inl fun _ => 0)), (q2, .inl (y.1, 162, .inl fun _ => 0)), (q3, .inl (y.1, 162, .inl fun _ => 0)), (q4, .inl (y.1, 972, .inl fun _ => 0)), (q5, .inl (y.1, 3, .inl fun _ => 0))]) rfl hW
  refine s_putF (q0 := 132) (T := TX7) (N := 19) (ci := 9) (k := 9) (fs := [.ref q0, .ref q1, .ref q2, .ref q3, .int 0, .ref q4, .int 0, .int 0, .int 0, .null, .null, .null, .int 0, .int 0, .int 0, .int 0, .null, .null, .int 0]) (ws' := g_cw y ad σ 132 ++ ([(h, .inr (9, [.ref q0, .ref q1, .ref q2, .ref q3, .int 0, .ref q4, .int 0, .int 0, .int 0, .ref q5, .null, .null, .int 0, .int 0, .int 0, .int 0, .null, .null, .int 0])), (q0, .inl (y.1, 162, .inl fun _ => 0)), (q1, .inl (y.1, 162, .inl fun _ => 0)), (q2, .inl (y.1, 162, .inl fun _ => 0)), (q3, .inl (y.1, 162, .inl fun _ => 0)), (q4, .inl (y.1, 972, .inl fun _ => 0)), (q5, .inl (y.1, 3, .inl fun _ => 0))])) hC hnm hW tyX7 inGX7 tyX7_ok nmX7 ((s_cget (j := 0) hlen rfl).trans rfl) rfl (by decide) fl_X7_25 rfl rfl rfl rfl (Nat.le_of_ble_eq_true rfl) (s_cset (j := 0) hlen rfl rfl) dX7_init_53 (fun H locs hW => ?_)
  refine lv_aload_n hx hcd dX7_init_56 rfl (lv_at hl 0 rfl) ?_
  refine lv_iconst (v := 3) hx hcd dX7_init_57 (by decide) ?_
  refine s_newi (N := 3) hC hW (by decide) (by decide) (Nat.le_of_ble_eq_true rfl) ac_int ⟨Nat.le_of_ble_eq_true rfl, Nat.le_of_ble_eq_true rfl⟩ dX7_init_58 (fun q6 H hW => ?_)
  replace hW := s_assoc (W' := [(h, .inr (9, [.ref q0, .ref q1, .ref q2, .ref q3, .int 0, .ref q4, .int 0, .int 0, .int 0, .ref q5, .null, .null, .int 0, .int 0, .int 0, .int 0, .null, .null, .int 0])), (q0, .inl (y.1, 162, .inl fun _ => 0)), (q1, .inl (y.1, 162, .inl fun _ => 0)), (q2, .inl (y.1, 162, .inl fun _ => 0)), (q3, .inl (y.1, 162, .inl fun _ => 0)), (q4, .inl (y.1, 972, .inl fun _ => 0)), (q5, .inl (y.1, 3, .inl fun _ => 0)), (q6, .inl (y.1, 3, .inl fun _ => 0))]) rfl hW
  refine s_putF (q0 := 132) (T := TX7) (N := 19) (ci := 9) (k := 10) (fs := [.ref q0, .ref q1, .ref q2, .ref q3, .int 0, .ref q4, .int 0, .int 0, .int 0, .ref q5, .null, .null, .int 0, .int 0, .int 0, .int 0, .null, .null, .int 0]) (ws' := g_cw y ad σ 132 ++ ([(h, .inr (9, [.ref q0, .ref q1, .ref q2, .ref q3, .int 0, .ref q4, .int 0, .int 0, .int 0, .ref q5, .ref q6, .null, .int 0, .int 0, .int 0, .int 0, .null, .null, .int 0])), (q0, .inl (y.1, 162, .inl fun _ => 0)), (q1, .inl (y.1, 162, .inl fun _ => 0)), (q2, .inl (y.1, 162, .inl fun _ => 0)), (q3, .inl (y.1, 162, .inl fun _ => 0)), (q4, .inl (y.1, 972, .inl fun _ => 0)), (q5, .inl (y.1, 3, .inl fun _ => 0)), (q6, .inl (y.1, 3, .inl fun _ => 0))])) hC hnm hW tyX7 inGX7 tyX7_ok nmX7 ((s_cget (j := 0) hlen rfl).trans rfl) rfl (by decide) fl_X7_28 rfl rfl rfl rfl (Nat.le_of_ble_eq_true rfl) (s_cset (j := 0) hlen rfl rfl) dX7_init_60 (fun H locs hW => ?_)
  refine lv_aload_n hx hcd dX7_init_63 rfl (lv_at hl 0 rfl) ?_
  refine lv_bipush (v := 60) hx hcd dX7_init_64 (by decide) ?_
  refine s_newc (N := 60) hC hW (by decide) (by decide) (Nat.le_of_ble_eq_true rfl) ac_char ⟨Nat.le_of_ble_eq_true rfl, Nat.le_of_ble_eq_true rfl⟩ dX7_init_66 (fun q7 H hW => ?_)
  replace hW := s_assoc (W' := [(h, .inr (9, [.ref q0, .ref q1, .ref q2, .ref q3, .int 0, .ref q4, .int 0, .int 0, .int 0, .ref q5, .ref q6, .null, .int 0, .int 0, .int 0, .int 0, .null, .null, .int 0])), (q0, .inl (y.1, 162, .inl fun _ => 0)), (q1, .inl (y.1, 162, .inl fun _ => 0)), (q2, .inl (y.1, 162, .inl fun _ => 0)), (q3, .inl (y.1, 162, .inl fun _ => 0)), (q4, .inl (y.1, 972, .inl fun _ => 0)), (q5, .inl (y.1, 3, .inl fun _ => 0)), (q6, .inl (y.1, 3, .inl fun _ => 0)), (q7, .inl (y.2.1, 60, .inl fun _ => 0))]) rfl hW
  refine s_putF (q0 := 132) (T := TX7) (N := 19) (ci := 9) (k := 11) (fs := [.ref q0, .ref q1, .ref q2, .ref q3, .int 0, .ref q4, .int 0, .int 0, .int 0, .ref q5, .ref q6, .null, .int 0, .int 0, .int 0, .int 0, .null, .null, .int 0]) (ws' := g_cw y ad σ 132 ++ ([(h, .inr (9, [.ref q0, .ref q1, .ref q2, .ref q3, .int 0, .ref q4, .int 0, .int 0, .int 0, .ref q5, .ref q6, .ref q7, .int 0, .int 0, .int 0, .int 0, .null, .null, .int 0])), (q0, .inl (y.1, 162, .inl fun _ => 0)), (q1, .inl (y.1, 162, .inl fun _ => 0)), (q2, .inl (y.1, 162, .inl fun _ => 0)), (q3, .inl (y.1, 162, .inl fun _ => 0)), (q4, .inl (y.1, 972, .inl fun _ => 0)), (q5, .inl (y.1, 3, .inl fun _ => 0)), (q6, .inl (y.1, 3, .inl fun _ => 0)), (q7, .inl (y.2.1, 60, .inl fun _ => 0))])) hC hnm hW tyX7 inGX7 tyX7_ok nmX7 ((s_cget (j := 0) hlen rfl).trans rfl) rfl (by decide) fl_X7_31 rfl rfl rfl rfl (Nat.le_of_ble_eq_true rfl) (s_cset (j := 0) hlen rfl rfl) dX7_init_68 (fun H locs hW => ?_)
  refine lv_aload_n hx hcd dX7_init_71 rfl (lv_at hl 0 rfl) ?_
  refine lv_iconst (v := (-1)) hx hcd dX7_init_72 (by decide) ?_
  refine s_put (q0 := 132) (T := TX7) (N := 19) (ci := 9) (k := 15) (fs := [.ref q0, .ref q1, .ref q2, .ref q3, .int 0, .ref q4, .int 0, .int 0, .int 0, .ref q5, .ref q6, .ref q7, .int 0, .int 0, .int 0, .int 0, .null, .null, .int 0]) (ws' := g_cw y ad σ 132 ++ ([(h, .inr (9, [.ref q0, .ref q1, .ref q2, .ref q3, .int 0, .ref q4, .int 0, .int 0, .int 0, .ref q5, .ref q6, .ref q7, .int 0, .int 0, .int 0, .int (-1), .null, .null, .int 0])), (q0, .inl (y.1, 162, .inl fun _ => 0)), (q1, .inl (y.1, 162, .inl fun _ => 0)), (q2, .inl (y.1, 162, .inl fun _ => 0)), (q3, .inl (y.1, 162, .inl fun _ => 0)), (q4, .inl (y.1, 972, .inl fun _ => 0)), (q5, .inl (y.1, 3, .inl fun _ => 0)), (q6, .inl (y.1, 3, .inl fun _ => 0)), (q7, .inl (y.2.1, 60, .inl fun _ => 0))])) hC hW tyX7 inGX7 tyX7_ok nmX7 ((s_cget (j := 0) hlen rfl).trans rfl) rfl (by decide) fl_X7_35 rfl rfl rfl (Nat.le_of_ble_eq_true rfl) (s_cset (j := 0) hlen rfl rfl) dX7_init_73 (fun H locs hW => ?_)
  refine lv_aload_n hx hcd dX7_init_76 rfl (lv_at hl 0 rfl) ?_
  refine lv_bipush (v := 60) hx hcd dX7_init_77 (by decide) ?_
  refine s_newc (N := 60) hC hW (by decide) (by decide) (Nat.le_of_ble_eq_true rfl) ac_char ⟨Nat.le_of_ble_eq_true rfl, Nat.le_of_ble_eq_true rfl⟩ dX7_init_79 (fun q8 H hW => ?_)
  replace hW := s_assoc (W' := [(h, .inr (9, [.ref q0, .ref q1, .ref q2, .ref q3, .int 0, .ref q4, .int 0, .int 0, .int 0, .ref q5, .ref q6, .ref q7, .int 0, .int 0, .int 0, .int (-1), .null, .null, .int 0])), (q0, .inl (y.1, 162, .inl fun _ => 0)), (q1, .inl (y.1, 162, .inl fun _ => 0)), (q2, .inl (y.1, 162, .inl fun _ => 0)), (q3, .inl (y.1, 162, .inl fun _ => 0)), (q4, .inl (y.1, 972, .inl fun _ => 0)), (q5, .inl (y.1, 3, .inl fun _ => 0)), (q6, .inl (y.1, 3, .inl fun _ => 0)), (q7, .inl (y.2.1, 60, .inl fun _ => 0)), (q8, .inl (y.2.1, 60, .inl fun _ => 0))]) rfl hW
  refine s_putF (q0 := 132) (T := TX7) (N := 19) (ci := 9) (k := 16) (fs := [.ref q0, .ref q1, .ref q2, .ref q3, .int 0, .ref q4, .int 0, .int 0, .int 0, .ref q5, .ref q6, .ref q7, .int 0, .int 0, .int 0, .int (-1), .null, .null, .int 0]) (ws' := g_cw y ad σ 132 ++ ([(h, .inr (9, [.ref q0, .ref q1, .ref q2, .ref q3, .int 0, .ref q4, .int 0, .int 0, .int 0, .ref q5, .ref q6, .ref q7, .int 0, .int 0, .int 0, .int (-1), .ref q8, .null, .int 0])), (q0, .inl (y.1, 162, .inl fun _ => 0)), (q1, .inl (y.1, 162, .inl fun _ => 0)), (q2, .inl (y.1, 162, .inl fun _ => 0)), (q3, .inl (y.1, 162, .inl fun _ => 0)), (q4, .inl (y.1, 972, .inl fun _ => 0)), (q5, .inl (y.1, 3, .inl fun _ => 0)), (q6, .inl (y.1, 3, .inl fun _ => 0)), (q7, .inl (y.2.1, 60, .inl fun _ => 0)), (q8, .inl (y.2.1, 60, .inl fun _ => 0))])) hC hnm hW tyX7 inGX7 tyX7_ok nmX7 ((s_cget (j := 0) hlen rfl).trans rfl) rfl (by decide) fl_X7_39 rfl rfl rfl rfl (Nat.le_of_ble_eq_true rfl) (s_cset (j := 0) hlen rfl rfl) dX7_init_81 (fun H locs hW => ?_)
  refine lv_aload_n hx hcd dX7_init_84 rfl (lv_at hl 0 rfl) ?_
  refine lv_sipush (v := 180) hx hcd dX7_init_85 (by decide) ?_
  refine s_newi (N := 180) hC hW (by decide) (by decide) (Nat.le_of_ble_eq_true rfl) ac_int ⟨Nat.le_of_ble_eq_true rfl, Nat.le_of_ble_eq_true rfl⟩ dX7_init_88 (fun q9 H hW => ?_)
  replace hW := s_assoc (W' := [(h, .inr (9, [.ref q0, .ref q1, .ref q2, .ref q3, .int 0, .ref q4, .int 0, .int 0, .int 0, .ref q5, .ref q6, .ref q7, .int 0, .int 0, .int 0, .int (-1), .ref q8, .null, .int 0])), (q0, .inl (y.1, 162, .inl fun _ => 0)), (q1, .inl (y.1, 162, .inl fun _ => 0)), (q2, .inl (y.1, 162, .inl fun _ => 0)), (q3, .inl (y.1, 162, .inl fun _ => 0)), (q4, .inl (y.1, 972, .inl fun _ => 0)), (q5, .inl (y.1, 3, .inl fun _ => 0)), (q6, .inl (y.1, 3, .inl fun _ => 0)), (q7, .inl (y.2.1, 60, .inl fun _ => 0)), (q8, .inl (y.2.1, 60, .inl fun _ => 0)), (q9, .inl (y.1, 180, .inl fun _ => 0))]) rfl hW
  refine s_putF (q0 := 132) (T := TX7) (N := 19) (ci := 9) (k := 17) (fs := [.ref q0, .ref q1, .ref q2, .ref q3, .int 0, .ref q4, .int 0, .int 0, .int 0, .ref q5, .ref q6, .ref q7, .int 0, .int 0, .int 0, .int (-1), .ref q8, .null, .int 0]) (ws' := g_cw y ad σ 132 ++ ([(h, .inr (9, [.ref q0, .ref q1, .ref q2, .ref q3, .int 0, .ref q4, .int 0, .int 0, .int 0, .ref q5, .ref q6, .ref q7, .int 0, .int 0, .int 0, .int (-1), .ref q8, .ref q9, .int 0])), (q0, .inl (y.1, 162, .inl fun _ => 0)), (q1, .inl (y.1, 162, .inl fun _ => 0)), (q2, .inl (y.1, 162, .inl fun _ => 0)), (q3, .inl (y.1, 162, .inl fun _ => 0)), (q4, .inl (y.1, 972, .inl fun _ => 0)), (q5, .inl (y.1, 3, .inl fun _ => 0)), (q6, .inl (y.1, 3, .inl fun _ => 0)), (q7, .inl (y.2.1, 60, .inl fun _ => 0)), (q8, .inl (y.2.1, 60, .inl fun _ => 0)), (q9, .inl (y.1, 180, .inl fun _ => 0))])) hC hnm hW tyX7 inGX7 tyX7_ok nmX7 ((s_cget (j := 0) hlen rfl).trans rfl) rfl (by decide) fl_X7_42 rfl rfl rfl rfl (Nat.le_of_ble_eq_true rfl) (s_cset (j := 0) hlen rfl rfl) dX7_init_90 (fun H locs hW => ?_)
  refine lv_aload_n hx hcd dX7_init_93 rfl (lv_at hl 0 rfl) ?_
  have hW2 := s_perm (y := y) (n := 143) (ad := (w_ad7 ad h q0 q1 q2 q3 q4 q5 q6 q7 q8 q9)) (σ := g_z1 σ) (L := g_cw y ad σ 132 ++ w_mod y h q0 q1 q2 q3 q4 q5 q6 q7 q8 q9) (fun k => k) (fun k hk => w_md_k k hk) (fun i _ j _ h => h) hW
  have hG : g_W (va_A (g_cw y ad σ 132 ++ [(h, .inr (9, [.null, .null, .null, .null, .int 0, .null, .int 0, .int 0, .int 0, .null, .null, .null, .int 0, .int 0, .int 0, .int 0, .null, .null, .int 0]))]) sz) s.heap D y (w_ad7 ad h q0 q1 q2 q3 q4 q5 q6 q7 q8 q9) [] (g_z1 σ) H locs := by
    obtain ⟨hP, hD, hS, hA⟩ := hW2
    refine ⟨?_, ?_, hS, hA⟩
    · rw [List.append_nil]; exact hP
    · rw [List.append_nil]; exact hD
  refine g_callv hG (g_runV (i := 132) (As := []) (rest := []) hC hG (c_X7_begin l D y _ (g_z1 σ) _ hb) ok_X7_45 ⟨rfl, rfl, Nat.le_of_ble_eq_true rfl, Nat.le_of_ble_eq_true rfl⟩ (by decide) rfl rfl rfl rfl hl.1 rfl (Nat.le_of_ble_eq_true rfl) dX7_init_94 ⟨Nat.le_of_ble_eq_true rfl, Nat.le_of_ble_eq_true rfl⟩) (fun H locs hG => ?_)
  obtain ⟨hP, hD, hS, hA⟩ := hG
  rw [List.append_nil] at hP hD
  exact s_vret ⟨(w_ad7 ad h q0 q1 q2 q3 q4 q5 q6 q7 q8 q9), fun i hi => if_pos hi, rfl⟩ hC hr hlk hsz ⟨hP, hD, hS, hA⟩ dX7_init_97
