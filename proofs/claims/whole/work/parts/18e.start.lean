/-! THE CLAIM OUT OF ONE WALK OF THE LAW'S BODY. Your part is whole_start (and what it stands on); all else here is the same for every law, but numbers. -/
def R_law : String := "StandAssignerLaw"
def lw_P (b : Addr) (xs : List Int32) (args : Array Value) (s : State) : Prop := args = #[.ref b] ∧ s.IntsAt b xs ∧ xs.length ≤ 2560 ∧ (Jvm.Cond.and given_1 narrow_1).before args s = true
/-- what a walk over the start with the record d0 says of its end, said of the start itself -/
theorem lw_closed {s t : State} {o : Outcome} {d0 : Drawn} {L : List Loc} {k n : Nat} (hd0 : s.drawn.sameBut d0 lw_cs) (hv : ∃ v, o = .returned v) (hW : (s.setDrawn d0).WarmedH t.vm) (hs : (s.setDrawn d0).sameButNew ({ t with vm := s.vm } : State) L k n) : State.butDraws s t lw_cs (fun t1 => Framed s o t1 L k n) := by
  have h2 : t.drawn = d0 := congrArg State.drawn hs.1
  refine ⟨⟨hv, hW, State.sameButNew.setDrawn hs s.drawn⟩, ?_, by decide⟩
  rw [h2]
  exact hd0
def lw_Q (_ : Array Value) (s : State) (o : Outcome) (t : State) : Prop := o = .returned (some (.int 1)) ∧ State.butDraws s t lw_cs (fun t1 => Framed s o t1 [] 603072 7186538)
def lw_Z (below : List Frame) (a : Array Value) (s : State) : State → Prop := fun t => ∃ o, t.status = .running ∧ Ended t below o ∧ lw_Q a s o t
/-- the law's own end, with 1 on the stack, nothing written that was there before, its room as the claim has it; d0: the record of draws at this point (at the entry s.drawn: begin with 'refine W.base ?_' and 'have hd0 := Drawn.sameBut.refl s.drawn lw_cs') -/
theorem lw_ret {p : Program} {l : Launch} {e : Env} {s : State} {m : MethodId} {below : List Frame} {meth : Method} {c : Code} {b : Nat} {d0 : Drawn} (hd0 : s.drawn.sameBut d0 lw_cs) (hx : p.tables.exec = Jvm.exec) (hb : c.code = code) (hr : meth.sig.returnType = ret) (hlocks : meth.locks = false) {pc : Nat} {H : Heap} {ls : Array Slot} (hdg : decode code pc = .ok (.ireturn, 1)) : W p l e room_1 (s.setDrawn d0) m #[Value.ref b] below meth c H [] 603072 7186538 (lw_Z below #[Value.ref b] s) (F0 m pc ls [.int 1]) := by
  intro T hT X
  obtain ⟨fs, hret, hrun, hended, hW, hframe⟩ := X.leave (v := some (.int 1)) (hlocks := hlocks) (fun h => by rw [hr] at h; cases h)
  have hmeth' : T.vm.method? m = some meth := X.method'
  refine ⟨T.setFrames fs, ?_, .returned (some (.int 1)), hrun, hended, rfl, lw_closed hd0 ⟨_, rfl⟩ hW hframe⟩
  jvm_step X.here [X.here.top, hx, hb, hdg, hmeth', hr, ret, narrow_b1]
  (try refine ⟨rfl, ?_⟩); (try refine ⟨rfl, ?_⟩)
  first | (intro acts; rw [hret _ acts rfl rfl rfl]) | rw [hret _ _ rfl rfl rfl]
  exact Steps.refl _
/-- what holds at the law's entry: the machine, the code, the tables' words (any of lw_tbl by 'hts w (by decide +kernel)'), the script of L ints xs at the cell b, what the Statement gives of the start (any of its parts by flat_of_before) -/
def lw_At (p : Program) (s : State) (m : MethodId) (meth : Method) (c : Code) (b L : Nat) (xs : Nat → Int32) : Prop :=
  p.tables.exec = Jvm.exec ∧ c.code = code ∧ meth.sig.returnType = ret ∧ c.maxLocals = 8 ∧ s.vm.findClass R_law = some m.cls ∧ (∀ w ∈ lw_tbl, w.before #[Value.ref b] s = true) ∧ va_X b L xs s s.heap ∧ b < s.heap.size ∧ meth.locks = false ∧ (Jvm.Cond.and given_1 narrow_1).before #[Value.ref b] s = true

theorem st_nw {w : Cond} (h : gx_ok w = true) {args : Array Value} {s : State} (hb : w.before args s = true) : va_Nw w s := by
  have key : goodWord w = true → va_Nw w s := fun hw => by
    rcases good_of_word hw with h1 | ⟨ty, rfl⟩
    · exact va_Nw.of (by simp only [Bool.and_eq_true] at h1; exact h1.1) hb
    · exact hb
  cases w <;> first | exact va_Nw.of rfl hb | exact key h
/-! ===== what holds at the entry ===== -/
theorem st_ex : ∀ q ∈ g_strs, Cond.exactly (.string "StandAssigner" q.1) "java/lang/String" ∈ flatC (Jvm.Cond.and given_1 narrow_1) := by decide +kernel
theorem st_sr : ∀ q ∈ g_strs, Cond.stringRef "StandAssigner" q.1 q.2 ∈ lw_tbl := by decide +kernel
theorem st_nc : ∀ q ∈ g_nc, Cond.not (.castable q.1 q.2) ∈ flatC (Jvm.Cond.and given_1 narrow_1) := by decide +kernel
abbrev st_tm (i : Nat) : Term := .string "StandAssigner$Text" (60 + 2 * i)
theorem st_ts : ∀ i, i < 6 → Cond.stringRef "StandAssigner$Text" (60 + 2 * i) (ts_txt.getD i "") ∈ lw_tbl := by decide +kernel
theorem st_t1 : ∀ i, i < 6 → Cond.exactly (st_tm i) "java/lang/String" ∈ flatC (Jvm.Cond.and given_1 narrow_1) := by decide +kernel
theorem st_t2 : ∀ i, i < 6 → Cond.eq (.field (st_tm i) "java/lang/String" "coder" "B") (.int 0) ∈ flatC (Jvm.Cond.and given_1 narrow_1) := by decide +kernel
theorem st_t3 : ∀ i, i < 6 → Cond.arrayOf (.field (st_tm i) "java/lang/String" "value" "[B") .byte ∈ flatC (Jvm.Cond.and given_1 narrow_1) := by decide +kernel
theorem st_t4 : ∀ i, i < 6 → Cond.eq (.length (.field (st_tm i) "java/lang/String" "value" "[B")) (.int (Int32.ofNat (ts_len.getD i 0))) ∈ flatC (Jvm.Cond.and given_1 narrow_1) := by decide +kernel
theorem st_t5 : ∀ i, i < 6 → ∀ j, j < ts_len.getD i 0 → Cond.eq (.elem (.field (st_tm i) "java/lang/String" "value" "[B") (.int (Int32.ofNat j))) (.int ((ts_byt.getD i []).getD j 0)) ∈ flatC (Jvm.Cond.and given_1 narrow_1) := by decide +kernel
theorem st_t6 : ∀ i, i < 6 → ts_len.getD i 0 < 2 ^ 31 := by decide +kernel
theorem st_t7 : ∀ i, i < 6 → ∀ j, j < 6 → ts_len.getD i 0 = ts_len.getD j 0 → (∀ k, k < ts_len.getD i 0 → (ts_byt.getD i []).getD k 0 = (ts_byt.getD j []).getD k 0) → i = j := by decide +kernel
/-- the texts stand in cells of their own: their contents differ -/
theorem st_S {args : Array Value} {s : State} {A : Nat → Prop} (hg : ∀ w ∈ flatC (Jvm.Cond.and given_1 narrow_1), w.before args s = true) (hA : ∀ a : Nat, a < s.heap.size → ¬ A a) :
    ∃ adK adV : Nat → Nat, vk_S 6 ts_len ts_byt adK adV A s s.heap ∧ ∀ i : Nat, i < 6 → (st_tm i).eval args s none [] s = some (.ref (adK i)) := by
  have h0 : ∀ i : Nat, ∃ q : Nat × Nat, i < 6 → (st_tm i).eval args s none [] s = some (.ref q.1) ∧ va_O "java/lang/String" q.1 A s s.heap ∧ va_OF "java/lang/String" "coder" "B" (.int 0) q.1 A s s.heap ∧ va_OF "java/lang/String" "value" "[B" (.ref q.2) q.1 A s s.heap ∧ va_T .byte q.2 (ts_len.getD i 0) (fun j => .int ((ts_byt.getD i []).getD j 0)) A s s.heap := by
    intro i
    by_cases hi : i < 6
    · obtain ⟨a, c, cA, kA, q1, q2, q3, q4, q5, q6, -⟩ := Cond.exactly_spec (args := args) (first := s) (o := none) (s := s) (idx := []) (t := st_tm i) (cls := "java/lang/String") (hg _ (st_t1 i hi))
      obtain ⟨t, ht, hT⟩ := va_Tof (f := fun j => .int ((ts_byt.getD i []).getD j 0)) (A := A) (st_t6 i hi) (hg _ (st_t3 i hi)) (va_eqt (hg _ (st_t4 i hi))) (fun j hj => va_eqt (hg _ (st_t5 i hi j hj))) hA
      exact ⟨(a, t), fun _ => ⟨q1, ⟨cA, q3, q5, by rw [q6]; exact q2, hA a (Array.getElem?_eq_some_iff.mp q3).1⟩, vk_OFof q1 (va_eqt (hg _ (st_t2 i hi))) hA, vk_OFof q1 ht hA, hT⟩⟩
    · exact ⟨(0, 0), fun h => absurd h hi⟩
  obtain ⟨ad, had⟩ := Classical.axiomOfChoice h0
  refine ⟨fun i => (ad i).1, fun i => (ad i).2, ⟨fun i hi => (had i hi).2, fun i j hi hj e => ?_⟩, fun i hi => (had i hi).1⟩
  obtain ⟨-, -, -, hv, hT⟩ := had i hi
  obtain ⟨-, -, -, hv2, hT2⟩ := had j hj
  have e : (ad i).1 = (ad j).1 := e
  obtain ⟨cf, k, z, f, cell, a1, a2, a3, a4, a5, a6⟩ := hv
  obtain ⟨cf2, k2, z2, f2, cell2, b1, b2, b3, b4, b5, b6⟩ := hv2
  rw [a1] at b1
  cases b1
  rw [e, b3] at a3
  cases a3
  rw [a5] at b5
  have e2 : (ad i).2 = (ad j).2 := by first | exact Value.ref.inj (Option.some.inj b5) | exact (Value.ref.inj (Option.some.inj b5)).symm
  obtain ⟨c1, t1, -, -, t4, t5, t6, -⟩ := hT
  obtain ⟨c2, u1, -, -, u4, u5, u6, -⟩ := hT2
  rw [e2, u1] at t1
  cases t1
  have e3 : ts_len.getD i 0 = ts_len.getD j 0 := by
    have h1 : Int32.ofNat (ts_len.getD i 0) = Int32.ofNat (ts_len.getD j 0) := t5.symm.trans u5
    exact (nI_eq (st_t6 i hi) (st_t6 j hj)).mp h1
  refine st_t7 i hi j hj e3 (fun k hk => ?_)
  have h1 := t6 k hk
  have h2 := u6 k (by rw [← e3]; exact hk)
  rw [h1] at h2
  have h3 : Value.int ((ts_byt.getD i []).getD k 0) = Value.int ((ts_byt.getD j []).getD k 0) := Option.some.inj h2
  exact Value.int.inj h3
theorem st_Y {args : Array Value} {s : State} {A : Nat → Prop} (hts : ∀ w ∈ lw_tbl, w.before args s = true) (hg : ∀ w ∈ flatC (Jvm.Cond.and given_1 narrow_1), w.before args s = true) (hA : ∀ a : Nat, a < s.heap.size → ¬ A a) : g_Y A s s.heap := by
  refine ⟨⟨fun w hw => ?_, ?_, ?_, fun q hq => ?_, ?_⟩, fun q hq => va_Nc.of (hg _ (st_nc q hq))⟩
  · obtain ⟨h1, h2⟩ := List.mem_filter.mp hw
    exact st_nw h2 (hts w h1)
  · exact vx_Zqof (hts (.laysStatic "java/lang/Throwable" "UNASSIGNED_STACK" "[Ljava/lang/StackTraceElement;") (by decide +kernel)) (hts (.initialized "java/lang/Throwable") (by decide +kernel)) (hg _ (by decide +kernel)) hA
  · exact vx_Zqof (hts (.laysStatic "java/lang/Throwable" "SUPPRESSED_SENTINEL" "Ljava/util/List;") (by decide +kernel)) (hts (.initialized "java/lang/Throwable") (by decide +kernel)) (hg _ (by decide +kernel)) hA
  · obtain ⟨a, c, cA, kA, q1, -⟩ := Cond.exactly_spec (args := args) (first := s) (o := none) (s := s) (idx := []) (t := .string "StandAssigner" q.1) (cls := "java/lang/String") (hg _ (st_ex q hq))
    exact ⟨a, vk_R.of (hts _ (st_sr q hq)) q1⟩
  · obtain ⟨adK, adV, h1, h2⟩ := st_S hg hA
    refine ⟨adK, adV, h1, fun i hi => vk_R.of (hts _ (st_ts i hi)) (h2 i hi), ?_, ?_⟩
    · exact va_Zof (hts (.laysStatic "java/lang/String" "COMPACT_STRINGS" "Z") (by decide +kernel)) (hts (.initialized "java/lang/String") (by decide +kernel)) (va_eqt (hg (.eq (.static "java/lang/String" "COMPACT_STRINGS" "Z") (.int 1)) (by decide +kernel))) hA
    · exact va_Zqof (hts (.laysStatic "jdk/internal/util/Preconditions" "SIOOBE_FORMATTER" "Ljava/util/function/BiFunction;") (by decide +kernel)) (hts (.initialized "jdk/internal/util/Preconditions") (by decide +kernel)) (hg _ (by decide +kernel)) hA
theorem st_D {args : Array Value} {s : State} (hts : ∀ w ∈ lw_tbl, w.before args s = true) : ∃ D : va_G, ∀ (k : Nat) (q : vw_C), vwCl[k]? = some q → u_Kn s q.1 q.2.1 q.2.2 (D.1 k) (D.2 k) := by
  obtain ⟨c0, i0, h0⟩ := u_known (C := RJ0) (T := TJ0) (N := 2) (n := 4) hts (by decide +kernel) (hts (.instantiable RJ0 4) (by decide +kernel))
  obtain ⟨c1, i1, h1⟩ := u_known (C := RJx00060) (T := TJx00060) (N := 6) (n := 6) hts (by decide +kernel) (hts (.instantiable RJx00060 6) (by decide +kernel))
  obtain ⟨c2, i2, h2⟩ := u_known (C := RX0) (T := TX0) (N := 16) (n := 16) hts (by decide +kernel) (hts (.instantiable RX0 16) (by decide +kernel))
  obtain ⟨c3, i3, h3⟩ := u_known (C := RX1) (T := TX1) (N := 7) (n := 7) hts (by decide +kernel) (hts (.instantiable RX1 7) (by decide +kernel))
  obtain ⟨c4, i4, h4⟩ := u_known (C := RX2) (T := TX2) (N := 4) (n := 4) hts (by decide +kernel) (hts (.instantiable RX2 4) (by decide +kernel))
  obtain ⟨c5, i5, h5⟩ := u_known (C := RX3) (T := TX3) (N := 5) (n := 5) hts (by decide +kernel) (hts (.instantiable RX3 5) (by decide +kernel))
  obtain ⟨c6, i6, h6⟩ := u_known (C := RX4) (T := TX4) (N := 3) (n := 3) hts (by decide +kernel) (hts (.instantiable RX4 3) (by decide +kernel))
  obtain ⟨c7, i7, h7⟩ := u_known (C := RX5) (T := TX5) (N := 6) (n := 6) hts (by decide +kernel) (hts (.instantiable RX5 6) (by decide +kernel))
  obtain ⟨c8, i8, h8⟩ := u_known (C := RX6) (T := TX6) (N := 11) (n := 11) hts (by decide +kernel) (hts (.instantiable RX6 11) (by decide +kernel))
  obtain ⟨c9, i9, h9⟩ := u_known (C := RX7) (T := TX7) (N := 19) (n := 19) hts (by decide +kernel) (hts (.instantiable RX7 19) (by decide +kernel))
  refine ⟨(fun k => [c0, c1, c2, c3, c4, c5, c6, c7, c8, c9].getD k c0, fun k => [i0, i1, i2, i3, i4, i5, i6, i7, i8, i9].getD k i0), fun k q hq => ?_⟩
  have hk : k < 10 := (List.getElem?_eq_some_iff.mp hq).1
  rcases (show k = 0 ∨ k = 1 ∨ k = 2 ∨ k = 3 ∨ k = 4 ∨ k = 5 ∨ k = 6 ∨ k = 7 ∨ k = 8 ∨ k = 9 by omega) with rfl | rfl | rfl | rfl | rfl | rfl | rfl | rfl | rfl | rfl
  · cases hq; exact h0
  · cases hq; exact h1
  · cases hq; exact h2
  · cases hq; exact h3
  · cases hq; exact h4
  · cases hq; exact h5
  · cases hq; exact h6
  · cases hq; exact h7
  · cases hq; exact h8
  · cases hq; exact h9
theorem st_y {args : Array Value} {s : State} (hts : ∀ w ∈ lw_tbl, w.before args s = true) {D : va_G} (hD : ∀ (k : Nat) (q : vw_C), vwCl[k]? = some q → u_Kn s q.1 q.2.1 q.2.2 (D.1 k) (D.2 k)) : ∃ y : ClassId × ClassId × ClassId, va_K D vwCl (g_ty y) s := by
  obtain ⟨cI, kI, compI, a1, a2, a3⟩ := Cond.arrayClass_spec (hts (.arrayClass .int) (gl_tbl ac_int))
  obtain ⟨cC, kC, compC, b1, b2, b3⟩ := Cond.arrayClass_spec (hts (.arrayClass .char) (gl_tbl ac_char))
  obtain ⟨comp, cA, kA, d1, d2, d3, d4, d5⟩ := Cond.arrayOver_spec (hts (.arrayOver (.object "StandAssigner$Airport")) (by decide +kernel))
  refine ⟨(cI, cC, cA), hD, fun k q hq => ?_⟩
  have hk : k < 3 := (List.getElem?_eq_some_iff.mp hq).1
  rcases (show k = 0 ∨ k = 1 ∨ k = 2 by omega) with rfl | rfl | rfl
  · cases hq; exact ⟨fun n z => ⟨fun k h => (by cases h), kI, a2, compI, a3⟩, a1⟩
  · cases hq; exact ⟨fun n z => ⟨fun k h => (by cases h), kC, b2, compC, b3⟩, b1⟩
  · cases hq; exact ⟨fun n z => ⟨fun k h => (by cases h), kA, d3, comp, d4⟩, kA, comp, d3, d4, d1, d5⟩
