/-! ===== what each operation must give (Inv: what holds of the cells between two calls), and the law's loop ===== -/
def o_clear (Inv : gS → Prop) : Prop := ∀ σ, Inv σ → ∃ (r : Int32) (σ1 σ2 : gS), (X6_clear σ = some (r, σ1)) ∧ (X7_clear σ1 = some (r, σ2)) ∧ Inv σ2
def o_addStand (Inv : gS → Prop) : Prop := ∀ σ, Inv σ → ∀ (f : Nat → Int64) (x1 : Int32) (x2 : Int32), ∃ (k : Int32) (r : Int32) (f1 : Nat → Int64) (σ1 σ2 : gS), (L_addStand σ f x1 x2 = some (k, f1, σ1)) ∧ (X7_addStand σ1 x1 x2 = some (r, σ2)) ∧ (σ2 132 8 = k) ∧ (k = 0 → f1 0 = r.toInt64) ∧ Inv σ2
def o_pair (Inv : gS → Prop) : Prop := ∀ σ, Inv σ → ∀ (f : Nat → Int64) (x1 : Int32) (x2 : Int32) (x3 : Int32), ∃ (k : Int32) (r : Int32) (f1 : Nat → Int64) (σ1 σ2 : gS), (L_pair σ f x1 x2 x3 = some (k, f1, σ1)) ∧ (X7_pair σ1 x1 x2 x3 = some (r, σ2)) ∧ (σ2 132 8 = k) ∧ (k = 0 → f1 0 = r.toInt64) ∧ Inv σ2
def o_setOpen (Inv : gS → Prop) : Prop := ∀ σ, Inv σ → ∀ (f : Nat → Int64) (x1 : Int32) (x2 : Int32), ∃ (k : Int32) (r : Int32) (f1 : Nat → Int64) (σ1 σ2 : gS), (L_setOpen σ f x1 (bx x2) = some (k, f1, σ1)) ∧ (X7_setOpen σ1 x1 (bx x2) = some (r, σ2)) ∧ (σ2 132 8 = k) ∧ (k = 0 → f1 0 = if r = 0 then 0 else 1) ∧ Inv σ2
def o_setBuffer (Inv : gS → Prop) : Prop := ∀ σ, Inv σ → ∀ (f : Nat → Int64) (x1 : Int32), ∃ (k : Int32) (r : Int32) (f1 : Nat → Int64) (σ1 σ2 : gS), (L_setBuffer σ f x1 = some (k, f1, σ1)) ∧ (X7_setBuffer σ1 x1 = some (r, σ2)) ∧ (σ2 132 8 = k) ∧ (k = 0 → f1 0 = r.toInt64) ∧ Inv σ2
def o_stand (Inv : gS → Prop) : Prop := ∀ σ, Inv σ → ∀ (f : Nat → Int64) (x1 : Int32) (x2 : Int32), ∃ (k : Int32) (r : Int32) (f1 : Nat → Int64) (σ1 σ2 : gS), (L_stand σ f x1 x2 = some (k, f1, σ1)) ∧ (X7_stand σ1 x1 x2 = some (r, σ2)) ∧ (σ2 132 8 = k) ∧ (k = 0 → f1 0 = r.toInt64) ∧ Inv σ2
def o_at (Inv : gS → Prop) : Prop := ∀ σ, Inv σ → ∀ (f : Nat → Int64) (x1 : Int32) (x2 : Int32), ∃ (k : Int32) (r : Int32) (f1 : Nat → Int64) (σ1 σ2 : gS), (L_at σ f x1 x2 = some (k, f1, σ1)) ∧ (X7_at_ σ1 x1 x2 = some (r, σ2)) ∧ (σ2 132 8 = k) ∧ (k = 0 → f1 0 = r.toInt64) ∧ Inv σ2
def o_gap (Inv : gS → Prop) : Prop := ∀ σ, Inv σ → ∀ (f : Nat → Int64) (x1 : Int32) (x2 : Int32), ∃ (k : Int32) (r : Int32) (f1 : Nat → Int64) (σ1 σ2 : gS), (L_gap σ f x1 x2 = some (k, f1, σ1)) ∧ (X7_gap σ1 x1 x2 = some (r, σ2)) ∧ (σ2 132 8 = k) ∧ (k = 0 → f1 0 = r.toInt64) ∧ Inv σ2
def o_addTurn (Inv : gS → Prop) : Prop := ∀ σ, Inv σ → ∀ (f : Nat → Int64) (x1 : Int32) (x2 : Int32) (x3 : Int32) (x4 : Int32), ∃ (k : Int32) (r : Int32) (f1 : Nat → Int64) (σ1 σ2 : gS), (L_addTurn σ f x1 x2 x3 x4 = some (k, f1, σ1)) ∧ (X7_addTurn σ1 x1 x2 x3 x4 = some (r, σ2)) ∧ (σ2 132 8 = k) ∧ (k = 0 → f1 0 = r.toInt64) ∧ Inv σ2
def o_turn (Inv : gS → Prop) : Prop := ∀ σ, Inv σ → ∀ (f : Nat → Int64) (x1 : Int32) (x2 : Int32), ∃ (k : Int32) (r : Int32) (f1 : Nat → Int64) (σ1 σ2 : gS), (L_turn σ f x1 x2 = some (k, f1, σ1)) ∧ (X7_turn σ1 x1 x2 = some (r, σ2)) ∧ (σ2 132 8 = k) ∧ (k = 0 → f1 0 = r.toInt64) ∧ Inv σ2
def o_ofStay (Inv : gS → Prop) : Prop := ∀ σ, Inv σ → ∀ (f : Nat → Int64) (x1 : Int32) (x2 : Int32) (x3 : Int32), ∃ (k : Int32) (r : Int32) (f1 : Nat → Int64) (σ1 σ2 : gS), (L_ofStay σ f x1 x2 x3 = some (k, f1, σ1)) ∧ (X7_ofStay σ1 x1 x2 x3 = some (r, σ2)) ∧ (σ2 132 8 = k) ∧ (k = 0 → f1 0 = r.toInt64) ∧ Inv σ2
def o_place (Inv : gS → Prop) : Prop := ∀ σ, Inv σ → ∀ (f : Nat → Int64) (x1 : Int32) (x2 : Int32) (x3 : Int32), ∃ (k : Int32) (r : Int32) (f1 : Nat → Int64) (σ1 σ2 : gS), (L_place σ f x1 x2 x3 = some (k, f1, σ1)) ∧ (X7_place σ1 x1 x2 x3 = some (r, σ2)) ∧ (σ2 132 8 = k) ∧ (k = 0 → f1 0 = r.toInt64) ∧ Inv σ2
def o_whyNot (Inv : gS → Prop) : Prop := ∀ σ, Inv σ → ∀ (f : Nat → Int64) (x1 : Int32) (x2 : Int32) (x3 : Int32), ∃ (k : Int32) (r : Int32) (f1 : Nat → Int64) (σ1 σ2 : gS), (L_whyNot σ f x1 x2 x3 = some (k, f1, σ1)) ∧ (X7_whyNot σ1 x1 x2 x3 = some (r, σ2)) ∧ (σ2 132 8 = k) ∧ (k = 0 → f1 0 = r.toInt64) ∧ Inv σ2
def o_options (Inv : gS → Prop) : Prop := ∀ σ, Inv σ → ∀ (f : Nat → Int64) (x1 : Int32) (x2 : Int32), ∃ (k : Int32) (r : Int32) (f1 : Nat → Int64) (σ1 σ2 : gS), (L_options σ f x1 x2 = some (k, f1, σ1)) ∧ (X7_options σ1 x1 x2 = some (r, σ2)) ∧ (σ2 132 8 = k) ∧ (k = 0 → f1 0 = r.toInt64) ∧ Inv σ2
def o_cheapest (Inv : gS → Prop) : Prop := ∀ σ, Inv σ → ∀ (f : Nat → Int64) (x1 : Int32) (x2 : Int32), ∃ (k : Int32) (r : Int32) (f1 : Nat → Int64) (σ1 σ2 : gS), (L_cheapest σ f x1 x2 = some (k, f1, σ1)) ∧ (X7_cheapest σ1 x1 x2 = some (r, σ2)) ∧ (σ2 132 8 = k) ∧ (k = 0 → f1 0 = r.toInt64) ∧ Inv σ2
def o_lift (Inv : gS → Prop) : Prop := ∀ σ, Inv σ → ∀ (f : Nat → Int64) (x1 : Int32) (x2 : Int32), ∃ (k : Int32) (r : Int32) (f1 : Nat → Int64) (σ1 σ2 : gS), (L_lift σ f x1 x2 = some (k, f1, σ1)) ∧ (X7_lift σ1 x1 x2 = some (r, σ2)) ∧ (σ2 132 8 = k) ∧ (k = 0 → f1 0 = r.toInt64) ∧ Inv σ2
def o_reason (Inv : gS → Prop) : Prop := ∀ σ, Inv σ → ∀ (f : Nat → Int64), ∃ (k : Int32) (r : Int32) (f1 : Nat → Int64) (σ1 σ2 : gS), (L_reason σ f = some (k, f1, σ1)) ∧ (X7_reason σ1 = some (r, σ2)) ∧ (σ2 132 8 = k) ∧ (k = 0 → f1 0 = r.toInt64) ∧ Inv σ2
def o_tow (Inv : gS → Prop) : Prop := ∀ σ, Inv σ → ∀ (f : Nat → Int64) (x1 : Int32) (x2 : Int32), ∃ (k : Int32) (r : Int32) (f1 : Nat → Int64) (σ1 σ2 : gS), (L_tow σ f x1 x2 = some (k, f1, σ1)) ∧ (X7_tow_ σ1 x1 x2 = some (r, σ2)) ∧ (σ2 132 8 = k) ∧ (k = 0 → f1 0 = r.toInt64) ∧ Inv σ2
def o_untow (Inv : gS → Prop) : Prop := ∀ σ, Inv σ → ∀ (f : Nat → Int64) (x1 : Int32), ∃ (k : Int32) (r : Int32) (f1 : Nat → Int64) (σ1 σ2 : gS), (L_untow σ f x1 = some (k, f1, σ1)) ∧ (X7_untow σ1 x1 = some (r, σ2)) ∧ (σ2 132 8 = k) ∧ (k = 0 → f1 0 = r.toInt64) ∧ Inv σ2
def o_delay (Inv : gS → Prop) : Prop := ∀ σ, Inv σ → ∀ (f : Nat → Int64) (x1 : Int32) (x2 : Int32), ∃ (k : Int32) (r : Int32) (f1 : Nat → Int64) (σ1 σ2 : gS), (L_delay σ f x1 x2 = some (k, f1, σ1)) ∧ (X7_delay σ1 x1 x2 = some (r, σ2)) ∧ (σ2 132 8 = k) ∧ (k = 0 → f1 0 = r.toInt64) ∧ Inv σ2
def o_assignAll (Inv : gS → Prop) : Prop := ∀ σ, Inv σ → ∃ (r : Int32) (σ1 σ2 : gS), (X6_assignAll σ = some (r, σ1)) ∧ (X7_assignAll σ1 = some (r, σ2)) ∧ Inv σ2
def o_towGain (Inv : gS → Prop) : Prop := ∀ σ, Inv σ → ∀ (f : Nat → Int64) (x1 : Int32) (x2 : Int32), ∃ (k : Int32) (r : Int32) (f1 : Nat → Int64) (σ1 σ2 : gS), (L_towGain σ f x1 x2 = some (k, f1, σ1)) ∧ (X7_towGain σ1 x1 x2 = some (r, σ2)) ∧ (σ2 132 8 = k) ∧ (k = 0 → f1 0 = r.toInt64) ∧ Inv σ2
def o_leastMoves (Inv : gS → Prop) : Prop := ∀ σ, Inv σ → ∀ (f : Nat → Int64), ∃ (k : Int32) (r : Int32) (f1 : Nat → Int64) (σ1 σ2 : gS), (L_leastMoves σ f = some (k, f1, σ1)) ∧ (X7_leastMoves σ1 = some (r, σ2)) ∧ (σ2 132 8 = k) ∧ (k = 0 → f1 0 = r.toInt64) ∧ Inv σ2
def o_leastAgain (Inv : gS → Prop) : Prop := ∀ σ, Inv σ → ∀ (f : Nat → Int64), ∃ (k : Int32) (r : Int32) (f1 : Nat → Int64) (σ1 σ2 : gS), (L_leastAgain σ f = some (k, f1, σ1)) ∧ (X7_leastAgain σ1 = some (r, σ2)) ∧ (σ2 132 8 = k) ∧ (k = 0 → f1 0 = r.toInt64) ∧ Inv σ2
def o_moveOf (Inv : gS → Prop) : Prop := ∀ σ, Inv σ → ∀ (f : Nat → Int64) (x1 : Int32) (x2 : Int32), ∃ (k : Int32) (r : Int32) (f1 : Nat → Int64) (σ1 σ2 : gS), (L_moveOf σ f x1 (bx x2) = some (k, f1, σ1)) ∧ (X7_moveOf σ1 x1 (bx x2) = some (r, σ2)) ∧ (σ2 132 8 = k) ∧ (k = 0 → f1 0 = r.toInt64) ∧ Inv σ2
def o_repair (Inv : gS → Prop) : Prop := ∀ σ, Inv σ → ∀ (f : Nat → Int64), ∃ (k : Int32) (r : Int32) (f1 : Nat → Int64) (σ1 σ2 : gS), (L_repair σ f = some (k, f1, σ1)) ∧ (X7_repair σ1 = some (r, σ2)) ∧ (σ2 132 8 = k) ∧ (k = 0 → f1 0 = r.toInt64) ∧ Inv σ2
def o_conflicts (Inv : gS → Prop) : Prop := ∀ σ, Inv σ → ∃ (r : Int32) (σ2 : gS), (X6_conflicts σ = some r) ∧ (X7_conflicts σ = some (r, σ2)) ∧ Inv σ2
def o_account (Inv : gS → Prop) : Prop := ∀ σ, Inv σ → ∀ (f : Nat → Int64) (x1 : Int32), ∃ (k : Int32) (r : Int32) (f1 : Nat → Int64) (σ1 σ2 : gS), (L_account σ f x1 = some (k, f1, σ1)) ∧ (X7_account σ1 x1 = some (r, σ2)) ∧ (σ2 132 8 = k) ∧ (k = 0 → f1 0 = r.toInt64) ∧ Inv σ2
def o_minutes (Inv : gS → Prop) : Prop := ∀ σ, Inv σ → ∃ (r : Int32) (σ1 σ2 : gS), (X6_minutes σ = some (r, σ1)) ∧ (X7_minutes σ1 = some (r, σ2)) ∧ Inv σ2
def o_peak (Inv : gS → Prop) : Prop := ∀ σ, Inv σ → ∀ (x1 : Int32), ∃ (r : Int32) (σ2 : gS), (X6_peak σ (bx x1) = some r) ∧ (X7_peak σ (bx x1) = some (r, σ2)) ∧ Inv σ2
def o_meanCost (Inv : gS → Prop) : Prop := ∀ σ, Inv σ → ∀ (fd : Nat → UInt64), ∃ (k : Int32) (r : UInt32) (f1 : Nat → UInt64) (σ1 σ2 : gS), (L_meanCost σ fd = some (k, f1, σ1)) ∧ (X7_meanCost σ1 = some (r, σ2)) ∧ (σ2 132 8 = k) ∧ (k = 0 → Op.cmpValue (FP.dcmp (f1 0) (FP.f2d r)) CmpOp.l = 0 ∧ n64 (FP.f2d r) = true) ∧ Inv σ2
def o_append (Inv : gS → Prop) : Prop := ∀ σ, Inv σ → ∀ (f : Nat → Int64) (x1 : Int32), ∃ (k : Int32) (r : Int32) (f1 : Nat → Int64) (σ1 σ2 : gS), (L_append σ f (jc x1) = some (k, f1, σ1)) ∧ (X7_append σ1 (jc x1) = some (r, σ2)) ∧ (σ2 132 8 = k) ∧ (k = 0 → f1 0 = r.toInt64) ∧ Inv σ2
def o_read (Inv : gS → Prop) : Prop := ∀ σ, Inv σ → ∀ (f : Nat → Int64), ∃ (k : Int32) (r : Int32) (f1 : Nat → Int64) (σ1 σ2 : gS), (L_read σ f = some (k, f1, σ1)) ∧ (X7_read σ1 = some (r, σ2)) ∧ (σ2 132 8 = k) ∧ (k = 0 → f1 0 = r.toInt64) ∧ Inv σ2
def o_errorPosition (Inv : gS → Prop) : Prop := ∀ σ, Inv σ → ∀ (f : Nat → Int64), ∃ (k : Int32) (r : Int32) (f1 : Nat → Int64) (σ1 σ2 : gS), (L_errorPosition σ f = some (k, f1, σ1)) ∧ (X7_errorPosition σ1 = some (r, σ2)) ∧ (σ2 132 8 = k) ∧ (k = 0 → f1 0 = r.toInt64) ∧ Inv σ2
def o_undo (Inv : gS → Prop) : Prop := ∀ σ, Inv σ → ∀ (f : Nat → Int64), ∃ (k : Int32) (r : Int32) (f1 : Nat → Int64) (σ1 σ2 : gS), (L_undo σ f = some (k, f1, σ1)) ∧ (X7_undo σ1 = some (r, σ2)) ∧ (σ2 132 8 = k) ∧ (k = 0 → f1 0 = r.toInt64) ∧ Inv σ2
def o_save (Inv : gS → Prop) : Prop := ∀ σ, Inv σ → ∃ (r : Int32) (σ1 σ2 : gS), (X6_save σ = some (r, σ1)) ∧ (X7_save σ1 = some (r, σ2)) ∧ Inv σ2
def o_restore (Inv : gS → Prop) : Prop := ∀ σ, Inv σ → ∀ (f : Nat → Int64), ∃ (k : Int32) (r : Int32) (f1 : Nat → Int64) (σ1 σ2 : gS), (L_restore σ f = some (k, f1, σ1)) ∧ (X7_restore σ1 = some (r, σ2)) ∧ (σ2 132 8 = k) ∧ (k = 0 → f1 0 = r.toInt64) ∧ Inv σ2
theorem w_in {t L : Nat} {j : Nat} (hj : j < 5) (h : 5 * t + 5 ≤ L) (hL : L ≤ 2560) : vp_in (nI (5 * t) + nI j) L := by
  rw [nI_add]
  exact vp_in_iff.mpr ⟨by rw [nI_toInt (by omega)]; omega, by rw [nI_toInt (by omega)]; omega⟩
theorem w_sub5 {L : Nat} (hL : L ≤ 2560) : (Int32.ofNat L - 5).toInt = (L : Int) - 5 := pk_sub_toInt (a := L) (b := 5) (by omega) (by omega)
section LWL
variable {p : Program} {l : Launch} {e : Env} {s : State} {m : MethodId} {below : List Frame} {meth : Method} {c : Code} {Q : State → Prop}
variable {b L oa od : Nat} {xs : Nat → Int32} {D : va_G} {y : ClassId × ClassId × ClassId} {cL cD : ClassId} {ad : Nat → Nat}
set_option maxHeartbeats 4000000 in
set_option maxRecDepth 100000 in
theorem w_loop (hfl : l.stackTraces = false) (G : g_lw p s m c b L xs D y cL cD) (hL : L ≤ 2560) {Inv : gS → Prop}
    (h_clear : o_clear Inv)
    (h_addStand : o_addStand Inv)
    (h_pair : o_pair Inv)
    (h_setOpen : o_setOpen Inv)
    (h_setBuffer : o_setBuffer Inv)
    (h_stand : o_stand Inv)
    (h_at : o_at Inv)
    (h_gap : o_gap Inv)
    (h_addTurn : o_addTurn Inv)
    (h_turn : o_turn Inv)
    (h_ofStay : o_ofStay Inv)
    (h_place : o_place Inv)
    (h_whyNot : o_whyNot Inv)
    (h_options : o_options Inv)
    (h_cheapest : o_cheapest Inv)
    (h_lift : o_lift Inv)
    (h_reason : o_reason Inv)
    (h_tow : o_tow Inv)
    (h_untow : o_untow Inv)
    (h_delay : o_delay Inv)
    (h_assignAll : o_assignAll Inv)
    (h_towGain : o_towGain Inv)
    (h_leastMoves : o_leastMoves Inv)
    (h_leastAgain : o_leastAgain Inv)
    (h_moveOf : o_moveOf Inv)
    (h_repair : o_repair Inv)
    (h_conflicts : o_conflicts Inv)
    (h_account : o_account Inv)
    (h_minutes : o_minutes Inv)
    (h_peak : o_peak Inv)
    (h_meanCost : o_meanCost Inv)
    (h_append : o_append Inv)
    (h_read : o_read Inv)
    (h_errorPosition : o_errorPosition Inv)
    (h_undo : o_undo Inv)
    (h_save : o_save Inv)
    (h_restore : o_restore Inv)
    {C0 S0 : Nat} (hC0 : C0 + 600 ≤ 603072) (hS0 : S0 + 6000 ≤ 7186538)
    (kx : ∀ (ls : Array Slot) (H : Heap) (locs : List Loc) (cells slots : Nat) (f : Nat → Int64) (fd : Nat → UInt64) (σ : gS), cells ≤ 603072 → slots ≤ 7186538 → g_W (fun q => s.heap.size ≤ q) s.heap D y ad (g_X2 cL cD oa od f fd) σ H locs → W p l e room_1 s m #[Value.ref b] below meth c H locs cells slots Q (F0 m 2299 ls [])) :
    ∀ (N t : Nat), t + N = 513 → ∀ (ls : Array Slot) (H : Heap) (locs : List Loc) (cells slots : Nat) (f : Nat → Int64) (fd : Nat → UInt64) (σ : gS), Inv σ → cells ≤ C0 + t → slots ≤ S0 + 6 * t → lv_has ls 8 (g_ll b oa od ad (nI (5 * t))) → g_W (fun q => s.heap.size ≤ q) s.heap D y ad (g_X2 cL cD oa od f fd) σ H locs → W p l e room_1 s m #[Value.ref b] below meth c H locs cells slots Q (F0 m 28 ls []) := by
  intro N
  induction N with
  | zero =>
    intro t ht ls H locs cells slots f fd σ hI hc hs hl hW
    have hx := G.1.1
    have hcd := G.1.2.1
    obtain ⟨hC, hKL, hKD, hY, hX, hbl⟩ := G
    have hbA : ¬ (s.heap.size ≤ b) := Nat.not_le.mpr hbl
    refine lv_iload hx hcd dL_law_28 (lv_at hl 5 rfl) ?_
    refine lv_aload_n hx hcd dL_law_30 rfl (lv_at hl 0 rfl) ?_
    refine va_slen hx hcd hX hbl hbA hW.2.2.1 dL_law_31 ?_
    refine lv_iconst (v := 5) hx hcd dL_law_32 (by decide) ?_
    refine lv_isub hx hcd dL_law_33 ?_
    have e2 := nI_toInt (n := 5 * t) (by omega)
    have e3 := w_sub5 hL
    refine lv_icmp_gt (tgt := 2299) hx hcd dL_law_34 (by decide) (fun _ => kx _ _ _ _ _ _ _ _ (by omega) (by omega) hW) (fun c1 => absurd (Int32.lt_iff_toInt_lt.mpr (by rw [e2, e3]; omega)) c1)
  | succ N ih =>
    intro t ht ls H locs cells slots f fd σ hI hc hs hl hW
    have hx := G.1.1
    have hcd := G.1.2.1
    have hX := G.2.2.2.2.1
    have hbl := G.2.2.2.2.2
    have hbA : ¬ (s.heap.size ≤ b) := Nat.not_le.mpr hbl
    have e2 := nI_toInt (n := 5 * t) (by omega)
    have e3 := w_sub5 hL
    have nx : ∀ (f : Nat → Int64) (fd : Nat → UInt64) (σ : gS), Inv σ → ∀ (ls : Array Slot) (H : Heap) (locs : List Loc), lv_has ls 8 (g_ll b oa od ad (nI (5 * t))) → g_W (fun q => s.heap.size ≤ q) s.heap D y ad (g_X2 cL cD oa od f fd) σ H locs → W p l e room_1 s m #[Value.ref b] below meth c H locs (cells + 1) (slots + 6) Q (F0 m 2293 ls []) := by
      intro f fd σ hI ls H locs hl hW
      refine lv_iinc (k := 5) (v := nI (5 * (t + 1))) (lv' := [(5, .int (nI (5 * (t + 1)))), (0, .ref b), (1, .ref (ad 0)), (2, .ref (ad 132)), (3, .ref oa), (4, .ref od)]) hx hcd dL_law_2293 hl rfl (nI_add (5 * t) 5) (by decide) rfl (fun ls hl => ?_)
      refine lv_goto (tgt := 28) hx hcd dL_law_2296 (by decide) ?_
      exact ih (t + 1) (by omega) ls H locs (cells + 1) (slots + 6) f fd σ hI (by omega) (by omega) (lv_sub hl [1, 2, 3, 4, 5, 0] rfl) hW
    refine lv_iload hx hcd dL_law_28 (lv_at hl 5 rfl) ?_
    refine lv_aload_n hx hcd dL_law_30 rfl (lv_at hl 0 rfl) ?_
    refine va_slen hx hcd hX hbl hbA hW.2.2.1 dL_law_31 ?_
    refine lv_iconst (v := 5) hx hcd dL_law_32 (by decide) ?_
    refine lv_isub hx hcd dL_law_33 ?_
    refine lv_icmp_gt (tgt := 2299) hx hcd dL_law_34 (by decide) (fun _ => kx _ _ _ _ _ _ _ _ (by omega) (by omega) hW) (fun c1 => ?_)
    have c2 : 5 * t + 5 ≤ L := by
      rw [Int32.lt_iff_toInt_lt, e2, e3] at c1
      omega
    have hin : vp_in (nI (5 * t)) L ∧ vp_in (nI (5 * t) + 1) L ∧ vp_in (nI (5 * t) + 2) L ∧ vp_in (nI (5 * t) + 3) L ∧ vp_in (nI (5 * t) + 4) L :=
      ⟨vp_in_nI (by omega) (by omega), w_in (j := 1) (by omega) c2 hL, w_in (j := 2) (by omega) c2 hL, w_in (j := 3) (by omega) c2 hL, w_in (j := 4) (by omega) c2 hL⟩
    have hcs : cells + 1 ≤ 603072 ∧ slots + 6 ≤ 7186538 := ⟨by omega, by omega⟩
    refine lv_aload_n hx hcd dL_law_37 rfl (lv_at hl 0 rfl) ?_
    refine lv_iload hx hcd dL_law_38 (lv_at hl 5 rfl) ?_
    refine va_sld hx hcd hX hbl hbA hW.2.2.1 hin.1 dL_law_40 ?_
    refine lv_bipush (v := 63) hx hcd dL_law_41 (by decide) ?_
    refine lv_iand hx hcd dL_law_43 ?_
    generalize (xs (nI (5 * t)).toNatClampNeg &&& 63) = v
    by_cases hv : 0 ≤ v.toInt ∧ v.toInt ≤ 36
    · have hv2 : v.toInt = 0 ∨ v.toInt = 1 ∨ v.toInt = 2 ∨ v.toInt = 3 ∨ v.toInt = 4 ∨ v.toInt = 5 ∨ v.toInt = 6 ∨ v.toInt = 7 ∨ v.toInt = 8 ∨ v.toInt = 9 ∨ v.toInt = 10 ∨ v.toInt = 11 ∨ v.toInt = 12 ∨ v.toInt = 13 ∨ v.toInt = 14 ∨ v.toInt = 15 ∨ v.toInt = 16 ∨ v.toInt = 17 ∨ v.toInt = 18 ∨ v.toInt = 19 ∨ v.toInt = 20 ∨ v.toInt = 21 ∨ v.toInt = 22 ∨ v.toInt = 23 ∨ v.toInt = 24 ∨ v.toInt = 25 ∨ v.toInt = 26 ∨ v.toInt = 27 ∨ v.toInt = 28 ∨ v.toInt = 29 ∨ v.toInt = 30 ∨ v.toInt = 31 ∨ v.toInt = 32 ∨ v.toInt = 33 ∨ v.toInt = 34 ∨ v.toInt = 35 ∨ v.toInt = 36 := by omega
      rcases hv2 with h | h | h | h | h | h | h | h | h | h | h | h | h | h | h | h | h | h | h | h | h | h | h | h | h | h | h | h | h | h | h | h | h | h | h | h | h
      · refine lv_tableIn (off := 164) (tgt := 208) hx hcd dL_law_44 (by omega) (by omega) (by rw [h]; rfl) (by decide) ?_
        obtain ⟨r, σ1, σ2, h1, h2, hJ⟩ := h_clear σ hI
        exact w_clear hfl G hl hW hin hcs h1 h2 (nx f fd σ2 hJ)
      · refine lv_tableIn (off := 177) (tgt := 221) hx hcd dL_law_44 (by omega) (by omega) (by rw [h]; rfl) (by decide) ?_
        obtain ⟨k, r, f1, σ1, σ2, h1, h2, h3, h4, hJ⟩ := h_addStand σ hI f (xs (nI (5 * t) + 1).toNatClampNeg) (xs (nI (5 * t) + 2).toNatClampNeg)
        exact w_addStand hfl G hl hW hin hcs h1 h2 h3 h4 (nx f1 fd σ2 hJ)
      · refine lv_tableIn (off := 245) (tgt := 289) hx hcd dL_law_44 (by omega) (by omega) (by rw [h]; rfl) (by decide) ?_
        obtain ⟨k, r, f1, σ1, σ2, h1, h2, h3, h4, hJ⟩ := h_pair σ hI f (xs (nI (5 * t) + 1).toNatClampNeg) (xs (nI (5 * t) + 2).toNatClampNeg) (xs (nI (5 * t) + 3).toNatClampNeg)
        exact w_pair hfl G hl hW hin hcs h1 h2 h3 h4 (nx f1 fd σ2 hJ)
      · refine lv_tableIn (off := 325) (tgt := 369) hx hcd dL_law_44 (by omega) (by omega) (by rw [h]; rfl) (by decide) ?_
        obtain ⟨k, r, f1, σ1, σ2, h1, h2, h3, h4, hJ⟩ := h_setOpen σ hI f (xs (nI (5 * t) + 1).toNatClampNeg) (xs (nI (5 * t) + 2).toNatClampNeg)
        exact w_setOpen hfl G hl hW hin hcs h1 h2 h3 h4 (nx f1 fd σ2 hJ)
      · refine lv_tableIn (off := 416) (tgt := 460) hx hcd dL_law_44 (by omega) (by omega) (by rw [h]; rfl) (by decide) ?_
        obtain ⟨k, r, f1, σ1, σ2, h1, h2, h3, h4, hJ⟩ := h_setBuffer σ hI f (xs (nI (5 * t) + 1).toNatClampNeg)
        exact w_setBuffer hfl G hl hW hin hcs h1 h2 h3 h4 (nx f1 fd σ2 hJ)
      · refine lv_tableIn (off := 472) (tgt := 516) hx hcd dL_law_44 (by omega) (by omega) (by rw [h]; rfl) (by decide) ?_
        obtain ⟨k, r, f1, σ1, σ2, h1, h2, h3, h4, hJ⟩ := h_stand σ hI f (xs (nI (5 * t) + 1).toNatClampNeg) (xs (nI (5 * t) + 2).toNatClampNeg)
        exact w_stand hfl G hl hW hin hcs h1 h2 h3 h4 (nx f1 fd σ2 hJ)
      · refine lv_tableIn (off := 540) (tgt := 584) hx hcd dL_law_44 (by omega) (by omega) (by rw [h]; rfl) (by decide) ?_
        obtain ⟨k, r, f1, σ1, σ2, h1, h2, h3, h4, hJ⟩ := h_at σ hI f (xs (nI (5 * t) + 1).toNatClampNeg) (xs (nI (5 * t) + 2).toNatClampNeg)
        exact w_at hfl G hl hW hin hcs h1 h2 h3 h4 (nx f1 fd σ2 hJ)
      · refine lv_tableIn (off := 608) (tgt := 652) hx hcd dL_law_44 (by omega) (by omega) (by rw [h]; rfl) (by decide) ?_
        obtain ⟨k, r, f1, σ1, σ2, h1, h2, h3, h4, hJ⟩ := h_gap σ hI f (xs (nI (5 * t) + 1).toNatClampNeg) (xs (nI (5 * t) + 2).toNatClampNeg)
        exact w_gap hfl G hl hW hin hcs h1 h2 h3 h4 (nx f1 fd σ2 hJ)
      · refine lv_tableIn (off := 676) (tgt := 720) hx hcd dL_law_44 (by omega) (by omega) (by rw [h]; rfl) (by decide) ?_
        obtain ⟨k, r, f1, σ1, σ2, h1, h2, h3, h4, hJ⟩ := h_addTurn σ hI f (xs (nI (5 * t) + 1).toNatClampNeg) (xs (nI (5 * t) + 2).toNatClampNeg) (xs (nI (5 * t) + 3).toNatClampNeg) (xs (nI (5 * t) + 4).toNatClampNeg)
        exact w_addTurn hfl G hl hW hin hcs h1 h2 h3 h4 (nx f1 fd σ2 hJ)
      · refine lv_tableIn (off := 768) (tgt := 812) hx hcd dL_law_44 (by omega) (by omega) (by rw [h]; rfl) (by decide) ?_
        obtain ⟨k, r, f1, σ1, σ2, h1, h2, h3, h4, hJ⟩ := h_turn σ hI f (xs (nI (5 * t) + 1).toNatClampNeg) (xs (nI (5 * t) + 2).toNatClampNeg)
        exact w_turn hfl G hl hW hin hcs h1 h2 h3 h4 (nx f1 fd σ2 hJ)
      · refine lv_tableIn (off := 836) (tgt := 880) hx hcd dL_law_44 (by omega) (by omega) (by rw [h]; rfl) (by decide) ?_
        obtain ⟨k, r, f1, σ1, σ2, h1, h2, h3, h4, hJ⟩ := h_ofStay σ hI f (xs (nI (5 * t) + 1).toNatClampNeg) (xs (nI (5 * t) + 2).toNatClampNeg) (xs (nI (5 * t) + 3).toNatClampNeg)
        exact w_ofStay hfl G hl hW hin hcs h1 h2 h3 h4 (nx f1 fd σ2 hJ)
      · refine lv_tableIn (off := 916) (tgt := 960) hx hcd dL_law_44 (by omega) (by omega) (by rw [h]; rfl) (by decide) ?_
        obtain ⟨k, r, f1, σ1, σ2, h1, h2, h3, h4, hJ⟩ := h_place σ hI f (xs (nI (5 * t) + 1).toNatClampNeg) (xs (nI (5 * t) + 2).toNatClampNeg) (xs (nI (5 * t) + 3).toNatClampNeg)
        exact w_place hfl G hl hW hin hcs h1 h2 h3 h4 (nx f1 fd σ2 hJ)
      · refine lv_tableIn (off := 996) (tgt := 1040) hx hcd dL_law_44 (by omega) (by omega) (by rw [h]; rfl) (by decide) ?_
        obtain ⟨k, r, f1, σ1, σ2, h1, h2, h3, h4, hJ⟩ := h_whyNot σ hI f (xs (nI (5 * t) + 1).toNatClampNeg) (xs (nI (5 * t) + 2).toNatClampNeg) (xs (nI (5 * t) + 3).toNatClampNeg)
        exact w_whyNot hfl G hl hW hin hcs h1 h2 h3 h4 (nx f1 fd σ2 hJ)
      · refine lv_tableIn (off := 1076) (tgt := 1120) hx hcd dL_law_44 (by omega) (by omega) (by rw [h]; rfl) (by decide) ?_
        obtain ⟨k, r, f1, σ1, σ2, h1, h2, h3, h4, hJ⟩ := h_options σ hI f (xs (nI (5 * t) + 1).toNatClampNeg) (xs (nI (5 * t) + 2).toNatClampNeg)
        exact w_options hfl G hl hW hin hcs h1 h2 h3 h4 (nx f1 fd σ2 hJ)
      · refine lv_tableIn (off := 1144) (tgt := 1188) hx hcd dL_law_44 (by omega) (by omega) (by rw [h]; rfl) (by decide) ?_
        obtain ⟨k, r, f1, σ1, σ2, h1, h2, h3, h4, hJ⟩ := h_cheapest σ hI f (xs (nI (5 * t) + 1).toNatClampNeg) (xs (nI (5 * t) + 2).toNatClampNeg)
        exact w_cheapest hfl G hl hW hin hcs h1 h2 h3 h4 (nx f1 fd σ2 hJ)
      · refine lv_tableIn (off := 1212) (tgt := 1256) hx hcd dL_law_44 (by omega) (by omega) (by rw [h]; rfl) (by decide) ?_
        obtain ⟨k, r, f1, σ1, σ2, h1, h2, h3, h4, hJ⟩ := h_lift σ hI f (xs (nI (5 * t) + 1).toNatClampNeg) (xs (nI (5 * t) + 2).toNatClampNeg)
        exact w_lift hfl G hl hW hin hcs h1 h2 h3 h4 (nx f1 fd σ2 hJ)
      · refine lv_tableIn (off := 1280) (tgt := 1324) hx hcd dL_law_44 (by omega) (by omega) (by rw [h]; rfl) (by decide) ?_
        obtain ⟨k, r, f1, σ1, σ2, h1, h2, h3, h4, hJ⟩ := h_reason σ hI f
        exact w_reason hfl G hl hW hin hcs h1 h2 h3 h4 (nx f1 fd σ2 hJ)
      · refine lv_tableIn (off := 1324) (tgt := 1368) hx hcd dL_law_44 (by omega) (by omega) (by rw [h]; rfl) (by decide) ?_
        obtain ⟨k, r, f1, σ1, σ2, h1, h2, h3, h4, hJ⟩ := h_tow σ hI f (xs (nI (5 * t) + 1).toNatClampNeg) (xs (nI (5 * t) + 2).toNatClampNeg)
        exact w_tow hfl G hl hW hin hcs h1 h2 h3 h4 (nx f1 fd σ2 hJ)
      · refine lv_tableIn (off := 1392) (tgt := 1436) hx hcd dL_law_44 (by omega) (by omega) (by rw [h]; rfl) (by decide) ?_
        obtain ⟨k, r, f1, σ1, σ2, h1, h2, h3, h4, hJ⟩ := h_untow σ hI f (xs (nI (5 * t) + 1).toNatClampNeg)
        exact w_untow hfl G hl hW hin hcs h1 h2 h3 h4 (nx f1 fd σ2 hJ)
      · refine lv_tableIn (off := 1448) (tgt := 1492) hx hcd dL_law_44 (by omega) (by omega) (by rw [h]; rfl) (by decide) ?_
        obtain ⟨k, r, f1, σ1, σ2, h1, h2, h3, h4, hJ⟩ := h_delay σ hI f (xs (nI (5 * t) + 1).toNatClampNeg) (xs (nI (5 * t) + 2).toNatClampNeg)
        exact w_delay hfl G hl hW hin hcs h1 h2 h3 h4 (nx f1 fd σ2 hJ)
      · refine lv_tableIn (off := 1516) (tgt := 1560) hx hcd dL_law_44 (by omega) (by omega) (by rw [h]; rfl) (by decide) ?_
        obtain ⟨r, σ1, σ2, h1, h2, hJ⟩ := h_assignAll σ hI
        exact w_assignAll hfl G hl hW hin hcs h1 h2 (nx f fd σ2 hJ)
      · refine lv_tableIn (off := 1529) (tgt := 1573) hx hcd dL_law_44 (by omega) (by omega) (by rw [h]; rfl) (by decide) ?_
        obtain ⟨k, r, f1, σ1, σ2, h1, h2, h3, h4, hJ⟩ := h_towGain σ hI f (xs (nI (5 * t) + 1).toNatClampNeg) (xs (nI (5 * t) + 2).toNatClampNeg)
        exact w_towGain hfl G hl hW hin hcs h1 h2 h3 h4 (nx f1 fd σ2 hJ)
      · refine lv_tableIn (off := 1597) (tgt := 1641) hx hcd dL_law_44 (by omega) (by omega) (by rw [h]; rfl) (by decide) ?_
        obtain ⟨k, r, f1, σ1, σ2, h1, h2, h3, h4, hJ⟩ := h_leastMoves σ hI f
        exact w_leastMoves hfl G hl hW hin hcs h1 h2 h3 h4 (nx f1 fd σ2 hJ)
      · refine lv_tableIn (off := 1641) (tgt := 1685) hx hcd dL_law_44 (by omega) (by omega) (by rw [h]; rfl) (by decide) ?_
        obtain ⟨k, r, f1, σ1, σ2, h1, h2, h3, h4, hJ⟩ := h_leastAgain σ hI f
        exact w_leastAgain hfl G hl hW hin hcs h1 h2 h3 h4 (nx f1 fd σ2 hJ)
      · refine lv_tableIn (off := 1685) (tgt := 1729) hx hcd dL_law_44 (by omega) (by omega) (by rw [h]; rfl) (by decide) ?_
        obtain ⟨k, r, f1, σ1, σ2, h1, h2, h3, h4, hJ⟩ := h_moveOf σ hI f (xs (nI (5 * t) + 1).toNatClampNeg) (xs (nI (5 * t) + 2).toNatClampNeg)
        exact w_moveOf hfl G hl hW hin hcs h1 h2 h3 h4 (nx f1 fd σ2 hJ)
      · refine lv_tableIn (off := 1769) (tgt := 1813) hx hcd dL_law_44 (by omega) (by omega) (by rw [h]; rfl) (by decide) ?_
        obtain ⟨k, r, f1, σ1, σ2, h1, h2, h3, h4, hJ⟩ := h_repair σ hI f
        exact w_repair hfl G hl hW hin hcs h1 h2 h3 h4 (nx f1 fd σ2 hJ)
      · refine lv_tableIn (off := 1813) (tgt := 1857) hx hcd dL_law_44 (by omega) (by omega) (by rw [h]; rfl) (by decide) ?_
        obtain ⟨r, σ2, h1, h2, hJ⟩ := h_conflicts σ hI
        exact w_conflicts hfl G hl hW hin hcs h1 h2 (nx f fd σ2 hJ)
      · refine lv_tableIn (off := 1826) (tgt := 1870) hx hcd dL_law_44 (by omega) (by omega) (by rw [h]; rfl) (by decide) ?_
        obtain ⟨k, r, f1, σ1, σ2, h1, h2, h3, h4, hJ⟩ := h_account σ hI f (xs (nI (5 * t) + 1).toNatClampNeg)
        exact w_account hfl G hl hW hin hcs h1 h2 h3 h4 (nx f1 fd σ2 hJ)
      · refine lv_tableIn (off := 1882) (tgt := 1926) hx hcd dL_law_44 (by omega) (by omega) (by rw [h]; rfl) (by decide) ?_
        obtain ⟨r, σ1, σ2, h1, h2, hJ⟩ := h_minutes σ hI
        exact w_minutes hfl G hl hW hin hcs h1 h2 (nx f fd σ2 hJ)
      · refine lv_tableIn (off := 1895) (tgt := 1939) hx hcd dL_law_44 (by omega) (by omega) (by rw [h]; rfl) (by decide) ?_
        obtain ⟨r, σ2, h1, h2, hJ⟩ := h_peak σ hI (xs (nI (5 * t) + 1).toNatClampNeg)
        exact w_peak hfl G hl hW hin hcs h1 h2 (nx f fd σ2 hJ)
      · refine lv_tableIn (off := 1936) (tgt := 1980) hx hcd dL_law_44 (by omega) (by omega) (by rw [h]; rfl) (by decide) ?_
        obtain ⟨k, r, f1, σ1, σ2, h1, h2, h3, h4, hJ⟩ := h_meanCost σ hI fd
        exact w_meanCost hfl G hl hW hin hcs h1 h2 h3 h4 (nx f f1 σ2 hJ)
      · refine lv_tableIn (off := 2002) (tgt := 2046) hx hcd dL_law_44 (by omega) (by omega) (by rw [h]; rfl) (by decide) ?_
        obtain ⟨k, r, f1, σ1, σ2, h1, h2, h3, h4, hJ⟩ := h_append σ hI f (xs (nI (5 * t) + 1).toNatClampNeg)
        exact w_append hfl G hl hW hin hcs h1 h2 h3 h4 (nx f1 fd σ2 hJ)
      · refine lv_tableIn (off := 2060) (tgt := 2104) hx hcd dL_law_44 (by omega) (by omega) (by rw [h]; rfl) (by decide) ?_
        obtain ⟨k, r, f1, σ1, σ2, h1, h2, h3, h4, hJ⟩ := h_read σ hI f
        exact w_read hfl G hl hW hin hcs h1 h2 h3 h4 (nx f1 fd σ2 hJ)
      · refine lv_tableIn (off := 2104) (tgt := 2148) hx hcd dL_law_44 (by omega) (by omega) (by rw [h]; rfl) (by decide) ?_
        obtain ⟨k, r, f1, σ1, σ2, h1, h2, h3, h4, hJ⟩ := h_errorPosition σ hI f
        exact w_errorPosition hfl G hl hW hin hcs h1 h2 h3 h4 (nx f1 fd σ2 hJ)
      · refine lv_tableIn (off := 2148) (tgt := 2192) hx hcd dL_law_44 (by omega) (by omega) (by rw [h]; rfl) (by decide) ?_
        obtain ⟨k, r, f1, σ1, σ2, h1, h2, h3, h4, hJ⟩ := h_undo σ hI f
        exact w_undo hfl G hl hW hin hcs h1 h2 h3 h4 (nx f1 fd σ2 hJ)
      · refine lv_tableIn (off := 2192) (tgt := 2236) hx hcd dL_law_44 (by omega) (by omega) (by rw [h]; rfl) (by decide) ?_
        obtain ⟨r, σ1, σ2, h1, h2, hJ⟩ := h_save σ hI
        exact w_save hfl G hl hW hin hcs h1 h2 (nx f fd σ2 hJ)
      · refine lv_tableIn (off := 2205) (tgt := 2249) hx hcd dL_law_44 (by omega) (by omega) (by rw [h]; rfl) (by decide) ?_
        obtain ⟨k, r, f1, σ1, σ2, h1, h2, h3, h4, hJ⟩ := h_restore σ hI f
        exact w_restore hfl G hl hW hin hcs h1 h2 h3 h4 (nx f1 fd σ2 hJ)
    · refine lv_tableOut (tgt := 2293) hx hcd dL_law_44 (by omega) (by decide) ?_
      exact W.widen (Nat.le_add_right _ 1) (Nat.le_add_right _ 6) (nx f fd σ hI _ _ _ hl hW)
end LWL
