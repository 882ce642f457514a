/-! ===== the law's helpers, by what the method gives ===== -/
theorem qup0 (f : Nat → Int64) (v : Int64) : vp_updL f 0 v 0 = v := by unfold vp_updL; simp
theorem qL_addStand_r {σ σ1 : gS} (f : Nat → Int64) {x1 x2 : Int32} {r : Int32} (h : X6_addStand σ x1 x2 = some (.inr r, σ1)) : L_addStand σ f x1 x2 = some (0, vp_updL f 0 r.toInt64, σ1) := by
  unfold L_addStand
  rw [h]
  rfl
theorem qL_addStand_1 {σ σ1 : gS} (f : Nat → Int64) {x1 x2 : Int32} (h : X6_addStand σ x1 x2 = some (.inl "java/lang/IllegalArgumentException", σ1)) : L_addStand σ f x1 x2 = some (1, f, σ1) := by
  unfold L_addStand
  rw [h, qs]
  show (if _ = _ then _ else _) = _
  rw [if_pos rfl]
theorem qL_addStand_2 {σ σ1 : gS} (f : Nat → Int64) {x1 x2 : Int32} (h : X6_addStand σ x1 x2 = some (.inl "java/lang/IllegalStateException", σ1)) : L_addStand σ f x1 x2 = some (2, f, σ1) := by
  unfold L_addStand
  rw [h, qs]
  show (if _ = _ then _ else _) = _
  rw [if_neg (by decide), if_pos rfl]
theorem qL_pair_r {σ σ1 : gS} (f : Nat → Int64) {x1 x2 x3 : Int32} {r : Int32} (h : X6_pair σ x1 x2 x3 = some (.inr r, σ1)) : L_pair σ f x1 x2 x3 = some (0, vp_updL f 0 r.toInt64, σ1) := by
  unfold L_pair
  rw [h]
  rfl
theorem qL_pair_1 {σ σ1 : gS} (f : Nat → Int64) {x1 x2 x3 : Int32} (h : X6_pair σ x1 x2 x3 = some (.inl "java/lang/IndexOutOfBoundsException", σ1)) : L_pair σ f x1 x2 x3 = some (1, f, σ1) := by
  unfold L_pair
  rw [h, qs]
  show (if _ = _ then _ else _) = _
  rw [if_pos rfl]
theorem qL_pair_2 {σ σ1 : gS} (f : Nat → Int64) {x1 x2 x3 : Int32} (h : X6_pair σ x1 x2 x3 = some (.inl "java/lang/IllegalArgumentException", σ1)) : L_pair σ f x1 x2 x3 = some (2, f, σ1) := by
  unfold L_pair
  rw [h, qs]
  show (if _ = _ then _ else _) = _
  rw [if_neg (by decide), if_pos rfl]
theorem qL_setOpen_r {σ σ1 : gS} (f : Nat → Int64) {x1 x2 : Int32} {r : Int32} (h : X6_setOpen σ x1 x2 = some (.inr r, σ1)) : L_setOpen σ f x1 x2 = some (0, vp_updL f 0 (if r = 0 then 0 else 1), σ1) := by
  unfold L_setOpen
  rw [h]
  rfl
theorem qL_setOpen_1 {σ σ1 : gS} (f : Nat → Int64) {x1 x2 : Int32} (h : X6_setOpen σ x1 x2 = some (.inl "java/lang/IndexOutOfBoundsException", σ1)) : L_setOpen σ f x1 x2 = some (1, f, σ1) := by
  unfold L_setOpen
  rw [h, qs]
  show (if _ = _ then _ else _) = _
  rw [if_pos rfl]
theorem qL_setBuffer_r {σ σ1 : gS} (f : Nat → Int64) {x1 : Int32} {r : Int32} (h : X6_setBuffer σ x1 = some (.inr r, σ1)) : L_setBuffer σ f x1 = some (0, vp_updL f 0 r.toInt64, σ1) := by
  unfold L_setBuffer
  rw [h]
  rfl
theorem qL_setBuffer_1 {σ σ1 : gS} (f : Nat → Int64) {x1 : Int32} (h : X6_setBuffer σ x1 = some (.inl "java/lang/IllegalArgumentException", σ1)) : L_setBuffer σ f x1 = some (1, f, σ1) := by
  unfold L_setBuffer
  rw [h, qs]
  show (if _ = _ then _ else _) = _
  rw [if_pos rfl]
theorem qL_stand_r {σ σ1 : gS} (f : Nat → Int64) {x1 x2 : Int32} {r : Int32} (h : X6_stand σ x1 x2 = some (.inr r, σ1)) : L_stand σ f x1 x2 = some (0, vp_updL f 0 r.toInt64, σ1) := by
  unfold L_stand
  rw [h]
  rfl
theorem qL_stand_1 {σ σ1 : gS} (f : Nat → Int64) {x1 x2 : Int32} (h : X6_stand σ x1 x2 = some (.inl "java/lang/IndexOutOfBoundsException", σ1)) : L_stand σ f x1 x2 = some (1, f, σ1) := by
  unfold L_stand
  rw [h, qs]
  show (if _ = _ then _ else _) = _
  rw [if_pos rfl]
theorem qL_stand_2 {σ σ1 : gS} (f : Nat → Int64) {x1 x2 : Int32} (h : X6_stand σ x1 x2 = some (.inl "java/lang/IllegalArgumentException", σ1)) : L_stand σ f x1 x2 = some (2, f, σ1) := by
  unfold L_stand
  rw [h, qs]
  show (if _ = _ then _ else _) = _
  rw [if_neg (by decide), if_pos rfl]
theorem qL_at_r {σ σ1 : gS} (f : Nat → Int64) {x1 x2 : Int32} {r : Int32} (h : X6_at σ x1 x2 = some (.inr r, σ1)) : L_at σ f x1 x2 = some (0, vp_updL f 0 r.toInt64, σ1) := by
  unfold L_at
  rw [h]
  rfl
theorem qL_at_1 {σ σ1 : gS} (f : Nat → Int64) {x1 x2 : Int32} (h : X6_at σ x1 x2 = some (.inl "java/lang/IndexOutOfBoundsException", σ1)) : L_at σ f x1 x2 = some (1, f, σ1) := by
  unfold L_at
  rw [h, qs]
  show (if _ = _ then _ else _) = _
  rw [if_pos rfl]
theorem qL_at_2 {σ σ1 : gS} (f : Nat → Int64) {x1 x2 : Int32} (h : X6_at σ x1 x2 = some (.inl "java/lang/IllegalArgumentException", σ1)) : L_at σ f x1 x2 = some (2, f, σ1) := by
  unfold L_at
  rw [h, qs]
  show (if _ = _ then _ else _) = _
  rw [if_neg (by decide), if_pos rfl]
theorem qL_at_3 {σ σ1 : gS} (f : Nat → Int64) {x1 x2 : Int32} (h : X6_at σ x1 x2 = some (.inl "java/util/NoSuchElementException", σ1)) : L_at σ f x1 x2 = some (3, f, σ1) := by
  unfold L_at
  rw [h, qs]
  show (if _ = _ then _ else _) = _
  rw [if_neg (by decide), if_neg (by decide), if_pos rfl]
theorem qL_gap_r {σ σ1 : gS} (f : Nat → Int64) {x1 x2 : Int32} {r : Int32} (h : X6_gap σ x1 x2 = some (.inr r, σ1)) : L_gap σ f x1 x2 = some (0, vp_updL f 0 r.toInt64, σ1) := by
  unfold L_gap
  rw [h]
  rfl
theorem qL_gap_1 {σ σ1 : gS} (f : Nat → Int64) {x1 x2 : Int32} (h : X6_gap σ x1 x2 = some (.inl "java/lang/IndexOutOfBoundsException", σ1)) : L_gap σ f x1 x2 = some (1, f, σ1) := by
  unfold L_gap
  rw [h, qs]
  show (if _ = _ then _ else _) = _
  rw [if_pos rfl]
theorem qL_gap_2 {σ σ1 : gS} (f : Nat → Int64) {x1 x2 : Int32} (h : X6_gap σ x1 x2 = some (.inl "java/lang/IllegalArgumentException", σ1)) : L_gap σ f x1 x2 = some (2, f, σ1) := by
  unfold L_gap
  rw [h, qs]
  show (if _ = _ then _ else _) = _
  rw [if_neg (by decide), if_pos rfl]
theorem qL_addTurn_r {σ σ1 : gS} (f : Nat → Int64) {x1 x2 x3 x4 : Int32} {r : Int32} (h : X6_addTurn σ x1 x2 x3 x4 = some (.inr r, σ1)) : L_addTurn σ f x1 x2 x3 x4 = some (0, vp_updL f 0 r.toInt64, σ1) := by
  unfold L_addTurn
  rw [h]
  rfl
theorem qL_addTurn_1 {σ σ1 : gS} (f : Nat → Int64) {x1 x2 x3 x4 : Int32} (h : X6_addTurn σ x1 x2 x3 x4 = some (.inl "java/lang/IllegalArgumentException", σ1)) : L_addTurn σ f x1 x2 x3 x4 = some (1, f, σ1) := by
  unfold L_addTurn
  rw [h, qs]
  show (if _ = _ then _ else _) = _
  rw [if_pos rfl]
theorem qL_addTurn_2 {σ σ1 : gS} (f : Nat → Int64) {x1 x2 x3 x4 : Int32} (h : X6_addTurn σ x1 x2 x3 x4 = some (.inl "java/lang/IllegalStateException", σ1)) : L_addTurn σ f x1 x2 x3 x4 = some (2, f, σ1) := by
  unfold L_addTurn
  rw [h, qs]
  show (if _ = _ then _ else _) = _
  rw [if_neg (by decide), if_pos rfl]
theorem qL_turn_r {σ σ1 : gS} (f : Nat → Int64) {x1 x2 : Int32} {r : Int32} (h : X6_turn σ x1 x2 = some (.inr r, σ1)) : L_turn σ f x1 x2 = some (0, vp_updL f 0 r.toInt64, σ1) := by
  unfold L_turn
  rw [h]
  rfl
theorem qL_turn_1 {σ σ1 : gS} (f : Nat → Int64) {x1 x2 : Int32} (h : X6_turn σ x1 x2 = some (.inl "java/lang/IndexOutOfBoundsException", σ1)) : L_turn σ f x1 x2 = some (1, f, σ1) := by
  unfold L_turn
  rw [h, qs]
  show (if _ = _ then _ else _) = _
  rw [if_pos rfl]
theorem qL_turn_2 {σ σ1 : gS} (f : Nat → Int64) {x1 x2 : Int32} (h : X6_turn σ x1 x2 = some (.inl "java/lang/IllegalArgumentException", σ1)) : L_turn σ f x1 x2 = some (2, f, σ1) := by
  unfold L_turn
  rw [h, qs]
  show (if _ = _ then _ else _) = _
  rw [if_neg (by decide), if_pos rfl]
theorem qL_ofStay_r {σ σ1 : gS} (f : Nat → Int64) {x1 x2 x3 : Int32} {r : Int32} (h : X6_ofStay σ x1 x2 x3 = some (.inr r, σ1)) : L_ofStay σ f x1 x2 x3 = some (0, vp_updL f 0 r.toInt64, σ1) := by
  unfold L_ofStay
  rw [h]
  rfl
theorem qL_ofStay_1 {σ σ1 : gS} (f : Nat → Int64) {x1 x2 x3 : Int32} (h : X6_ofStay σ x1 x2 x3 = some (.inl "java/lang/IndexOutOfBoundsException", σ1)) : L_ofStay σ f x1 x2 x3 = some (1, f, σ1) := by
  unfold L_ofStay
  rw [h, qs]
  show (if _ = _ then _ else _) = _
  rw [if_pos rfl]
theorem qL_ofStay_2 {σ σ1 : gS} (f : Nat → Int64) {x1 x2 x3 : Int32} (h : X6_ofStay σ x1 x2 x3 = some (.inl "java/lang/IllegalArgumentException", σ1)) : L_ofStay σ f x1 x2 x3 = some (2, f, σ1) := by
  unfold L_ofStay
  rw [h, qs]
  show (if _ = _ then _ else _) = _
  rw [if_neg (by decide), if_pos rfl]
theorem qL_place_r {σ σ1 : gS} (f : Nat → Int64) {x1 x2 x3 : Int32} {r : Int32} (h : X6_place σ x1 x2 x3 = some (.inr r, σ1)) : L_place σ f x1 x2 x3 = some (0, vp_updL f 0 r.toInt64, σ1) := by
  unfold L_place
  rw [h]
  rfl
theorem qL_place_1 {σ σ1 : gS} (f : Nat → Int64) {x1 x2 x3 : Int32} (h : X6_place σ x1 x2 x3 = some (.inl "java/lang/IndexOutOfBoundsException", σ1)) : L_place σ f x1 x2 x3 = some (1, f, σ1) := by
  unfold L_place
  rw [h, qs]
  show (if _ = _ then _ else _) = _
  rw [if_pos rfl]
theorem qL_place_2 {σ σ1 : gS} (f : Nat → Int64) {x1 x2 x3 : Int32} (h : X6_place σ x1 x2 x3 = some (.inl "java/lang/UnsupportedOperationException", σ1)) : L_place σ f x1 x2 x3 = some (2, f, σ1) := by
  unfold L_place
  rw [h, qs]
  show (if _ = _ then _ else _) = _
  rw [if_neg (by decide), if_pos rfl]
theorem qL_whyNot_r {σ σ1 : gS} (f : Nat → Int64) {x1 x2 x3 : Int32} {r : Int32} (h : X6_whyNot σ x1 x2 x3 = some (.inr r, σ1)) : L_whyNot σ f x1 x2 x3 = some (0, vp_updL f 0 r.toInt64, σ1) := by
  unfold L_whyNot
  rw [h]
  rfl
theorem qL_whyNot_1 {σ σ1 : gS} (f : Nat → Int64) {x1 x2 x3 : Int32} (h : X6_whyNot σ x1 x2 x3 = some (.inl "java/lang/IndexOutOfBoundsException", σ1)) : L_whyNot σ f x1 x2 x3 = some (1, f, σ1) := by
  unfold L_whyNot
  rw [h, qs]
  show (if _ = _ then _ else _) = _
  rw [if_pos rfl]
theorem qL_options_r {σ σ1 : gS} (f : Nat → Int64) {x1 x2 : Int32} {r : Int32} (h : X6_options σ x1 x2 = some (.inr r, σ1)) : L_options σ f x1 x2 = some (0, vp_updL f 0 r.toInt64, σ1) := by
  unfold L_options
  rw [h]
  rfl
theorem qL_options_1 {σ σ1 : gS} (f : Nat → Int64) {x1 x2 : Int32} (h : X6_options σ x1 x2 = some (.inl "java/lang/IndexOutOfBoundsException", σ1)) : L_options σ f x1 x2 = some (1, f, σ1) := by
  unfold L_options
  rw [h, qs]
  show (if _ = _ then _ else _) = _
  rw [if_pos rfl]
theorem qL_cheapest_r {σ σ1 : gS} (f : Nat → Int64) {x1 x2 : Int32} {r : Int32} (h : X6_cheapest σ x1 x2 = some (.inr r, σ1)) : L_cheapest σ f x1 x2 = some (0, vp_updL f 0 r.toInt64, σ1) := by
  unfold L_cheapest
  rw [h]
  rfl
theorem qL_cheapest_1 {σ σ1 : gS} (f : Nat → Int64) {x1 x2 : Int32} (h : X6_cheapest σ x1 x2 = some (.inl "java/lang/IndexOutOfBoundsException", σ1)) : L_cheapest σ f x1 x2 = some (1, f, σ1) := by
  unfold L_cheapest
  rw [h, qs]
  show (if _ = _ then _ else _) = _
  rw [if_pos rfl]
theorem qL_cheapest_2 {σ σ1 : gS} (f : Nat → Int64) {x1 x2 : Int32} (h : X6_cheapest σ x1 x2 = some (.inl "java/util/NoSuchElementException", σ1)) : L_cheapest σ f x1 x2 = some (2, f, σ1) := by
  unfold L_cheapest
  rw [h, qs]
  show (if _ = _ then _ else _) = _
  rw [if_neg (by decide), if_pos rfl]
theorem qL_lift_r {σ σ1 : gS} (f : Nat → Int64) {x1 x2 : Int32} {r : Int32} (h : X6_lift σ x1 x2 = some (.inr r, σ1)) : L_lift σ f x1 x2 = some (0, vp_updL f 0 r.toInt64, σ1) := by
  unfold L_lift
  rw [h]
  rfl
theorem qL_lift_1 {σ σ1 : gS} (f : Nat → Int64) {x1 x2 : Int32} (h : X6_lift σ x1 x2 = some (.inl "java/lang/IndexOutOfBoundsException", σ1)) : L_lift σ f x1 x2 = some (1, f, σ1) := by
  unfold L_lift
  rw [h, qs]
  show (if _ = _ then _ else _) = _
  rw [if_pos rfl]
theorem qL_lift_2 {σ σ1 : gS} (f : Nat → Int64) {x1 x2 : Int32} (h : X6_lift σ x1 x2 = some (.inl "java/lang/IllegalStateException", σ1)) : L_lift σ f x1 x2 = some (2, f, σ1) := by
  unfold L_lift
  rw [h, qs]
  show (if _ = _ then _ else _) = _
  rw [if_neg (by decide), if_pos rfl]
theorem qL_reason_r {σ σ1 : gS} (f : Nat → Int64) {r : Int32} (h : X6_reason σ = some (.inr r, σ1)) : L_reason σ f = some (0, vp_updL f 0 r.toInt64, σ1) := by
  unfold L_reason
  rw [h]
  rfl
theorem qL_reason_1 {σ σ1 : gS} (f : Nat → Int64) (h : X6_reason σ = some (.inl "java/util/NoSuchElementException", σ1)) : L_reason σ f = some (1, f, σ1) := by
  unfold L_reason
  rw [h, qs]
  show (if _ = _ then _ else _) = _
  rw [if_pos rfl]
theorem qL_tow_r {σ σ1 : gS} (f : Nat → Int64) {x1 x2 : Int32} {r : Int32} (h : X6_tow σ x1 x2 = some (.inr r, σ1)) : L_tow σ f x1 x2 = some (0, vp_updL f 0 r.toInt64, σ1) := by
  unfold L_tow
  rw [h]
  rfl
theorem qL_tow_1 {σ σ1 : gS} (f : Nat → Int64) {x1 x2 : Int32} (h : X6_tow σ x1 x2 = some (.inl "java/lang/IndexOutOfBoundsException", σ1)) : L_tow σ f x1 x2 = some (1, f, σ1) := by
  unfold L_tow
  rw [h, qs]
  show (if _ = _ then _ else _) = _
  rw [if_pos rfl]
theorem qL_tow_2 {σ σ1 : gS} (f : Nat → Int64) {x1 x2 : Int32} (h : X6_tow σ x1 x2 = some (.inl "java/lang/IllegalArgumentException", σ1)) : L_tow σ f x1 x2 = some (2, f, σ1) := by
  unfold L_tow
  rw [h, qs]
  show (if _ = _ then _ else _) = _
  rw [if_neg (by decide), if_pos rfl]
theorem qL_tow_3 {σ σ1 : gS} (f : Nat → Int64) {x1 x2 : Int32} (h : X6_tow σ x1 x2 = some (.inl "java/lang/IllegalStateException", σ1)) : L_tow σ f x1 x2 = some (3, f, σ1) := by
  unfold L_tow
  rw [h, qs]
  show (if _ = _ then _ else _) = _
  rw [if_neg (by decide), if_neg (by decide), if_pos rfl]
theorem qL_untow_r {σ σ1 : gS} (f : Nat → Int64) {x1 : Int32} {r : Int32} (h : X6_untow σ x1 = some (.inr r, σ1)) : L_untow σ f x1 = some (0, vp_updL f 0 r.toInt64, σ1) := by
  unfold L_untow
  rw [h]
  rfl
theorem qL_untow_1 {σ σ1 : gS} (f : Nat → Int64) {x1 : Int32} (h : X6_untow σ x1 = some (.inl "java/lang/IndexOutOfBoundsException", σ1)) : L_untow σ f x1 = some (1, f, σ1) := by
  unfold L_untow
  rw [h, qs]
  show (if _ = _ then _ else _) = _
  rw [if_pos rfl]
theorem qL_untow_2 {σ σ1 : gS} (f : Nat → Int64) {x1 : Int32} (h : X6_untow σ x1 = some (.inl "java/lang/IllegalStateException", σ1)) : L_untow σ f x1 = some (2, f, σ1) := by
  unfold L_untow
  rw [h, qs]
  show (if _ = _ then _ else _) = _
  rw [if_neg (by decide), if_pos rfl]
theorem qL_delay_r {σ σ1 : gS} (f : Nat → Int64) {x1 x2 : Int32} {r : Int32} (h : X6_delay σ x1 x2 = some (.inr r, σ1)) : L_delay σ f x1 x2 = some (0, vp_updL f 0 r.toInt64, σ1) := by
  unfold L_delay
  rw [h]
  rfl
theorem qL_delay_1 {σ σ1 : gS} (f : Nat → Int64) {x1 x2 : Int32} (h : X6_delay σ x1 x2 = some (.inl "java/lang/IndexOutOfBoundsException", σ1)) : L_delay σ f x1 x2 = some (1, f, σ1) := by
  unfold L_delay
  rw [h, qs]
  show (if _ = _ then _ else _) = _
  rw [if_pos rfl]
theorem qL_delay_2 {σ σ1 : gS} (f : Nat → Int64) {x1 x2 : Int32} (h : X6_delay σ x1 x2 = some (.inl "java/lang/IllegalArgumentException", σ1)) : L_delay σ f x1 x2 = some (2, f, σ1) := by
  unfold L_delay
  rw [h, qs]
  show (if _ = _ then _ else _) = _
  rw [if_neg (by decide), if_pos rfl]
theorem qL_delay_3 {σ σ1 : gS} (f : Nat → Int64) {x1 x2 : Int32} (h : X6_delay σ x1 x2 = some (.inl "java/lang/IllegalStateException", σ1)) : L_delay σ f x1 x2 = some (3, f, σ1) := by
  unfold L_delay
  rw [h, qs]
  show (if _ = _ then _ else _) = _
  rw [if_neg (by decide), if_neg (by decide), if_pos rfl]
theorem qL_towGain_r {σ σ1 : gS} (f : Nat → Int64) {x1 x2 : Int32} {r : Int32} (h : X6_towGain σ x1 x2 = some (.inr r, σ1)) : L_towGain σ f x1 x2 = some (0, vp_updL f 0 r.toInt64, σ1) := by
  unfold L_towGain
  rw [h]
  rfl
theorem qL_towGain_1 {σ σ1 : gS} (f : Nat → Int64) {x1 x2 : Int32} (h : X6_towGain σ x1 x2 = some (.inl "java/lang/IndexOutOfBoundsException", σ1)) : L_towGain σ f x1 x2 = some (1, f, σ1) := by
  unfold L_towGain
  rw [h, qs]
  show (if _ = _ then _ else _) = _
  rw [if_pos rfl]
theorem qL_towGain_2 {σ σ1 : gS} (f : Nat → Int64) {x1 x2 : Int32} (h : X6_towGain σ x1 x2 = some (.inl "java/lang/IllegalArgumentException", σ1)) : L_towGain σ f x1 x2 = some (2, f, σ1) := by
  unfold L_towGain
  rw [h, qs]
  show (if _ = _ then _ else _) = _
  rw [if_neg (by decide), if_pos rfl]
theorem qL_towGain_3 {σ σ1 : gS} (f : Nat → Int64) {x1 x2 : Int32} (h : X6_towGain σ x1 x2 = some (.inl "java/lang/IllegalStateException", σ1)) : L_towGain σ f x1 x2 = some (3, f, σ1) := by
  unfold L_towGain
  rw [h, qs]
  show (if _ = _ then _ else _) = _
  rw [if_neg (by decide), if_neg (by decide), if_pos rfl]
theorem qL_leastMoves_r {σ σ1 : gS} (f : Nat → Int64) {r : Int32} (h : X6_leastMoves σ = some (.inr r, σ1)) : L_leastMoves σ f = some (0, vp_updL f 0 r.toInt64, σ1) := by
  unfold L_leastMoves
  rw [h]
  rfl
theorem qL_leastMoves_1 {σ σ1 : gS} (f : Nat → Int64) (h : X6_leastMoves σ = some (.inl "java/util/NoSuchElementException", σ1)) : L_leastMoves σ f = some (1, f, σ1) := by
  unfold L_leastMoves
  rw [h, qs]
  show (if _ = _ then _ else _) = _
  rw [if_pos rfl]
theorem qL_leastAgain_r {σ σ1 : gS} (f : Nat → Int64) {r : Int32} (h : X6_leastAgain σ = some (.inr r, σ1)) : L_leastAgain σ f = some (0, vp_updL f 0 r.toInt64, σ1) := by
  unfold L_leastAgain
  rw [h]
  rfl
theorem qL_leastAgain_1 {σ σ1 : gS} (f : Nat → Int64) (h : X6_leastAgain σ = some (.inl "java/util/NoSuchElementException", σ1)) : L_leastAgain σ f = some (1, f, σ1) := by
  unfold L_leastAgain
  rw [h, qs]
  show (if _ = _ then _ else _) = _
  rw [if_pos rfl]
theorem qL_moveOf_r {σ σ1 : gS} (f : Nat → Int64) {x1 x2 : Int32} {r : Int32} (h : X6_moveOf σ x1 x2 = some (.inr r, σ1)) : L_moveOf σ f x1 x2 = some (0, vp_updL f 0 r.toInt64, σ1) := by
  unfold L_moveOf
  rw [h]
  rfl
theorem qL_moveOf_1 {σ σ1 : gS} (f : Nat → Int64) {x1 x2 : Int32} (h : X6_moveOf σ x1 x2 = some (.inl "java/util/NoSuchElementException", σ1)) : L_moveOf σ f x1 x2 = some (1, f, σ1) := by
  unfold L_moveOf
  rw [h, qs]
  show (if _ = _ then _ else _) = _
  rw [if_pos rfl]
theorem qL_repair_r {σ σ1 : gS} (f : Nat → Int64) {r : Int32} (h : X6_repair σ = some (.inr r, σ1)) : L_repair σ f = some (0, vp_updL f 0 r.toInt64, σ1) := by
  unfold L_repair
  rw [h]
  rfl
theorem qL_repair_1 {σ σ1 : gS} (f : Nat → Int64) (h : X6_repair σ = some (.inl "java/util/NoSuchElementException", σ1)) : L_repair σ f = some (1, f, σ1) := by
  unfold L_repair
  rw [h, qs]
  show (if _ = _ then _ else _) = _
  rw [if_pos rfl]
theorem qL_account_r {σ σ1 : gS} (f : Nat → Int64) {x1 : Int32} {r : Int32} (h : X6_account σ x1 = some (.inr r, σ1)) : L_account σ f x1 = some (0, vp_updL f 0 r.toInt64, σ1) := by
  unfold L_account
  rw [h]
  rfl
theorem qL_account_1 {σ σ1 : gS} (f : Nat → Int64) {x1 : Int32} (h : X6_account σ x1 = some (.inl "java/lang/IllegalArgumentException", σ1)) : L_account σ f x1 = some (1, f, σ1) := by
  unfold L_account
  rw [h, qs]
  show (if _ = _ then _ else _) = _
  rw [if_pos rfl]
theorem qL_append_r {σ σ1 : gS} (f : Nat → Int64) {x1 : Int32} {r : Int32} (h : X6_append σ x1 = some (.inr r, σ1)) : L_append σ f x1 = some (0, vp_updL f 0 r.toInt64, σ1) := by
  unfold L_append
  rw [h]
  rfl
theorem qL_append_1 {σ σ1 : gS} (f : Nat → Int64) {x1 : Int32} (h : X6_append σ x1 = some (.inl "java/lang/IllegalArgumentException", σ1)) : L_append σ f x1 = some (1, f, σ1) := by
  unfold L_append
  rw [h, qs]
  show (if _ = _ then _ else _) = _
  rw [if_pos rfl]
theorem qL_append_2 {σ σ1 : gS} (f : Nat → Int64) {x1 : Int32} (h : X6_append σ x1 = some (.inl "java/lang/IllegalStateException", σ1)) : L_append σ f x1 = some (2, f, σ1) := by
  unfold L_append
  rw [h, qs]
  show (if _ = _ then _ else _) = _
  rw [if_neg (by decide), if_pos rfl]
theorem qL_errorPosition_r {σ σ1 : gS} (f : Nat → Int64) {r : Int32} (h : X6_errorPosition σ = some (.inr r, σ1)) : L_errorPosition σ f = some (0, vp_updL f 0 r.toInt64, σ1) := by
  unfold L_errorPosition
  rw [h]
  rfl
theorem qL_errorPosition_1 {σ σ1 : gS} (f : Nat → Int64) (h : X6_errorPosition σ = some (.inl "java/util/NoSuchElementException", σ1)) : L_errorPosition σ f = some (1, f, σ1) := by
  unfold L_errorPosition
  rw [h, qs]
  show (if _ = _ then _ else _) = _
  rw [if_pos rfl]
theorem qL_undo_r {σ σ1 : gS} (f : Nat → Int64) {r : Int32} (h : X6_undo σ = some (.inr r, σ1)) : L_undo σ f = some (0, vp_updL f 0 r.toInt64, σ1) := by
  unfold L_undo
  rw [h]
  rfl
theorem qL_undo_1 {σ σ1 : gS} (f : Nat → Int64) (h : X6_undo σ = some (.inl "java/util/NoSuchElementException", σ1)) : L_undo σ f = some (1, f, σ1) := by
  unfold L_undo
  rw [h, qs]
  show (if _ = _ then _ else _) = _
  rw [if_pos rfl]
theorem qL_restore_r {σ σ1 : gS} (f : Nat → Int64) {r : Int32} (h : X6_restore σ = some (.inr r, σ1)) : L_restore σ f = some (0, vp_updL f 0 r.toInt64, σ1) := by
  unfold L_restore
  rw [h]
  rfl
theorem qL_restore_1 {σ σ1 : gS} (f : Nat → Int64) (h : X6_restore σ = some (.inl "java/lang/IllegalStateException", σ1)) : L_restore σ f = some (1, f, σ1) := by
  unfold L_restore
  rw [h, qs]
  show (if _ = _ then _ else _) = _
  rw [if_pos rfl]
theorem qL_read_r {σ σ1 : gS} (f : Nat → Int64) {r : Int32} (h : X6_read σ = some (.inr r, σ1)) : L_read σ f = some (0, vp_updL f 0 r.toInt64, σ1) := by
  unfold L_read
  rw [h]
  rfl
theorem qL_read_1 {σ σ1 : gS} (f : Nat → Int64) (h : X6_read σ = some (.inl "java/lang/IllegalArgumentException", σ1)) : L_read σ f = some (1, f, σ1) := by
  unfold L_read
  rw [h, qs]
  show (if _ = _ then _ else _) = _
  rw [if_pos rfl]
theorem qL_read_2 {σ σ1 : gS} (f : Nat → Int64) (h : X6_read σ = some (.inl "java/lang/IllegalStateException", σ1)) : L_read σ f = some (2, f, σ1) := by
  unfold L_read
  rw [h, qs]
  show (if _ = _ then _ else _) = _
  rw [if_neg (by decide), if_pos rfl]
