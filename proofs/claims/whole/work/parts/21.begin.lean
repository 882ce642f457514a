/-! ===== the beginning: what holds of the new objects ===== -/
theorem q_start : ∃ σ3, X7_begin (g_z1 g_z0) = some σ3 ∧ qi σ3 := by
  obtain ⟨σ3, b1, b2, b3, b4, b5⟩ := qd_begin (g_z1 g_z0)
  have e133 : σ3 133 = qs_M0 := by
    funext j
    rw [b5 j]
    by_cases h : j < 162
    · rw [if_pos h]
    · rw [if_neg h, ← qs_M0c]
      unfold qcut
      rw [if_neg h]
      rfl
  refine ⟨σ3, b1, ⟨?_, by rw [e133, qs_M0c]⟩, ⟨fun _ => qs_M0, 0, ⟨by decide, 0, by decide, ?_, ?_, fun i hi => by omega⟩, ⟨b4, fun i hi => by omega⟩⟩, Or.inl ⟨?_, ?_⟩, ⟨?_, ?_⟩, ⟨0, by decide, ?_, ?_, fun i hi => by omega⟩⟩
  · rw [e133]
    refine qr_M0 ?_ ?_ ?_ ?_ ?_ (fun k hk => ?_)
    · show σ3 24 0 = 0
      rw [b2 24 (by decide) (by decide)]; rfl
    · show σ3 24 1 = 0
      rw [b2 24 (by decide) (by decide)]; rfl
    · show σ3 24 2 = 15
      rw [b2 24 (by decide) (by decide)]; rfl
    · show σ3 24 3 = 0
      rw [b2 24 (by decide) (by decide)]; rfl
    · show σ3 24 4 = 0
      rw [b2 24 (by decide) (by decide)]; rfl
    · show σ3 35 k = -1
      rw [b2 35 (by decide) (by decide)]
      show (if k < 20 then (-1 : Int32) else 0) = -1
      rw [if_pos hk]
  · rw [b2 2 (by decide) (by decide)]; rfl
  · rw [b2 2 (by decide) (by decide)]; rfl
  · rw [b2 0 (by decide) (by decide)]; rfl
  · rw [b3 4 (by decide)]; rfl
  · rw [b2 0 (by decide) (by decide), b3 7 (by decide)]; rfl
  · rw [b2 0 (by decide) (by decide), b3 15 (by decide)]; rfl
  · rw [b2 4 (by decide) (by decide)]; rfl
  · rw [b3 12 (by decide)]; rfl
