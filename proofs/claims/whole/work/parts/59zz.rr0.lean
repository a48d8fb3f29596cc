def b0 : BK := (0, fun _ => 0, fun _ => 0, fun _ => 0, fun _ => [], fun _ => [], fun _ => [])
theorem AL_b0 : ∀ D, (AL b0 D).1 = 0 := by
  intro D
  induction D with
  | zero => rfl
  | succ D ih => exact ih
theorem k_M0 : ∀ k, k < 24 → M0.2.2 1 k = lN (keyT.getD k 0) := by decide +kernel
theorem s_X0 : ∀ k, k < 4 → X0.2.1 29 k = 1 ∧ M0.2.1 36 k = 1 ∧ X0.2.1 30 k = 0 ∧ M0.2.1 37 k = 0 := by decide +kernel
theorem RR0 : RR X0 M0 := by
  have hr : RB X0 M0 := by
    refine ⟨b0, ⟨by decide, fun k hk => absurd hk (Nat.not_lt_zero k), fun k hk => absurd hk (Nat.not_lt_zero k)⟩, ⟨rfl, fun k hk => absurd hk (Nat.not_lt_zero k), ⟨fun _ => 0, rfl, fun k _ => Nat.zero_le _, fun k hk => absurd hk (Nat.not_lt_zero k)⟩, fun D _ => ⟨?_, fun i hi => ?_⟩⟩, ⟨rfl, fun k hk => absurd hk (Nat.not_lt_zero k), fun k hk => absurd hk (Nat.not_lt_zero k), k_M0⟩, Or.inl rfl⟩
    · rw [AL_b0]; rfl
    · rw [AL_b0] at hi; exact absurd hi (Nat.not_lt_zero i)
  refine ⟨⟨0, by decide, rfl, rfl, fun j hj => absurd hj (Nat.not_lt_zero j)⟩, rfl, ⟨0, by decide, rfl, rfl, fun j hj => absurd hj (Nat.not_lt_zero j)⟩, fun w _ => ⟨0, by decide, rfl, rfl, fun j hj => absurd hj (Nat.not_lt_zero j)⟩, ⟨fun k hk => ?_, 0, by decide, rfl, rfl, fun j hj => absurd hj (Nat.not_lt_zero j)⟩, hr⟩
  obtain ⟨a1, a2, a3, a4⟩ := s_X0 k hk
  rw [a1, a2, a3, a4]
  exact ⟨rfl, ⟨1, by decide, by decide, rfl⟩, rfl, ⟨0, by decide, rfl⟩⟩
