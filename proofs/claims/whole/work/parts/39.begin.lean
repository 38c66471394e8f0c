/-! the beginning -/
theorem h00 (c k : Nat) (h1 : c ≠ 2) (h2 : c ≠ 61) : H00 c k = 0 := by
  unfold H00
  rw [if_neg h1, if_neg h2]
theorem j0 : JJ H00 := by
  refine ⟨fun r hr => ?_, ⟨?_, ?_⟩, ⟨0, by omega, ?_, ?_, fun i hi => absurd hi (by omega)⟩, ⟨0, by omega, ?_, ?_, fun i hi => absurd hi (by omega)⟩, fun k hk => Or.inl ⟨?_, ?_⟩, fun _ => 0, ⟨⟨Nat.zero_le _, Nat.zero_le _, Nat.zero_le _, fun h => absurd h (Nat.lt_irrefl 0), Nat.zero_le _, fun p hp => absurd hp (Nat.not_lt_zero p), fun j hj => absurd hj (Nat.not_lt_zero j), fun a ha => Nat.succ_pos 9⟩, fun k hk => ?_, ?_⟩, 0, 0, fun _ _ => 0, by omega, by omega, ?_, ?_, ?_, rfl, fun i hi => absurd hi (by omega)⟩
  · have e : H00 2 r = -1 ∧ H00 61 r = -1 := by
      rcases (show r = 0 ∨ r = 1 ∨ r = 2 ∨ r = 3 ∨ r = 4 ∨ r = 5 ∨ r = 6 ∨ r = 7 by omega) with rfl | rfl | rfl | rfl | rfl | rfl | rfl | rfl <;> exact ⟨rfl, rfl⟩
    exact ⟨by rw [e.1, e.2], by rw [h00 _ _ (by omega) (by omega), h00 _ _ (by omega) (by omega)], Or.inl e.1, 0, by omega, h00 _ _ (by omega) (by omega), fun k hk => absurd hk (by omega)⟩
  · rw [h00 _ _ (by omega) (by omega), h00 _ _ (by omega) (by omega)]
  · rw [h00 _ _ (by omega) (by omega), h00 _ _ (by omega) (by omega)]
  · exact h00 _ _ (by omega) (by omega)
  · exact h00 _ _ (by omega) (by omega)
  · exact h00 _ _ (by omega) (by omega)
  · exact h00 _ _ (by omega) (by omega)
  · exact h00 _ _ (by omega) (by omega)
  · exact h00 _ _ (by omega) (by omega)
  · exact h00 _ _ (by omega) (by omega)
  · exact ⟨h00 _ _ (by omega) (by omega), h00 _ _ (by omega) (by omega), h00 _ _ (by omega) (by omega), h00 _ _ (by omega) (by omega), h00 _ _ (by omega) (by omega), fun p hp => absurd hp (Nat.not_lt_zero p), fun a ha => h00 _ _ (by omega) (by omega), fun j hj => absurd hj (Nat.not_lt_zero j)⟩
  · exact h00 _ _ (by omega) (by omega)
  · exact h00 _ _ (by omega) (by omega)
  · exact h00 _ _ (by omega) (by omega)
