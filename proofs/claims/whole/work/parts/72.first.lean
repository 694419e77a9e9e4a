/-! the two at the start -/
theorem dan_0 : ∀ t, t < 8 → m0.1 (1 + 33) t = 4 ∧ m0.1 (1 + 34) t = 0 := by decide
theorem first_rel : ∃ N0, f_X7_begins 20 m7 = some N0 ∧ Rel m0 N0 := by
  obtain ⟨N', eN, eN2, no, n1, nd, n0⟩ := beginsX 20 m7
  have nz : ∀ c b, c ≠ 177 → N'.1 c b = 0 := fun c b q => no c b q
  refine ⟨N', eN, ⟨0, by omega, by decide, n0 0 (by omega) (by omega) (by omega), fun i hi => absurd hi (by omega), ⟨⟨by rw [n1]; decide, by rw [n0 2 (by omega) (by omega) (by omega)]; decide, by rw [n0 3 (by omega) (by omega) (by omega)]; decide, by rw [n1]; decide, by rw [n0 (1 + 1) (by omega) (by omega) (by omega)]; decide, by rw [n0 (1 + 2) (by omega) (by omega) (by omega)]; decide⟩, fun i hi => absurd hi (by omega)⟩, ⟨fun t ht => ?_, ?_, ?_⟩, ⟨⟨0, by omega, by decide, n0 70 (by omega) (by omega) (by omega), fun j hj => absurd hj (by omega)⟩, ⟨0, by omega, by decide, n0 91 (by omega) (by omega) (by omega), fun j hj => absurd hj (by omega)⟩, ⟨0, by omega, by decide, n0 122 (by omega) (by omega) (by omega), fun j hj => absurd hj (by omega)⟩, fun k hk hle => ?_⟩, ⟨0, 0, by omega, by omega, by decide, n0 147 (by omega) (by omega) (by omega), by decide, fun k hk => absurd hk (by omega)⟩⟩, ?_, ⟨0, by omega, by decide⟩, ⟨0, 0, by omega, by omega, by decide, by decide, nz _ _ (by omega), fun h => absurd h (by omega), fun h => absurd h (by omega)⟩, ⟨0, by omega, by decide, nz _ _ (by omega), fun j hj => absurd hj (by omega)⟩, ?_⟩
  · rw [(dan_0 t ht).1, (dan_0 t ht).2, nd t ht, n0 (54 + 2 * t + 1) (by omega) (by omega) (by omega)]
    exact ⟨rfl, rfl, by decide, by decide⟩
  · rw [n0 53 (by omega) (by omega) (by omega)]; decide
  · rw [n0 53 (by omega) (by omega) (by omega)]; decide
  · rw [n0 122 (by omega) (by omega) (by omega), nI_leI (by omega) (by omega)] at hle
    omega
  · intro p hp
    unfold Wid
    rcases hp with rfl | rfl | rfl | rfl <;> decide
  · unfold Cnt
    rw [nz _ _ (by omega), nz _ _ (by omega), nz _ _ (by omega), eN2]
    decide
