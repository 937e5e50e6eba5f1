/-! the two objects, newly made, stand side by side -/
theorem ss_start : SS 0 iS (mRow iM) := by
  refine ⟨0, ⟨⟨by decide, rfl, by decide +kernel⟩, ?_, ⟨by decide +kernel, by decide +kernel, by decide +kernel, by decide +kernel⟩, fun b hb => absurd hb (by omega)⟩, ⟨fun b hb => absurd hb (by omega), fun b hb => absurd hb (by omega), fun s hs b c hb => absurd hb (by omega), fun s hs => ?_⟩, ⟨fun b hb => absurd hb (by omega), fun b hb => absurd hb (by omega), fun b hb => absurd hb (by omega), fun b hb => absurd hb (by omega), ?_⟩⟩
  · intro j hj
    rcases (show j = 0 ∨ j = 1 ∨ j = 2 ∨ j = 3 by omega) with rfl | rfl | rfl | rfl <;> decide +kernel
  · exact Nat.le_trans (Nat.le_of_eq rfl) (Nat.zero_le 6)
  · exact ⟨by decide +kernel, by decide +kernel, by decide +kernel, by decide +kernel⟩
theorem sm_start : SM 0 iS iV iT none none iM :=
  ⟨ss_start, ⟨0, ⟨by decide, rfl, fun j hj => absurd hj (by omega)⟩, rfl⟩, ⟨0, by decide, rfl, rfl, fun i hi => absurd hi (by omega)⟩, rfl, rfl⟩
theorem thr_start : mThr iM = 0 := rfl
