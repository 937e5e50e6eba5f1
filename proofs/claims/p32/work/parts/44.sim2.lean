/-! side by side: settings, stacks, undo, snapshots -/
section SIN
variable {N q : Nat} {v : VS} {z : VV} {n0 n1 : Option VS}
theorem set_bd {B : Nat} (hd : BD B q v) {j : Nat} (hj : j < 4) {x : Int32} (h0 : 0 ≤ x) (hx : x ≤ stM j) : BD B q (uS v (upd (sS v) j x)) := by
  obtain ⟨d1, d2, d3, d4, d5, d6, d7, d8⟩ := hd
  rw [fa_le, z0] at h0
  rcases (show j = 0 ∨ j = 1 ∨ j = 2 ∨ j = 3 by omega) with rfl | rfl | rfl | rfl
  · have e : (stM 0).toInt = 60 := by decide +kernel
    rw [fa_le, e] at hx
    exact ⟨d1, d2, d3, d4, ⟨h0, hx⟩, d6, d7, d8⟩
  · have e : (stM 1).toInt = 1000 := by decide +kernel
    rw [fa_le, e] at hx
    exact ⟨d1, d2, d3, d4, d5, ⟨h0, hx⟩, d7, d8⟩
  · have e : (stM 2).toInt = 20 := by decide +kernel
    rw [fa_le, e] at hx
    exact ⟨d1, d2, d3, d4, d5, d6, ⟨h0, hx⟩, d8⟩
  · have e : (stM 3).toInt = 200 := by decide +kernel
    rw [fa_le, e] at hx
    exact ⟨d1, d2, d3, d4, d5, d6, d7, ⟨h0, hx⟩⟩
theorem rg3 {x : Int32} (h : 0 ≤ x ∧ x ≤ 3) : ∃ j, j < 4 ∧ x = nI j := by
  rw [fa_le, fa_le, z0, show (3 : Int32).toInt = 3 from by decide +kernel] at h
  obtain ⟨j, hj, rfl⟩ := nI_of (x := x) (fun q => by rw [fa_lt, z0] at q; omega)
  rw [nI_toInt hj] at h
  exact ⟨j, by omega, rfl⟩
theorem ckr {α : Type} {i : Nat} {X : Option α} (h : i < 149) : ck (nI i) 149 X = X := ck_n h (by decide)
theorem rg1 {x : Int32} (h : 0 ≤ x ∧ x ≤ 1) : x = 0 ∨ x = 1 := by
  rw [fa_le, fa_le, z0, show (1 : Int32).toInt = 1 from by decide +kernel] at h
  obtain ⟨j, hj, rfl⟩ := nI_of (x := x) (fun q => by rw [fa_lt, z0] at q; omega)
  rw [nI_toInt hj] at h
  rcases (show j = 0 ∨ j = 1 by omega) with rfl | rfl
  · exact .inl rfl
  · exact .inr rfl
theorem nar1 : vp_nar .boolean 1 = 1 := by decide +kernel
end SIN
