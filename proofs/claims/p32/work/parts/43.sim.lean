/-! class and reference side by side: calls that change the state -/
theorem sel {α β γ : Type} (f : α → γ) (g : β → γ) (a : α) : Sum.elim f g (.inl a) = f a := rfl
theorem ser {α β γ : Type} (f : α → γ) (g : β → γ) (b : β) : Sum.elim f g (.inr b) = g b := rfl
def SN1 (q : Nat) (s : Option VS) (k : Int32) (r : Nat → Int32) : Prop := match s with
  | none => k = 0
  | some x => k ≠ 0 ∧ SS q x r
theorem SN1.mono {q q2 : Nat} (h : q ≤ q2) : ∀ {s : Option VS} {k : Int32} {r : Nat → Int32}, SN1 q s k r → SN1 q2 s k r
  | none, _, _, hs => hs
  | some _, _, _, hs => ⟨hs.1, hs.2.mono h⟩
theorem RV.mono {q q2 n : Nat} {z : VV} {s : Nat → Int32} (h : q ≤ q2) (hz : RV q n z s) : RV q2 n z s := ⟨hz.1, hz.2.1, fun j hj => (hz.2.2 j hj).mono h⟩
section SIM
variable {N q : Nat} {v : VS} {z : VV} {n0 n1 : Option VS}
theorem stk3 {x : Int32} (h : 0 ≤ x ∧ x ≤ 2) : St3 x := by
  rw [fa_le, fa_le, z0, show (2 : Int32).toInt = 2 from by decide +kernel] at h
  obtain ⟨j, hj, rfl⟩ := nI_of (x := x) (fun q => by rw [fa_lt, z0] at q; omega)
  rw [nI_toInt hj] at h
  rcases (show j = 0 ∨ j = 1 ∨ j = 2 by omega) with rfl | rfl | rfl
  · exact .inl rfl
  · exact .inr (.inl rfl)
  · exact .inr (.inr rfl)
theorem rg60 {x : Int32} (h : 1 ≤ x ∧ x ≤ 60) : ∃ s, 1 ≤ s ∧ s ≤ 60 ∧ x = nI s := by
  rw [fa_le, fa_le, show (1 : Int32).toInt = 1 from by decide +kernel, show (60 : Int32).toInt = 60 from by decide +kernel] at h
  obtain ⟨j, hj, rfl⟩ := nI_of (x := x) (fun q => by rw [fa_lt, z0] at q; omega)
  rw [nI_toInt hj] at h
  exact ⟨j, by omega, by omega, rfl⟩
end SIM
