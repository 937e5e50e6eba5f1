/-! the old way -/
def zz : Nat → Nat → Nat
  | 0, _ => 0
  | f + 1, l => if l % 10 = 0 then zz f (l / 10) + 1 else 0
theorem zz_iff : ∀ f j l, j ≤ f → (j ≤ zz f l ↔ l % 10 ^ j = 0)
  | f, 0, l, _ => by simp [Nat.mod_one]
  | 0, j + 1, l, h => absurd h (by omega)
  | f + 1, j + 1, l, h => by
    have e : l % 10 ^ (j + 1) = l % 10 + 10 * (l / 10 % 10 ^ j) := by rw [Nat.pow_succ, Nat.mul_comm (10 ^ j) 10, Nat.mod_mul]
    rw [e]
    show j + 1 ≤ (if l % 10 = 0 then zz f (l / 10) + 1 else 0) ↔ _
    by_cases c : l % 10 = 0
    · rw [if_pos c]
      have ih := zz_iff f j (l / 10) (by omega)
      omega
    · rw [if_neg c]; omega
theorem remI {R d : Nat} (hR : R < 2 ^ 31) (hd : 0 < d) (hd2 : d < 2 ^ 31) : nI R - nI R / nI d * nI d = nI (R % d) := by
  have h1 : R / d * d ≤ R := Nat.div_mul_le_self R d
  rw [nI_div hR hd hd2, nI_mul, nI_sub h1]
  congr 1
  have := Nat.div_add_mod R d
  rw [Nat.mul_comm] at this
  omega
section OW
variable {N B : Nat} {v : VS}
theorem X0_zeros (hN0 : 2097152 ≤ N) {l : Nat} (hl : l < 2 ^ 31) : fX0_zerosAtEnd N (nI l) = some (nI (zz 6 l)) := by
  have key : ∀ k i f l, i + k = 6 → k < f → l < 2 ^ 31 → lX0_zerosAtEnd_4 N f (nI l) (nI i) = some (nI (i + zz k l)) := by
    intro k
    induction k with
    | zero =>
      intro i f l hi hf hl
      obtain ⟨f, rfl⟩ : ∃ q, f = q + 1 := ⟨f - 1, by omega⟩
      have e : i = 6 := by omega
      subst e
      rw [lX0_zerosAtEnd_4, if_pos (by decide)]
      rfl
    | succ k ih =>
      intro i f l hi hf hl
      obtain ⟨f, rfl⟩ : ∃ q, f = q + 1 := ⟨f - 1, by omega⟩
      rw [lX0_zerosAtEnd_4, if_neg (show ¬ (6 : Int32) ≤ nI i from nI_ge (b := 6) (by omega) (by decide)), show nI l - nI l / 10 * 10 = nI (l % 10) from remI (d := 10) hl (by decide) (by decide), show nI l / 10 = nI (l / 10) from nI_div (b := 10) hl (by decide) (by decide)]
      have e0 : (nI (l % 10) = 0) ↔ l % 10 = 0 := nI_eq (b := 0) (by omega) (by decide)
      by_cases c : l % 10 = 0
      · rw [if_pos (e0.mpr c), nI_1, ih (i + 1) f (l / 10) (by omega) (by omega) (by omega)]
        show _ = some (nI (i + if l % 10 = 0 then zz k (l / 10) + 1 else 0))
        rw [if_pos c]
        congr 2
        omega
      · rw [if_neg (fun z => c (e0.mp z))]
        show _ = some (nI (i + if l % 10 = 0 then zz k (l / 10) + 1 else 0))
        rw [if_neg c]
        rfl
  unfold fX0_zerosAtEnd
  have h1 := key 6 0 N l rfl (by omega) hl
  rw [show nI 0 = (0 : Int32) from rfl, Nat.zero_add] at h1
  rw [h1]
  rfl
theorem zz_lt {R : Nat} (h0 : 0 < R) (h : R ≤ 600000) : zz 6 R < 6 := by
  have h1 := zz_iff 6 6 R (by omega)
  have h2 : ¬ R % 10 ^ 6 = 0 := by omega
  omega
theorem p10 : ∀ j, j ≤ 6 → 10 ^ j ≤ 1000000 := by decide
def nm (v : VS) (b : Nat) : Nat := (sN v b).toNatClampNeg
theorem BD.n {q : Nat} (h : BD B q v) {b : Nat} (hb : b < B) : sN v b = nI (nm v b) ∧ 500 ≤ nm v b ∧ nm v b ≤ 100000 := by
  have h1 := h.1 b hb
  obtain ⟨j, hj, e⟩ := nI_of (x := sN v b) (fun q => by rw [fa_lt, z0] at q; omega)
  have e2 : nm v b = j := by unfold nm; rw [e, nI_clamp hj]
  rw [e2]
  rw [e, nI_toInt hj] at h1
  exact ⟨e, by omega, by omega⟩
def okS (v : VS) (T R D i : Nat) : Bool := fre v i && (!T.testBit i && (decide (nm v i ≤ R) && decide ((R - nm v i) % D = 0)))
def nxS (v : VS) (T R D i : Nat) (a : Int32) : Int32 := if okS v T R D i = true then (if a = -1 then nI i else if sN v i ≤ sN v a.toNatClampNeg then a else nI i) else a
def NxI (v : VS) (T R D i : Nat) (a : Int32) : Prop := a = -1 ∨ ∃ j, j < i ∧ a = nI j ∧ okS v T R D j = true
theorem nx_I {T R D i : Nat} {a : Int32} (h : NxI v T R D i a) : NxI v T R D (i + 1) (nxS v T R D i a) := by
  have up : NxI v T R D (i + 1) a := by
    rcases h with h | ⟨j, h1, h2⟩
    · exact .inl h
    · exact .inr ⟨j, by omega, h2⟩
  unfold nxS
  by_cases c : okS v T R D i = true
  · have mine : NxI v T R D (i + 1) (nI i) := .inr ⟨i, by omega, rfl, c⟩
    rw [if_pos c]
    by_cases c2 : a = -1
    · rw [if_pos c2]; exact mine
    · rw [if_neg c2]
      by_cases c3 : sN v i ≤ sN v a.toNatClampNeg
      · rw [if_pos c3]; exact up
      · rw [if_neg c3]; exact mine
  · rw [if_neg c]; exact up
theorem d10 : ((1 : Int32) = 0) = False := by simp
theorem d00 : ((0 : Int32) = 0) = True := by simp
theorem lt_sub {a b : Nat} (ha : a < 2 ^ 30) (hb : b < 2 ^ 30) : (nI a - nI b < 0) ↔ a < b := by
  rw [fa_lt, fb_subI (by rw [nI_toInt (by omega), nI_toInt (by omega)]; omega) (by rw [nI_toInt (by omega), nI_toInt (by omega)]; omega), nI_toInt (by omega), nI_toInt (by omega), z0]
  omega
theorem X0_nextOld (hN0 : 2097152 ≤ N) (hB : sB v = nI B) (hl : B ≤ 20) {q : Nat} (hd : BD B q v) {R T : Nat} (h0 : 0 < R) (h : R ≤ 600000) (hT : T < 2 ^ 31) :
    fX0_nextOfOldWay N v (nI T) (nI R) = some (rng (nxS v T R (10 ^ (zz 6 R + 1))) B (-1)) ∧ NxI v T R (10 ^ (zz 6 R + 1)) B (rng (nxS v T R (10 ^ (zz 6 R + 1))) B (-1)) := by
  have hz := zz_lt h0 h
  have h1 := for_inv (B := B) (lX0_nextOfOldWay_11 N v (nI T) (nI R) (nI (zz 6 R))) (nxS v T R (10 ^ (zz 6 R + 1))) (NxI v T R (10 ^ (zz 6 R + 1)))
    (fun n a _ => by rw [lX0_nextOfOldWay_11, hB, if_pos (Int32.le_refl _)])
    (fun n a i hi ha => by
      refine ⟨?_, nx_I ha⟩
      obtain ⟨k1, k2, k3⟩ := hd.n hi
      have cmp : (if a = -1 then lX0_nextOfOldWay_11 N v (nI T) (nI R) (nI (zz 6 R)) n (nI i) (nI i + 1) else ck (nI i) 20 (ck a 20 (if sN v (nI i).toNatClampNeg ≤ sN v a.toNatClampNeg then lX0_nextOfOldWay_11 N v (nI T) (nI R) (nI (zz 6 R)) n a (nI i + 1) else lX0_nextOfOldWay_11 N v (nI T) (nI R) (nI (zz 6 R)) n (nI i) (nI i + 1)))) =
          lX0_nextOfOldWay_11 N v (nI T) (nI R) (nI (zz 6 R)) n (if a = -1 then nI i else if sN v i ≤ sN v a.toNatClampNeg then a else nI i) (nI i + 1) := by
        by_cases c : a = -1
        · rw [if_pos c, if_pos c]
        · rw [if_neg c, if_neg c]
          rcases ha with ha | ⟨j, h1, rfl, -⟩
          · exact absurd ha c
          · rw [ckI (by omega) (by decide), ckI (by omega) (by decide), nI_clamp (by omega)]
            split <;> rfl
      rw [lX0_nextOfOldWay_11, hB, if_neg (nI_ge hi (by omega)), ckI (by omega) (by decide), X3_isFree N v (by omega), bsome]
      simp only [d10, d00, if_false, if_true]
      rw [cmp, nI_clamp (by omega), k1]
      unfold nxS okS
      by_cases c1 : sK v i = -1
      · have f1 : fre v i = true := decide_eq_true c1
        rw [if_pos (decide_eq_true c1), f1]
        cases c2 : T.testBit i with
        | true =>
          rw [if_neg (fun z => by rw [(bit_at0 hT (by omega)).mp z] at c2; cases c2)]
          rfl
        | false =>
          rw [if_pos ((bit_at0 hT (by omega)).mpr c2)]
          by_cases c3 : nm v i ≤ R
          · rw [if_neg (fun z => by have := (lt_sub (by omega) (by omega)).mp z; omega), nI_sub c3, X0_zeros hN0 (by omega), bsome]
            have e1 : (nI (zz 6 (R - nm v i)) ≤ nI (zz 6 R)) ↔ ¬ (R - nm v i) % 10 ^ (zz 6 R + 1) = 0 := by
              have z1 := zz_iff 6 (zz 6 R + 1) (R - nm v i) (by omega)
              have z2 : zz 6 (R - nm v i) ≤ 6 := by
                have : ∀ f l, zz f l ≤ f := fun f => by
                  induction f with
                  | zero => intro l; exact Nat.le_refl 0
                  | succ f ih =>
                    intro l
                    show (if l % 10 = 0 then zz f (l / 10) + 1 else 0) ≤ f + 1
                    have := ih (l / 10)
                    split <;> omega
                exact this 6 _
              rw [nI_leI (by omega) (by omega)]
              omega
            by_cases c4 : (R - nm v i) % 10 ^ (zz 6 R + 1) = 0
            · rw [if_neg (fun z => e1.mp z c4)]
              simp [c3, c4]
              rw [k1]
            · rw [if_pos (e1.mpr c4)]
              simp [c4]
          · rw [if_pos ((lt_sub (by omega) (by omega)).mpr (by omega))]
            simp [c3]
      · have f1 : fre v i = false := decide_eq_false c1
        rw [if_neg (fun z => c1 (of_decide_eq_true z)), f1]
        rfl) (n := N) (by omega) (-1) (.inl rfl)
  refine ⟨?_, h1.2⟩
  unfold fX0_nextOfOldWay
  rw [X0_zeros hN0 (by omega), bsome, h1.1]
  rfl
end OW
