/-! the free set; different lengths -/
section FS
variable {N B : Nat} {v : VS}
theorem sh_0 : ∀ i, i < 31 → (0 : Int32) <<< (nI i &&& 31) = 0 := by decide +kernel
theorem nI_or0 (a : Int32) : a ||| 0 = a := Int32.or_zero
/-- a set of free blocks by their places, as one by their numbers -/
def exq (v : VS) (B X : Nat) : Nat := mkb (fun b => fre v b && X.testBit (fb_ct (fre v) b)) B
/-! lengths -/
def saS (v : VS) (l : Int32) (i : Nat) (a : Int32) : Int32 := if fre v i = true then (if sN v i ≤ l then a else if a = -1 then sN v i else if a ≤ sN v i then a else sN v i) else a
def sa (v : VS) (B : Nat) (l : Int32) : Int32 := rng (saS v l) B (-1)
theorem X0_shortest (hN0 : 2097152 ≤ N) (hB : sB v = nI B) (hl : B ≤ 20) (l : Int32) : fX0_shortestAbove N v l = some (sa v B l) := by
  have h1 := for_pure (B := B) (lX0_shortestAbove_4 N v l) (saS v l)
    (fun n a => by rw [lX0_shortestAbove_4, hB, if_pos (Int32.le_refl _)])
    (fun n a i hi => by
      rw [lX0_shortestAbove_4, hB, if_neg (nI_ge hi (by omega)), ckI (by omega) (by decide), X3_isFree N v (by omega), bsome, nI_clamp (by omega)]
      unfold saS
      show (if fre v i = true then _ else _) = _
      (repeat' split) <;> rfl) (n := N) (by omega) (-1)
  unfold fX0_shortestAbove
  rw [h1]
  rfl
theorem sa_spec (v : VS) (B : Nat) (l : Int32) : sa v B l = -1 ∨ ∃ b, b < B ∧ fre v b = true ∧ sN v b = sa v B l ∧ l < sN v b := by
  have key : ∀ n, rng (saS v l) n (-1) = -1 ∨ ∃ b, b < n ∧ fre v b = true ∧ sN v b = rng (saS v l) n (-1) ∧ l < sN v b := by
    intro n
    induction n with
    | zero => exact .inl rfl
    | succ n ih =>
      show saS v l n (rng (saS v l) n (-1)) = -1 ∨ ∃ b, b < n + 1 ∧ fre v b = true ∧ sN v b = saS v l n (rng (saS v l) n (-1)) ∧ l < sN v b
      have up : rng (saS v l) n (-1) = -1 ∨ ∃ b, b < n + 1 ∧ fre v b = true ∧ sN v b = rng (saS v l) n (-1) ∧ l < sN v b := by
        rcases ih with q | ⟨b, q1, q2⟩
        · exact .inl q
        · exact .inr ⟨b, by omega, q2⟩
      generalize rng (saS v l) n (-1) = a at up
      unfold saS
      by_cases c1 : fre v n = true
      · rw [if_pos c1]
        by_cases c2 : sN v n ≤ l
        · rw [if_pos c2]; exact up
        · rw [if_neg c2]
          have mine : ∃ b, b < n + 1 ∧ fre v b = true ∧ sN v b = sN v n ∧ l < sN v b := ⟨n, by omega, c1, rfl, Int32.not_le.mp c2⟩
          by_cases c3 : a = -1
          · rw [if_pos c3]; exact .inr mine
          · rw [if_neg c3]
            by_cases c4 : a ≤ sN v n
            · rw [if_pos c4]; exact up
            · rw [if_neg c4]; exact .inr mine
      · rw [if_neg c1]; exact up
  exact key B
def itL (v : VS) (B : Nat) : Nat → Int32
  | 0 => sa v B 0
  | k + 1 => if itL v B k = -1 then -1 else sa v B (itL v B k)
def cntL (v : VS) (B : Nat) (l : Int32) : Nat := fb_ct (fun b => fre v b && decide (sN v b ≤ l)) B
theorem cnt_up (v : VS) (B : Nat) (l : Int32) (h : sa v B l ≠ -1) : cntL v B l + 1 ≤ cntL v B (sa v B l) := by
  rcases sa_spec v B l with q | ⟨b, q1, q2, q3, q4⟩
  · exact absurd q h
  · have h1 : fb_ct (fun k => (fre v k && decide (sN v k ≤ l)) || decide (k = b)) B = cntL v B l + 1 := by
      rw [fb_ct_or (fun k hk z => by
        have z2 : k = b := of_decide_eq_true z.2
        subst z2
        have z3 := z.1
        simp at z3
        exact absurd q4 (Int32.not_lt.mpr z3.2)), ct_one (q := fun o => decide (o = b)) q1 (fun k _ => rfl)]
      rfl
    have h2 : fb_ct (fun k => (fre v k && decide (sN v k ≤ l)) || decide (k = b)) B ≤ cntL v B (sa v B l) := fb_ct_sub (fun k hk z => by
      rcases Bool.or_eq_true_iff.mp z with z1 | z1
      · simp at z1
        simp
        exact ⟨z1.1, Int32.le_trans z1.2 (Int32.le_of_lt (q3 ▸ q4))⟩
      · have z2 : k = b := of_decide_eq_true z1
        subst z2
        simp [q2, q3])
    omega
theorem itL_cnt (v : VS) (B : Nat) : ∀ k, itL v B k ≠ -1 → k + 1 ≤ cntL v B (itL v B k)
  | 0, h => by
    have := cnt_up v B 0 h
    show 1 ≤ cntL v B (sa v B 0)
    omega
  | k + 1, h => by
    have hs : itL v B (k + 1) = if itL v B k = -1 then -1 else sa v B (itL v B k) := rfl
    by_cases c : itL v B k = -1
    · rw [hs, if_pos c] at h; exact absurd rfl h
    · rw [hs, if_neg c] at h ⊢
      have h1 := itL_cnt v B k c
      have h2 := cnt_up v B (itL v B k) h
      omega
theorem itL_end (v : VS) (B : Nat) {k : Nat} (h : B ≤ k) : itL v B k = -1 := by
  rcases Classical.em (itL v B k = -1) with q | q
  · exact q
  · have h1 := itL_cnt v B k q
    have h2 : cntL v B (itL v B k) ≤ B := fb_ct_le _ B
    omega
theorem itL_stay (v : VS) (B : Nat) {k : Nat} (h : itL v B k = -1) : ∀ j, itL v B (k + j) = -1
  | 0 => h
  | j + 1 => if_pos (itL_stay v B h j)
theorem X0_lor (hN0 : 2097152 ≤ N) (hB : sB v = nI B) (hl : B ≤ 20) {r : Nat} (hr : r < 20) : fX0_lengthOfRank N v (nI r) = some (itL v B r) := by
  have key : ∀ k i f, i + k = r → k + 2 < f → lX0_lengthOfRank_12 N v (nI r) f (itL v B i) (nI (i + 1)) = some (itL v B r) := by
    intro k
    induction k with
    | zero =>
      intro i f hi hf
      obtain ⟨f, rfl⟩ : ∃ q, f = q + 1 := ⟨f - 1, by omega⟩
      have e : i = r := by omega
      subst e
      rw [lX0_lengthOfRank_12, if_pos (nI_lt (by omega) (by omega))]
    | succ k ih =>
      intro i f hi hf
      obtain ⟨f, rfl⟩ : ∃ q, f = q + 1 := ⟨f - 1, by omega⟩
      rw [lX0_lengthOfRank_12, if_neg (nI_nlt (by omega) (by omega))]
      by_cases c : itL v B i = -1
      · rw [if_pos c, c]
        have h2 := itL_stay v B c (k + 1)
        rw [hi] at h2
        rw [h2]
      · rw [if_neg c, X0_shortest hN0 hB hl, bsome, nI_1]
        have h2 := ih (i + 1) f (by omega) (by omega)
        rw [show itL v B (i + 1) = sa v B (itL v B i) from if_neg c] at h2
        exact h2
  have h0 : lX0_lengthOfRank_12 N v (nI r) N 0 0 = some (itL v B r) := by
    obtain ⟨f, hf⟩ : ∃ q, N = q + 1 := ⟨N - 1, by omega⟩
    have h2 := key r 0 f (by omega) (by omega)
    have e : ∀ M, M = f + 1 → lX0_lengthOfRank_12 N v (nI r) M 0 0 = some (itL v B r) := fun M hM => by
      subst hM
      rw [lX0_lengthOfRank_12, if_neg (show ¬ nI r < 0 from nI_pos (by omega)), if_neg (by decide), X0_shortest hN0 hB hl, bsome]
      exact h2
    exact e N hf
  unfold fX0_lengthOfRank
  rw [if_pos (show nI r < 20 from nI_lt (b := 20) hr (by decide)), h0]
  rfl
theorem X0_diff (hN0 : 2097152 ≤ N) (hB : sB v = nI B) (hl : B ≤ 20) : ∃ t, fX0_differentLengths N v = some (nI t) ∧ itL v B t = -1 ∧ (∀ j, j < t → itL v B j ≠ -1) ∧ t ≤ 20 := by
  have key : ∀ k i f, i + k = 20 → k + 1 < f → (∀ j, j < i → itL v B j ≠ -1) → ∃ t, lX0_differentLengths_2 N v f (nI i) = some (nI t) ∧ itL v B t = -1 ∧ (∀ j, j < t → itL v B j ≠ -1) ∧ t ≤ 20 := by
    intro k
    induction k with
    | zero =>
      intro i f hi hf hj
      obtain ⟨f, rfl⟩ : ∃ q, f = q + 1 := ⟨f - 1, by omega⟩
      have e : i = 20 := by omega
      subst e
      rw [lX0_differentLengths_2, if_pos (by decide)]
      exact ⟨20, rfl, itL_end v B hl, hj, by omega⟩
    | succ k ih =>
      intro i f hi hf hj
      obtain ⟨f, rfl⟩ : ∃ q, f = q + 1 := ⟨f - 1, by omega⟩
      rw [lX0_differentLengths_2, if_neg (show ¬ (20 : Int32) ≤ nI i from nI_ge (b := 20) (by omega) (by decide)), X0_lor hN0 hB hl (by omega), bsome]
      by_cases c : itL v B i = -1
      · rw [if_pos c]
        exact ⟨i, rfl, c, hj, by omega⟩
      · rw [if_neg c, nI_1]
        exact ih (i + 1) f (by omega) (by omega) (lt_s hj c)
  obtain ⟨t, h1, h2⟩ := key 20 0 N rfl (by omega) lt_0
  refine ⟨t, ?_, h2⟩
  unfold fX0_differentLengths
  rw [show (0 : Int32) = nI 0 from rfl, h1]
  rfl
end FS
