/-! the next greater set with as many bits -/
def pw (x : Nat) : Nat := fb_ct (fun i => x.testBit i) 32
theorem pw_eq {x n : Nat} (h : x < 2 ^ n) (hn : n ≤ 32) : fb_ct (fun i => x.testBit i) n = pw x := by
  unfold pw
  rw [← ct_cut (fun i => x.testBit i) hn]
  refine fb_ct_cong (fun k _ => ?_)
  by_cases c : k < n
  · simp [c]
  · have h2 : x.testBit k = false := tb_lt (Nat.lt_of_lt_of_le h (Nat.pow_le_pow_right (by decide) (by omega)))
    rw [h2]; simp
theorem pw_mul {k a u : Nat} (hk : k ≤ 32) (hu : u < 2 ^ k) (h : 2 ^ k * a + u < 2 ^ 32) : pw (2 ^ k * a + u) = pw a + pw u := by
  have ha : a < 2 ^ (32 - k) := by
    have e : 2 ^ k * 2 ^ (32 - k) = 2 ^ 32 := by rw [← Nat.pow_add]; congr 1; omega
    rcases Nat.lt_or_ge a (2 ^ (32 - k)) with z | z
    · exact z
    · have := Nat.mul_le_mul_left (2 ^ k) z
      omega
  have e : pw (2 ^ k * a + u) = fb_ct (fun i => (2 ^ k * a + u).testBit i) (k + (32 - k)) := by
    unfold pw
    rw [show k + (32 - k) = 32 by omega]
  rw [e, fb_ct_split, ← pw_eq ha (by omega), ← pw_eq hu hk, Nat.add_comm]
  congr 1
  · exact fb_ct_cong (fun i _ => by rw [Nat.testBit_two_pow_mul_add a hu, if_neg (by omega)]; congr 1; omega)
  · exact fb_ct_cong (fun i hi => by rw [Nat.testBit_two_pow_mul_add a hu, if_pos hi])
theorem pw_ones {t : Nat} (h : t ≤ 32) : pw (2 ^ t - 1) = t := by
  unfold pw
  rw [fb_ct_cong (q := fun i => decide (i < t) && true) (fun k _ => by rw [Nat.testBit_two_pow_sub_one]; simp), ct_cut (fun _ => true) h]
  exact fb_ct_all.mpr (fun _ _ => rfl)
theorem pw_z : pw 0 = 0 := by decide +kernel
theorem pw_1 : pw 1 = 1 := by decide +kernel
theorem pw_pos {u k : Nat} (h : u < 2 ^ k) (hk : k ≤ 32) (h0 : 0 < u) : 0 < pw u := by
  rcases Nat.eq_zero_or_pos (pw u) with z | z
  · rw [← pw_eq h hk] at z
    have : u = 0 := by
      apply Nat.eq_of_testBit_eq
      intro i
      rw [Nat.zero_testBit]
      rcases Nat.lt_or_ge i k with c | c
      · exact fb_ct_zero.mp z i c
      · exact tb_lt (Nat.lt_of_lt_of_le h (Nat.pow_le_pow_right (by decide) c))
    omega
  · exact z
theorem pw_less {u k : Nat} (hk : k ≤ 32) (h : u < 2 ^ k - 1) : pw u < k := by
  have h1 : u < 2 ^ k := by omega
  have h2 : pw u ≤ k := by rw [← pw_eq h1 hk]; exact fb_ct_le _ k
  rcases Nat.lt_or_ge (pw u) k with z | z
  · exact z
  · have e : pw u = k := by omega
    rw [← pw_eq h1 hk] at e
    have h3 := fb_ct_all.mp e
    have : u = 2 ^ k - 1 := by
      apply Nat.eq_of_testBit_eq
      intro i
      rw [Nat.testBit_two_pow_sub_one]
      rcases Nat.lt_or_ge i k with c | c
      · rw [h3 i c]; simp [c]
      · rw [tb_lt (Nat.lt_of_lt_of_le h1 (Nat.pow_le_pow_right (by decide) c))]; simp; omega
    omega
theorem odd_part : ∀ n, 0 < n → ∃ z a, n = 2 ^ z * (2 * a + 1) := by
  intro n
  induction n using Nat.strongRecOn with
  | ind n ih =>
    intro h
    rcases Nat.mod_two_eq_zero_or_one n with c | c
    · obtain ⟨z, a, e⟩ := ih (n / 2) (by omega) (by omega)
      refine ⟨z + 1, a, ?_⟩
      rw [Nat.pow_succ, Nat.mul_assoc, Nat.mul_left_comm, ← e]
      omega
    · exact ⟨0, n / 2, by omega⟩
/-- z zeros, t ones, a zero, then A -/
def gosX (z t A : Nat) : Nat := 2 ^ (z + t + 1) * A + 2 ^ z * (2 ^ t - 1)
def gU (z t A : Nat) : Nat := 2 ^ (z + t + 1) * A + 2 ^ (z + t)
def gY (z t A : Nat) : Nat := gU z t A + (2 ^ (t - 1) - 1)
theorem g_form {X : Nat} (h : 0 < X) : ∃ z t A, 1 ≤ t ∧ X = gosX z t A := by
  obtain ⟨z, a, e⟩ := odd_part X h
  obtain ⟨t, A, e2⟩ := odd_part (2 * a + 2) (by omega)
  have ht : 1 ≤ t := by
    rcases Nat.eq_zero_or_pos t with q | q
    · subst q; rw [Nat.pow_zero, Nat.one_mul] at e2; omega
    · exact q
  refine ⟨z, t, A, ht, ?_⟩
  have hp : 0 < 2 ^ t := Nat.two_pow_pos t
  have e3 : 2 * a + 1 = 2 ^ (t + 1) * A + (2 ^ t - 1) := by
    have : 2 ^ t * (2 * A + 1) = 2 ^ (t + 1) * A + 2 ^ t := by rw [Nat.pow_succ, Nat.mul_add, Nat.mul_one, Nat.mul_assoc]
    omega
  unfold gosX
  rw [e, e3, Nat.mul_add, ← Nat.mul_assoc, ← Nat.pow_add, Nat.add_assoc]
theorem g_w (z t : Nat) : 2 ^ z * (2 ^ t - 1) + 2 ^ z = 2 ^ (z + t) := by
  have hp : 0 < 2 ^ t := Nat.two_pow_pos t
  have e : 2 ^ t - 1 + 1 = 2 ^ t := by omega
  rw [Nat.pow_add, ← Nat.mul_succ, Nat.succ_eq_add_one, e]
theorem g_lt (z t : Nat) : 2 ^ z * (2 ^ t - 1) < 2 ^ (z + t) := by
  have := g_w z t
  have := Nat.two_pow_pos z
  omega
theorem g_up (z t A : Nat) : gosX z t A + 2 ^ z = gU z t A := by
  unfold gosX gU
  have := g_w z t
  omega
theorem g_XY {z t A : Nat} : gosX z t A < gY z t A := by
  unfold gY
  have := g_up z t A
  have := Nat.two_pow_pos z
  omega
theorem p2s (n : Nat) : 2 ^ (n + 1) = 2 * 2 ^ n := by rw [Nat.pow_succ, Nat.mul_comm]
theorem g_bd {z t A : Nat} (ht : 1 ≤ t) (h : gosX z t A < 2 ^ 20) : z + t ≤ 20 ∧ gU z t A < 2 ^ 21 ∧ gY z t A < 2 ^ 21 ∧ 2 ^ (t - 1) ≤ 2 ^ (z + t) := by
  have h1 := g_w z t
  have hz := Nat.two_pow_pos z
  have hzt : z + t ≤ 20 := by
    rcases Nat.lt_or_ge 20 (z + t) with c | c
    · have h2 : 2 ^ 21 ≤ 2 ^ (z + t) := Nat.pow_le_pow_right (by decide) c
      have h3 : 2 ^ z ≤ 2 ^ (z + t - 1) := Nat.pow_le_pow_right (by decide) (by omega)
      have h4 := p2s (z + t - 1)
      rw [show z + t - 1 + 1 = z + t by omega] at h4
      unfold gosX at h
      omega
    · exact c
  have h5 : 2 ^ z ≤ 2 ^ (z + t - 1) := Nat.pow_le_pow_right (by decide) (by omega)
  have h6 : 2 ^ (t - 1) ≤ 2 ^ (z + t - 1) := Nat.pow_le_pow_right (by decide) (by omega)
  have h7 := p2s (z + t - 1)
  rw [show z + t - 1 + 1 = z + t by omega] at h7
  have h8 := g_up z t A
  -- the high part is a multiple of 2 ^ (z + t + 1), and is less than 2 ^ 20
  have h9 : gU z t A + 2 ^ (z + t) ≤ 2 ^ 20 + 2 ^ (z + t) := by
    have h10 := p2s (z + t)
    have h11 : gU z t A ≤ 2 ^ 20 := by
      -- gU = 2 ^ (z + t) * (2 A + 1) and gosX < 2 ^ 20 is in the same stretch
      have e : gU z t A = 2 ^ (z + t) * (2 * A + 1) := by
        unfold gU
        rw [p2s, Nat.mul_add, Nat.mul_one, ← Nat.mul_assoc, Nat.mul_comm 2]
      have e2 : (2 : Nat) ^ 20 = 2 ^ (z + t) * 2 ^ (20 - (z + t)) := by rw [← Nat.pow_add]; congr 1; omega
      rcases Nat.lt_or_ge (2 ^ (20 - (z + t))) (2 * A + 1) with c | c
      · have h12 := Nat.mul_le_mul_left (2 ^ (z + t)) (show 2 ^ (20 - (z + t)) ≤ 2 * A by omega)
        rw [← e2] at h12
        have h13 : 2 ^ (z + t) * (2 * A) + 2 ^ z * (2 ^ t - 1) = gosX z t A := by
          unfold gosX
          rw [p2s, ← Nat.mul_assoc, Nat.mul_comm 2]
        omega
      · have h12 := Nat.mul_le_mul_left (2 ^ (z + t)) c
        rw [← e2] at h12
        omega
    omega
  have h20 : 2 ^ (z + t) ≤ 2 ^ 20 := Nat.pow_le_pow_right (by decide) hzt
  refine ⟨hzt, by omega, ?_, by omega⟩
  unfold gY
  have := Nat.two_pow_pos (t - 1)
  omega
theorem g_pw {z t A : Nat} (ht : 1 ≤ t) (h : gosX z t A < 2 ^ 20) : pw (gosX z t A) = pw A + t ∧ pw (gY z t A) = pw A + t := by
  obtain ⟨h1, h2, h3, h4⟩ := g_bd ht h
  have hzt := g_lt z t
  have hs := p2s (z + t)
  have hp1 := Nat.two_pow_pos (t - 1)
  have hpz := Nat.two_pow_pos (z + t)
  constructor
  · unfold gosX at h ⊢
    rw [pw_mul (by omega) (by omega) (by omega)]
    congr 1
    have e := pw_mul (k := z) (a := 2 ^ t - 1) (u := 0) (by omega) (Nat.two_pow_pos z) (by omega)
    rw [Nat.add_zero, pw_z, Nat.add_zero] at e
    rw [e, pw_ones (by omega)]
  · have e1 : gY z t A = 2 ^ (z + t + 1) * A + (2 ^ (z + t) * 1 + (2 ^ (t - 1) - 1)) := by
      unfold gY gU
      omega
    have e0 : gY z t A < 2 ^ 32 := by omega
    rw [e1] at e0 ⊢
    rw [pw_mul (by omega) (by omega) e0, pw_mul (by omega) (by omega) (by omega), pw_1, pw_ones (by omega)]
    omega
theorem g_gap {z t A W : Nat} (ht : 1 ≤ t) (h : gosX z t A < 2 ^ 20) (h1 : gosX z t A < W) (h2 : W < gY z t A) : pw W ≠ pw (gosX z t A) := by
  obtain ⟨b1, b2, b3, b4⟩ := g_bd ht h
  have hp := (g_pw ht h).1
  have hs := p2s (z + t)
  have hw := g_w z t
  have hp1 := Nat.two_pow_pos (t - 1)
  obtain ⟨w, rfl⟩ : ∃ w, W = 2 ^ (z + t + 1) * A + w := ⟨W - 2 ^ (z + t + 1) * A, by unfold gosX at h1; omega⟩
  have hw1 : 2 ^ z * (2 ^ t - 1) < w := by unfold gosX at h1; omega
  have hw2 : w < 2 ^ (z + t) + (2 ^ (t - 1) - 1) := by unfold gY gU at h2; omega
  rw [pw_mul (by omega) (by omega) (by omega), hp]
  rcases Nat.lt_or_ge w (2 ^ (z + t)) with c | c
  · obtain ⟨u, rfl⟩ : ∃ u, w = 2 ^ z * (2 ^ t - 1) + u := ⟨w - 2 ^ z * (2 ^ t - 1), by omega⟩
    have hu : u < 2 ^ z := by omega
    rw [pw_mul (by omega) hu (by omega), pw_ones (by omega)]
    have := pw_pos hu (by omega) (by omega)
    omega
  · obtain ⟨u, rfl⟩ : ∃ u, w = 2 ^ (z + t) * 1 + u := ⟨w - 2 ^ (z + t), by omega⟩
    have hu : u < 2 ^ (t - 1) - 1 := by omega
    rw [pw_mul (by omega) (by omega) (by omega), pw_1]
    have := pw_less (k := t - 1) (by omega) hu
    omega
theorem g_low {z t A : Nat} (ht : 1 ≤ t) (h : gosX z t A < 2 ^ 20) : gosX z t A &&& (2 ^ 32 - gosX z t A) = 2 ^ z := by
  obtain ⟨b1, b2, b3, b4⟩ := g_bd ht h
  -- gosX = 2 ^ (z + 1) * w + 2 ^ z
  obtain ⟨w, hw⟩ : ∃ w, gosX z t A = 2 ^ (z + 1) * w + 2 ^ z := by
    refine ⟨2 ^ t * A + (2 ^ (t - 1) - 1), ?_⟩
    unfold gosX
    have e1 : 2 ^ (z + t + 1) * A = 2 ^ (z + 1) * (2 ^ t * A) := by rw [← Nat.mul_assoc, ← Nat.pow_add]; congr 2; omega
    have e2 : 2 ^ z * (2 ^ t - 1) = 2 ^ (z + 1) * (2 ^ (t - 1) - 1) + 2 ^ z := by
      have e3 : 2 ^ t - 1 = 2 * (2 ^ (t - 1) - 1) + 1 := by
        have := p2s (t - 1)
        rw [show t - 1 + 1 = t by omega] at this
        have := Nat.two_pow_pos (t - 1)
        omega
      rw [e3, Nat.mul_add, Nat.mul_one, p2s, ← Nat.mul_assoc, Nat.mul_comm (2 ^ z) 2]
    rw [e1, e2, Nat.mul_add, Nat.add_assoc]
  have hz := Nat.two_pow_pos z
  have hs := p2s z
  generalize gosX z t A = X at h hw
  have e1 : 2 ^ 32 - X = 2 ^ 32 - (X - 1 + 1) := by omega
  apply Nat.eq_of_testBit_eq
  intro i
  rw [Nat.testBit_and, e1, Nat.testBit_two_pow_sub_succ (by omega), Nat.testBit_two_pow]
  have e2 : X - 1 = 2 ^ (z + 1) * w + (2 ^ z - 1) := by omega
  rw [e2, hw, Nat.testBit_two_pow_mul_add w (by omega), Nat.testBit_two_pow_mul_add w (by omega), Nat.testBit_two_pow, Nat.testBit_two_pow_sub_one]
  by_cases c : i < z + 1
  · rw [if_pos c, if_pos c]
    by_cases c2 : z = i
    · subst c2; simp; omega
    · simp [c2]
  · rw [if_neg c, if_neg c]
    have c2 : ¬ z = i := by omega
    cases w.testBit (i - (z + 1)) <;> simp [c2]
theorem g_xor {z t A : Nat} (ht : 1 ≤ t) : gosX z t A ^^^ gU z t A = 2 ^ z * (2 ^ (t + 1) - 1) := by
  have hs := p2s (z + t)
  have hlt := g_lt z t
  have hlt2 : 2 ^ z * (2 ^ (t + 1) - 1) < 2 ^ (z + t + 1) := g_lt z (t + 1)
  apply Nat.eq_of_testBit_eq
  intro i
  unfold gosX gU
  rw [Nat.testBit_xor, Nat.testBit_two_pow_mul_add A (by omega), Nat.testBit_two_pow_mul_add A (by omega)]
  have tm : ∀ c, (2 ^ z * (2 ^ c - 1)).testBit i = (decide (z ≤ i) && decide (i - z < c)) := fun c => by
    have := Nat.testBit_two_pow_mul_add (2 ^ c - 1) (Nat.two_pow_pos z) i
    rw [Nat.add_zero] at this
    rw [this, Nat.zero_testBit, Nat.testBit_two_pow_sub_one]
    by_cases q : i < z
    · simp [q]; omega
    · simp [q]; omega
  rw [tm, tm, Nat.testBit_two_pow]
  by_cases c : i < z + t + 1
  · rw [if_pos c, if_pos c]
    by_cases c1 : z ≤ i
    · by_cases c2 : i - z < t
      · have c3 : ¬ z + t = i := by omega
        have c4 : i - z < t + 1 := by omega
        simp [c1, c2, c3, c4]
      · have c3 : z + t = i := by omega
        have c4 : i - z < t + 1 := by omega
        simp [c1, c2, c3, c4]
    · have c3 : ¬ z + t = i := by omega
      simp [c1, c3]
  · rw [if_neg c, if_neg c]
    have c4 : ¬ i - z < t + 1 := by omega
    simp [c4]
theorem X5_next (N : Nat) {z t A : Nat} (ht : 1 ≤ t) (h : gosX z t A < 2 ^ 20) : fX5_nextSet N (nI (gosX z t A)) = some (nI (gY z t A)) := by
  obtain ⟨b1, b2, b3, b4⟩ := g_bd ht h
  have hz := Nat.two_pow_pos z
  have hz2 : 2 ^ z ≤ 2 ^ 20 := Nat.pow_le_pow_right (by decide) (by omega)
  have hp1 := Nat.two_pow_pos (t - 1)
  have low : nI (gosX z t A) &&& (-(nI (gosX z t A))) = nI (2 ^ z) := by
    have e : -(nI (gosX z t A)) = nI (2 ^ 32 - gosX z t A) := by
      rw [← nI_sub (show gosX z t A ≤ 2 ^ 32 by omega), show nI (2 ^ 32) = (0 : Int32) from by decide +kernel, Int32.zero_sub]
    rw [e, fa_and, g_low ht h]
  have hV : 2 ^ z * (2 ^ (t + 1) - 1) < 2 ^ 22 := by
    have h1 := g_lt z (t + 1)
    have h2 : 2 ^ (z + (t + 1)) ≤ 2 ^ 21 := Nat.pow_le_pow_right (by decide) (by omega)
    omega
  unfold fX5_nextSet cz
  rw [low, if_neg (nI_ne0 hz (by omega)), nI_add, g_up, fb_xorI, g_xor ht, show nI (2 ^ z * (2 ^ (t + 1) - 1)) >>> ((2 : Int32) &&& 31) = nI (2 ^ z * (2 ^ (t + 1) - 1) / 2 ^ 2) from shr_n (i := 2) (by omega) (by decide)]
  have hq : 2 ^ z * (2 ^ (t + 1) - 1) / 2 ^ 2 ≤ 2 ^ z * (2 ^ (t + 1) - 1) := Nat.div_le_self _ _
  rw [nI_div (by omega) hz (by omega)]
  have e : 2 ^ z * (2 ^ (t + 1) - 1) / 2 ^ 2 / 2 ^ z = 2 ^ (t - 1) - 1 := by
    rw [Nat.div_div_eq_div_mul, Nat.mul_comm (2 ^ 2), Nat.mul_div_mul_left _ _ hz]
    have h1 := p2s t
    have h2 := p2s (t - 1)
    rw [show t - 1 + 1 = t by omega] at h2
    omega
  rw [e, show nI (2 ^ (t - 1) - 1) ||| nI (gU z t A) = nI ((2 ^ (t - 1) - 1) ||| gU z t A) from fa_or _ _]
  congr 2
  have e2 : gU z t A = 2 ^ (z + t) * (2 * A + 1) := by
    unfold gU
    rw [p2s, Nat.mul_add, Nat.mul_one, ← Nat.mul_assoc, Nat.mul_comm 2]
  unfold gY
  rw [e2, Nat.or_comm, ← Nat.two_pow_add_eq_or_of_lt (show 2 ^ (t - 1) - 1 < 2 ^ (z + t) by omega)]
