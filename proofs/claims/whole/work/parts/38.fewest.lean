/-! the fewest blocks: the reference's search, and both alike -/
section FW
variable {N B : Nat} {v : VS} {m : VM}
theorem exq_lt (v : VS) (B X : Nat) : exq v B X < 2 ^ B := mkb_lt _ B
theorem exq_bit (v : VS) (B X i : Nat) : (exq v B X).testBit i = (decide (i < B) && (fre v i && X.testBit (fb_ct (fre v) i))) := mkb_bit _ i B
theorem exq_sub (v : VS) (B X : Nat) : Sub v B (exq v B X) := fun i h => by
  rw [exq_bit] at h
  simp only [Bool.and_eq_true, decide_eq_true_eq] at h
  exact ⟨h.1, h.2.1⟩
theorem exq_pop (hl : B ≤ 20) (X : Nat) (hX : X < 2 ^ fb_ct (fre v) B) : pop (exq v B X) = pw X := by
  have hc := fb_ct_le (fre v) B
  have e1 : pop (exq v B X) = fb_ct (fun b => fre v b && X.testBit (fb_ct (fre v) b)) B := by
    unfold pop
    rw [fb_ct_cong (q := fun i => decide (i < B) && (fre v i && X.testBit (fb_ct (fre v) i))) (fun k _ => exq_bit v B X k), ct_cut (fun i => fre v i && X.testBit (fb_ct (fre v) i)) hl]
  have e2 : ∀ n, fb_ct (fun b => fre v b && X.testBit (fb_ct (fre v) b)) n = fb_ct (fun k => X.testBit k) (fb_ct (fre v) n) := fun n => by
    induction n with
    | zero => rfl
    | succ n ih =>
      rw [fb_ct_succ, fb_ct_succ, ih]
      cases c : fre v n with
      | true => simp only [Bool.true_and, if_true, fb_ct_succ]
      | false => rfl
  rw [e1, e2, pw_eq hX (by omega)]
theorem exq_mono (v : VS) : ∀ n X Y, X < 2 ^ fb_ct (fre v) n → Y < 2 ^ fb_ct (fre v) n → X ≤ Y → exq v n X ≤ exq v n Y
  | 0, _, _, _, _, _ => Nat.le_refl _
  | n + 1, X, Y, hX, hY, h => by
    have es : ∀ Z, exq v (n + 1) Z = exq v n Z + if (fre v n && Z.testBit (fb_ct (fre v) n)) = true then 2 ^ n else 0 := fun Z => rfl
    cases c : fre v n with
    | false =>
      rw [fb_ct_succ, c] at hX hY
      rw [es, es, c]
      exact exq_mono v n X Y hX hY h
    | true =>
      rw [fb_ct_succ, c, if_pos rfl, p2s] at hX hY
      have hp := Nat.two_pow_pos (fb_ct (fre v) n)
      have em : ∀ Z, exq v n Z = exq v n (Z % 2 ^ fb_ct (fre v) n) := fun Z => mkb_cong (fun k hk => by
        cases ck : fre v k with
        | false => rfl
        | true =>
          have h3 := fb_ct_mono (fre v) (show k + 1 ≤ n by omega)
          rw [fb_ct_succ, ck, if_pos rfl] at h3
          rw [Nat.testBit_mod_two_pow]
          simp [show fb_ct (fre v) k < fb_ct (fre v) n by omega])
      have tb : ∀ Z, Z < 2 * 2 ^ fb_ct (fre v) n → (Z.testBit (fb_ct (fre v) n) = true ↔ 2 ^ fb_ct (fre v) n ≤ Z) := fun Z hZ => by
        constructor
        · intro q
          rcases Nat.lt_or_ge Z (2 ^ fb_ct (fre v) n) with z | z
          · rw [tb_lt z] at q; cases q
          · exact z
        · intro q
          obtain ⟨Q, hQ, rfl⟩ := top_bit q (by rw [p2s]; exact hZ)
          rw [or_bit, if_pos rfl]
      rw [es, es, c, Bool.true_and, Bool.true_and, em X, em Y]
      have mX : X % 2 ^ fb_ct (fre v) n < 2 ^ fb_ct (fre v) n := Nat.mod_lt _ hp
      have mY : Y % 2 ^ fb_ct (fre v) n < 2 ^ fb_ct (fre v) n := Nat.mod_lt _ hp
      have hbX : exq v n (X % 2 ^ fb_ct (fre v) n) < 2 ^ n := exq_lt v n _
      by_cases cX : 2 ^ fb_ct (fre v) n ≤ X
      · have cY : 2 ^ fb_ct (fre v) n ≤ Y := by omega
        rw [if_pos ((tb X hX).mpr cX), if_pos ((tb Y hY).mpr cY)]
        have e1 : X % 2 ^ fb_ct (fre v) n = X - 2 ^ fb_ct (fre v) n := by rw [Nat.mod_eq_sub_mod cX, Nat.mod_eq_of_lt (by omega)]
        have e2 : Y % 2 ^ fb_ct (fre v) n = Y - 2 ^ fb_ct (fre v) n := by rw [Nat.mod_eq_sub_mod cY, Nat.mod_eq_of_lt (by omega)]
        have := exq_mono v n _ _ mX mY (show X % 2 ^ fb_ct (fre v) n ≤ Y % 2 ^ fb_ct (fre v) n by omega)
        omega
      · rw [if_neg (fun q => cX ((tb X hX).mp q))]
        by_cases cY : 2 ^ fb_ct (fre v) n ≤ Y
        · rw [if_pos ((tb Y hY).mpr cY)]
          omega
        · rw [if_neg (fun q => cY ((tb Y hY).mp q))]
          have e1 : X % 2 ^ fb_ct (fre v) n = X := Nat.mod_eq_of_lt (by omega)
          have e2 : Y % 2 ^ fb_ct (fre v) n = Y := Nat.mod_eq_of_lt (by omega)
          have := exq_mono v n _ _ mX mY (show X % 2 ^ fb_ct (fre v) n ≤ Y % 2 ^ fb_ct (fre v) n by omega)
          omega
def cmq (v : VS) (M : Nat) : Nat → Nat
  | 0 => 0
  | n + 1 => cmq v M n + if (fre v n && M.testBit n) = true then 2 ^ fb_ct (fre v) n else 0
theorem cmq_lt (v : VS) (M : Nat) : ∀ n, cmq v M n < 2 ^ fb_ct (fre v) n
  | 0 => Nat.one_pos
  | n + 1 => by
    have ih := cmq_lt v M n
    show cmq v M n + (if (fre v n && M.testBit n) = true then 2 ^ fb_ct (fre v) n else 0) < _
    rw [fb_ct_succ]
    cases c : fre v n with
    | false => exact ih
    | true =>
      rw [if_pos rfl, p2s]
      split <;> omega
theorem cmq_bit (v : VS) (M : Nat) : ∀ n b, b < n → fre v b = true → (cmq v M n).testBit (fb_ct (fre v) b) = M.testBit b
  | 0, _, h, _ => absurd h (Nat.not_lt_zero _)
  | n + 1, b, h, hf => by
    have hlt := cmq_lt v M n
    show (cmq v M n + (if (fre v n && M.testBit n) = true then 2 ^ fb_ct (fre v) n else 0)).testBit _ = _
    rcases Nat.decEq b n with q | q
    · have hbn : b < n := by omega
      have ih := cmq_bit v M n b hbn hf
      have h3 := fb_ct_mono (fre v) (show b + 1 ≤ n by omega)
      rw [fb_ct_succ, hf, if_pos rfl] at h3
      split
      · rw [← or_add hlt, or_bit, if_neg (by omega)]; exact ih
      · exact ih
    · subst q
      rw [hf, Bool.true_and]
      cases c : M.testBit b with
      | true => rw [if_pos rfl, ← or_add hlt, or_bit, if_pos rfl]
      | false => exact tb_lt hlt
theorem exq_cmq {M : Nat} (h : Sub v B M) : exq v B (cmq v M B) = M := by
  apply Nat.eq_of_testBit_eq
  intro i
  rw [exq_bit]
  cases c : M.testBit i with
  | true =>
    obtain ⟨h1, h2⟩ := h i c
    rw [cmq_bit v M B i h1 h2, c, h2]
    simp [h1]
  | false =>
    by_cases h1 : i < B
    · cases h2 : fre v i with
      | false => simp
      | true => rw [cmq_bit v M B i h1 h2, c]; simp
    · simp [h1]
theorem X5_sumOf (hN0 : 2097152 ≤ N) (h : RS B v (mRow m)) {f : Nat → Int32} (hf : FL v B f) {X : Nat} (hX : X < 2 ^ 31) : fX5_sumOf N (mF m f (nI (fb_ct (fre v) B))) (nI X) = some (sumM v B (exq v B X)) := by
  have hl := h.le
  have hc := fb_ct_le (fre v) B
  have h1 := for_pure (B := fb_ct (fre v) B) (lX5_sumOf_4 N (mF m f (nI (fb_ct (fre v) B))) (nI X)) (fun k a => if X.testBit (fb_ct (fre v) (ixf f k)) = true then a + sN v (ixf f k) else a)
    (fun n a => by rw [lX5_sumOf_4]; exact if_pos (Int32.le_refl _))
    (fun n a i hi => by
      obtain ⟨q1, q2, q3, q4⟩ := hf.at hl hi
      have hof : fX5_of N (mF m f (nI (fb_ct (fre v) B))) (f i) 0 = some (sN v (ixf f i)) := by
        rw [q3, of_0 N _ (by omega)]
        exact congrArg some (h.n q1)
      rw [lX5_sumOf_4]
      show (if nI (fb_ct (fre v) B) ≤ nI i then _ else _) = _
      rw [if_neg (nI_ge hi (by omega)), ckI (by omega) (by decide), nI_clamp (by omega), q4, Int32.add_zero]
      show (if ((nI X >>> (nI i &&& 31)) &&& 1) = 1 then ((fX5_of N (mF m f (nI (fb_ct (fre v) B))) (f i) 0).bind _) else _) = _
      rw [hof, bsome]
      by_cases c : X.testBit i = true
      · rw [if_pos ((bit_at1 hX (by omega)).mpr c), if_pos c]
      · rw [if_neg (fun z => c ((bit_at1 hX (by omega)).mp z)), if_neg c]) (n := N) (by omega) 0
  unfold fX5_sumOf
  rw [h1, bsome, rng_free (p := fre v) (g := fun i a => if X.testBit (fb_ct (fre v) i) = true then a + sN v i else a) (idx := ixf f) (fun b hb hp => hf.ixx hl hb hp)]
  refine congrArg some (rng_cong (fun i x hi => ?_))
  rw [exq_bit]
  cases fre v i <;> simp [hi]
def GdX (v : VS) (B many : Nat) (l : Int32) (X : Nat) : Prop := X < 2 ^ fb_ct (fre v) B ∧ pw X = many ∧ sumM v B (exq v B X) = l
theorem X5_f26 (hN0 : 2097152 ≤ N) (h : RS B v (mRow m)) {f : Nat → Int32} (hf : FL v B f) (l l2 : Int32) {many : Nat} (hm : 1 ≤ many) :
    ∀ k X g, X + k = 2 ^ 21 → k < g → pw X = many → (∀ W, GdX v B many l W → X ≤ W) →
    ∃ u, lX5_fewestFor_26 N (mF m f (nI (fb_ct (fre v) B))) l l2 g (nI X) = some u ∧ ((u = .inl () ∧ ∀ W, ¬ GdX v B many l W) ∨ ∃ W, u = .inr (nI W) ∧ GdX v B many l W ∧ ∀ Z, GdX v B many l Z → W ≤ Z) := by
  have hl := h.le
  have hc := fb_ct_le (fre v) B
  have hF : 2 ^ fb_ct (fre v) B ≤ 2 ^ 20 := Nat.pow_le_pow_right (by decide) (by omega)
  intro k
  induction k using Nat.strongRecOn with
  | ind k ih =>
    intro X g hk hg hp hmin
    obtain ⟨g, rfl⟩ : ∃ x, g = x + 1 := ⟨g - 1, by omega⟩
    rw [lX5_fewestFor_26]
    show ∃ u, (if ((1 : Int32) <<< (nI (fb_ct (fre v) B) &&& 31)) ≤ nI X then _ else _) = some u ∧ _
    rw [sh_1 _ (by omega)]
    rcases Nat.lt_or_ge X (2 ^ fb_ct (fre v) B) with c | c
    · rw [if_neg (nI_ge c (by omega)), X5_sumOf hN0 h hf (by omega), bsome]
      by_cases c2 : sumM v B (exq v B X) = l
      · rw [if_pos c2]
        exact ⟨_, rfl, .inr ⟨X, rfl, ⟨c, hp, c2⟩, hmin⟩⟩
      · have h0 : 0 < X := by
          rcases Nat.eq_zero_or_pos X with z | z
          · rw [z, pw_z] at hp; omega
          · exact z
        obtain ⟨z, t, A, ht, rfl⟩ := g_form h0
        have hlt : gosX z t A < 2 ^ 20 := by omega
        obtain ⟨b1, b2, b3, b4⟩ := g_bd ht hlt
        have hxy := g_XY (z := z) (t := t) (A := A)
        have hpw := g_pw ht hlt
        rw [if_neg c2, X5_next N ht hlt, bsome]
        exact ih (2 ^ 21 - gY z t A) (by omega) (gY z t A) g (by omega) (by omega) (by omega) (fun W hW => by
          have h1 := hmin W hW
          rcases Nat.lt_or_ge W (gY z t A) with q | q
          · rcases Nat.lt_or_ge (gosX z t A) W with q2 | q2
            · exact absurd (hW.2.1.trans hp.symm) (g_gap ht hlt q2 q)
            · have e : W = gosX z t A := by omega
              subst e
              exact absurd hW.2.2 c2
          · exact q)
    · rw [if_pos (nI_le c (by omega))]
      exact ⟨_, rfl, .inl ⟨rfl, fun W hW => by have := hmin W hW; have := hW.1; omega⟩⟩
/-- class and reference ask of the same sets -/
theorem few_link (hl : B ≤ 20) {many : Nat} {l r : Int32} (h : LeS v B 20 many l r) :
    (∀ W, GdX v B many l W → (∀ Z, GdX v B many l Z → W ≤ Z) → r = nI (exq v B W)) ∧ ((∀ W, ¬ GdX v B many l W) → r = 0) := by
  have up : ∀ W, GdX v B many l W → Gd v B 20 many l (exq v B W) := fun W hW => ⟨Nat.lt_of_lt_of_le (exq_lt v B W) (Nat.pow_le_pow_right (by decide) hl), exq_sub v B W, by rw [exq_pop hl W hW.1, hW.2.1], hW.2.2⟩
  have dn : ∀ M, Gd v B 20 many l M → GdX v B many l (cmq v M B) ∧ exq v B (cmq v M B) = M := fun M hM => by
    have e := exq_cmq hM.2.1
    have hlt := cmq_lt v M B
    refine ⟨⟨hlt, ?_, ?_⟩, e⟩
    · rw [← exq_pop hl _ hlt, e]; exact hM.2.2.1
    · rw [e]; exact hM.2.2.2
  constructor
  · intro W hW hmin
    rcases h with ⟨-, h2⟩ | ⟨M, h1, h2, rfl⟩
    · exact absurd (up W hW) (h2 _)
    · obtain ⟨d1, d2⟩ := dn M h1
      have a1 := h2 _ (up W hW)
      have a2 := exq_mono v B W _ hW.1 d1.1 (hmin _ d1)
      rw [d2] at a2
      rw [Nat.le_antisymm a1 a2]
  · intro hno
    rcases h with ⟨h1, -⟩ | ⟨M, h1, -, -⟩
    · exact h1
    · exact absurd (dn M h1).1 (hno _)
theorem X5_few6 (hN0 : 2097152 ≤ N) (h : RS B v (mRow m)) {q : Nat} (hd : BD B q v) {f : Nat → Int32} (hf : FL v B f) (l : Int32) :
    ∀ k many f1 f2, many + k = 7 → 1 ≤ many → k + 1 < f1 → k + 1 < f2 →
    ∃ u1 u2, lX0_fewestFor_8 N v l (nI (mkb (fre v) B)) f1 (nI many) = some u1 ∧ lX5_fewestFor_6 N (mF m f (nI (fb_ct (fre v) B))) l f2 (nI many) = some u2 ∧
      ((u1 = .inl () ∧ u2 = .inl ()) ∨ ∃ W mm, mm ≤ 6 ∧ u1 = .inr (nI (exq v B W)) ∧ u2 = .inr (nI W) ∧ GdX v B mm l W ∧ 0 < exq v B W ∧ pop (exq v B W) = mm) := by
  have hl := h.le
  have hc := fb_ct_le (fre v) B
  intro k
  induction k with
  | zero =>
    intro many f1 f2 hk h1 hf1 hf2
    obtain ⟨f1, rfl⟩ : ∃ x, f1 = x + 1 := ⟨f1 - 1, by omega⟩
    obtain ⟨f2, rfl⟩ : ∃ x, f2 = x + 1 := ⟨f2 - 1, by omega⟩
    have e : many = 7 := by omega
    subst e
    rw [lX0_fewestFor_8, lX5_fewestFor_6, if_pos (by decide), if_pos (by decide)]
    exact ⟨_, _, rfl, rfl, .inl ⟨rfl, rfl⟩⟩
  | succ k ih =>
    intro many f1 f2 hk h1 hf1 hf2
    obtain ⟨f1, rfl⟩ : ∃ x, f1 = x + 1 := ⟨f1 - 1, by omega⟩
    obtain ⟨f2, rfl⟩ : ∃ x, f2 = x + 1 := ⟨f2 - 1, by omega⟩
    have h6 : ¬ (6 : Int32) < nI many := nI_nlt (a := 6) (by omega) (by decide)
    obtain ⟨r, e1, e2⟩ := least hN0 hd hl many 8 20 l h1 (by omega) (by omega) (by decide)
    obtain ⟨k1, k2⟩ := few_link hl e2
    rw [lX0_fewestFor_8, lX5_fewestFor_6, if_neg h6, if_neg h6, show (20 : Int32) = nI 20 from rfl, e1, bsome]
    show ∃ u1 u2, _ ∧ (if nI (fb_ct (fre v) B) < nI many then _ else _) = some u2 ∧ _
    rcases Nat.lt_or_ge (fb_ct (fre v) B) many with c | c
    · have hno : ∀ W, ¬ GdX v B many l W := fun W hW => by
        have h2 : pw W ≤ fb_ct (fre v) B := by rw [← pw_eq hW.1 (by omega)]; exact fb_ct_le _ _
        have := hW.2.1
        omega
      rw [if_pos (nI_lt c (by omega)), k2 hno, if_pos rfl, nI_1]
      obtain ⟨u1, u2, i1, i2, i3⟩ := ih (many + 1) f1 (f2 + 1) (by omega) (by omega) (by omega) (by omega)
      refine ⟨u1, .inl (), i1, rfl, ?_⟩
      rw [lX5_fewestFor_6] at i2
      rcases i3 with ⟨i3, -⟩ | ⟨W, mm, w1, w2, w3, w4, w5, w6⟩
      · exact .inl ⟨i3, rfl⟩
      · exfalso
        by_cases c7 : many + 1 = 7
        · rw [c7, if_pos (by decide)] at i2
          rw [w3] at i2
          cases i2
        · rw [if_neg (show ¬ (6 : Int32) < nI (many + 1) from nI_nlt (a := 6) (by omega) (by decide)), if_pos (show mFrn (mF m f (nI (fb_ct (fre v) B))) < nI (many + 1) from nI_lt (by omega) (by omega)), w3] at i2
          cases i2
    · rw [if_neg (nI_nlt c (by omega)), sh_1 many (by omega), show nI (2 ^ many) - 1 = nI (2 ^ many - 1) from nI_sub (b := 1) (by have := Nat.two_pow_pos many; omega)]
      have hp : 2 ^ many ≤ 2 ^ 20 := Nat.pow_le_pow_right (by decide) (by omega)
      have hp2 : 2 ^ 1 ≤ 2 ^ many := Nat.pow_le_pow_right (by decide) h1
      obtain ⟨u, i1, i2⟩ := X5_f26 (m := m) hN0 h hf l (nI many) h1 (2 ^ 21 - (2 ^ many - 1)) (2 ^ many - 1) N (by omega) (by omega) (pw_ones (by omega)) (fun W hW => by
        rcases Nat.lt_or_ge W (2 ^ many - 1) with z | z
        · have := pw_less (by omega) z
          have := hW.2.1
          omega
        · exact z)
      rw [i1, bsome]
      rcases i2 with ⟨rfl, i2⟩ | ⟨W, rfl, i2, i3⟩
      · rw [k2 i2, if_pos rfl, nI_1]
        exact ih (many + 1) f1 f2 (by omega) (by omega) (by omega) (by omega)
      · have hpos : 0 < exq v B W := by
          rcases Nat.eq_zero_or_pos (exq v B W) with z | z
          · have h9 := exq_pop (v := v) hl W i2.1
            rw [z, pop_0, i2.2.1] at h9
            omega
          · exact z
        have hlt := exq_lt v B W
        have hlt2 : 2 ^ B ≤ 2 ^ 20 := Nat.pow_le_pow_right (by decide) hl
        rw [k1 W i2 i3, if_neg (nI_ne0 hpos (by omega))]
        exact ⟨_, _, rfl, rfl, .inr ⟨W, many, by omega, rfl, rfl, i2, hpos, by rw [exq_pop hl W i2.1, i2.2.1]⟩⟩
theorem few_same (hN0 : 2097152 ≤ N) (h : RS B v (mRow m)) {q : Nat} (hd : BD B q v) (l : Int32) :
    ∃ r f c, fX0_fewestFor N v l = some r ∧ fX5_fewestFor N m l = some (mF m f c, r) ∧ (r = 0 ∨ ∃ M, r = nI M ∧ 0 < M ∧ M < 2 ^ 20 ∧ Sub v B M ∧ pop M ≤ 6) := by
  have hl := h.le
  obtain ⟨f, h1, h2⟩ := X5_look hN0 h
  obtain ⟨u1, u2, e1, e2, e3⟩ := X5_few6 (m := m) hN0 h hd h2 l 6 1 N N rfl (by decide) (by omega) (by omega)
  have hF : 2 ^ fb_ct (fre v) B ≤ 2 ^ 20 := Nat.pow_le_pow_right (by decide) (by have := fb_ct_le (fre v) B; omega)
  unfold fX0_fewestFor fX5_fewestFor
  rw [X3_blocksIn hN0 h.b hl, bsome, h1, bsome, show mkb (fun b => decide (sK v b = -1)) B = mkb (fre v) B from rfl, show (1 : Int32) = nI 1 from rfl, e1, bsome, e2, bsome]
  rcases e3 with ⟨rfl, rfl⟩ | ⟨W, mm, w1, rfl, rfl, w4, w5, w6⟩
  · exact ⟨0, f, nI (fb_ct (fre v) B), rfl, rfl, .inl rfl⟩
  · refine ⟨nI (exq v B W), f, nI (fb_ct (fre v) B), rfl, ?_, .inr ⟨_, rfl, w5, Nat.lt_of_lt_of_le (exq_lt v B W) (Nat.pow_le_pow_right (by decide) hl), exq_sub v B W, by omega⟩⟩
    have h3 := w4.1
    show ((fX5_byNumbers N (mF m f (nI (fb_ct (fre v) B))) (nI W)).bind _) = _
    rw [X5_byNumbers hN0 hl h2 (by omega) m]
    rfl
end FW
