/-! sets of blocks, one block more; the old way's loop -/
theorem or_bit (T b i : Nat) : (T ||| 2 ^ b).testBit i = if i = b then true else T.testBit i := by
  rw [Nat.testBit_or, Nat.testBit_two_pow]
  by_cases c : i = b
  · subst c; simp
  · simp [c, Ne.symm c]
def pop (M : Nat) : Nat := fb_ct (fun i => M.testBit i) 20
theorem pop_or {T b : Nat} (hb : b < 20) (h : T.testBit b = false) : pop (T ||| 2 ^ b) = pop T + 1 := by
  have h1 := fb_ct_upd (fun i => T.testBit i) true hb
  have e : (fun i => (T ||| 2 ^ b).testBit i) = (fun i => if i = b then true else T.testBit i) := funext (fun i => or_bit T b i)
  unfold pop
  rw [e]
  simp only [h] at h1
  simpa using h1
theorem pop_0 : pop 0 = 0 := by decide +kernel
def sumM (v : VS) (B M : Nat) : Int32 := rng (fun i a => if M.testBit i = true then a + sN v i else a) B 0
theorem sumM_or (v : VS) {B T b : Nat} (hb : b < B) (h : T.testBit b = false) : sumM v B (T ||| 2 ^ b) = sumM v B T + sN v b := by
  have key : ∀ n, rng (fun i a => if (T ||| 2 ^ b).testBit i = true then a + sN v i else a) n 0 = if b < n then rng (fun i a => if T.testBit i = true then a + sN v i else a) n 0 + sN v b else rng (fun i a => if T.testBit i = true then a + sN v i else a) n 0 := by
    intro n
    induction n with
    | zero => rw [if_neg (by omega)]; rfl
    | succ n ih =>
      show (if (T ||| 2 ^ b).testBit n = true then rng _ n 0 + sN v n else rng _ n 0) = if b < n + 1 then (if T.testBit n = true then rng _ n 0 + sN v n else rng _ n 0) + sN v b else (if T.testBit n = true then rng _ n 0 + sN v n else rng _ n 0)
      rw [ih, or_bit]
      rcases Nat.lt_trichotomy n b with c | c | c
      · rw [if_neg (show ¬ n = b by omega), if_neg (show ¬ b < n by omega), if_neg (show ¬ b < n + 1 by omega)]
      · subst c
        rw [if_pos rfl, if_pos rfl, if_neg (show ¬ n < n by omega), if_pos (show n < n + 1 by omega), h]
        rfl
      · rw [if_neg (show ¬ n = b by omega), if_pos c, if_pos (show b < n + 1 by omega)]
        by_cases q : T.testBit n = true
        · rw [if_pos q, if_pos q, Int32.add_assoc, Int32.add_comm (sN v b), ← Int32.add_assoc]
        · rw [if_neg q, if_neg q]
  have := key B
  rw [if_pos hb] at this
  exact this
theorem sumM_0 (v : VS) (B : Nat) : sumM v B 0 = 0 := by
  unfold sumM
  have : ∀ n, rng (fun i a => if (0 : Nat).testBit i = true then a + sN v i else a) n 0 = 0 := fun n => by
    induction n with
    | zero => rfl
    | succ n ih =>
      show (if (0 : Nat).testBit n = true then _ else _) = _
      rw [Nat.zero_testBit, if_neg (by decide)]
      exact ih
  exact this B
section OX
variable {N B : Nat} {v : VS} {m : VM}
def mO (m : VM) (t l : Int32) : VM := (mRow m, mSav m, mSvn m, mSnp m, mKep m, mThr m, mFre m, mFrn m, mBuf m, mLen m, mSpt m, mNum m, mOrd m, mLet m, mFst m, mSnd m, t, l)
theorem old_loop (hN0 : 2097152 ≤ N) (h : RS B v (mRow m)) {q : Nat} (hd : BD B q v) (len what : Int32) :
    ∀ j k R T f g, k + j = 6 → j + 2 < f → j + 3 < g → R ≤ 600000 → T < 2 ^ 20 → len - sumM v B T = nI R → pop T = k →
    ∃ u R2 T2 k2, lX0_takenByOldWay_7 N v f (nI R) (nI T) (nI k) = some u ∧ (u = .inl (nI T2) ∨ u = .inr (nI T2)) ∧ lX5_oldOf_15 N what g (mO m (nI T) (nI R)) (nI k) 1 = some (mO m (nI T2) (nI R2), nI k2) ∧ R2 ≤ 600000 ∧ T2 < 2 ^ 20 ∧ len - sumM v B T2 = nI R2 ∧ pop T2 = k2 ∧ k2 ≤ 6 := by
  have hl := h.le
  intro j
  induction j with
  | zero =>
    intro k R T f g hk hf hg hR hT hs hp
    obtain ⟨f, rfl⟩ : ∃ q, f = q + 1 := ⟨f - 1, by omega⟩
    obtain ⟨g, rfl⟩ : ∃ q, g = q + 2 := ⟨g - 2, by omega⟩
    have e : k = 6 := by omega
    subst e
    rw [lX0_takenByOldWay_7, if_pos (by decide)]
    refine ⟨_, R, T, 6, rfl, .inl rfl, ?_, hR, hT, hs, hp, by omega⟩
    rw [lX5_oldOf_15]
    show (if nI R ≤ 0 then _ else _) = _
    by_cases c : R = 0
    · subst c; rw [if_pos (by decide)]
    · rw [if_neg (nI_nle (by omega) (by omega)), if_neg (show ¬ (1 : Int32) = 0 by decide), if_pos (show (6 : Int32) ≤ nI 6 by decide), if_pos rfl]
      simp only [d00, if_true]
      rw [lX5_oldOf_15]
      show (if nI R ≤ 0 then _ else _) = _
      rw [if_neg (nI_nle (by omega) (by omega)), if_pos rfl]
  | succ j ih =>
    intro k R T f g hk hf hg hR hT hs hp
    obtain ⟨f, rfl⟩ : ∃ q, f = q + 1 := ⟨f - 1, by omega⟩
    obtain ⟨g, rfl⟩ : ∃ q, g = q + 2 := ⟨g - 2, by omega⟩
    have hk6 : ¬ (6 : Int32) ≤ nI k := nI_ge (b := 6) (by omega) (by decide)
    rw [lX0_takenByOldWay_7, if_neg hk6, lX5_oldOf_15]
    by_cases c : R = 0
    · subst c
      refine ⟨_, 0, T, k, if_pos (show nI 0 ≤ (0 : Int32) by decide), .inl rfl, if_pos (show nI 0 ≤ (0 : Int32) by decide), by omega, hT, hs, hp, by omega⟩
    · have hr : ¬ nI R ≤ 0 := nI_nle (by omega) (by omega)
      obtain ⟨e1, e2⟩ := X0_nextOld hN0 h.b hl hd (R := R) (T := T) (by omega) hR (by omega)
      have e3 := X5_nextOld (m := mO m (nI T) (nI R)) hN0 h hd (R := R) (T := T) (by omega) hR (by omega) rfl rfl
      rw [if_neg hr, e1, bsome, if_neg (show ¬ mLft (mO m (nI T) (nI R)) ≤ 0 from hr), if_neg (show ¬ (1 : Int32) = 0 by decide), if_neg hk6, e3, bsome]
      generalize rng (nxS v T R (10 ^ (zz 6 R + 1))) B (-1) = x at e2
      rcases e2 with rfl | ⟨b, hb, rfl, hok⟩
      · rw [if_pos rfl, if_pos rfl]
        simp only [d00, if_true]
        refine ⟨_, R, T, k, rfl, .inr rfl, ?_, hR, hT, hs, hp, by omega⟩
        rw [lX5_oldOf_15, if_neg (show ¬ mLft (mO m (nI T) (nI R)) ≤ 0 from hr), if_pos rfl]
      · have hbm : ¬ nI b = -1 := nI_m1 (by omega)
        obtain ⟨k1, k2, k3⟩ := hd.n hb
        unfold okS at hok
        simp only [Bool.and_eq_true, decide_eq_true_eq, Bool.not_eq_true'] at hok
        obtain ⟨o1, o2, o3, o4⟩ := hok
        rw [if_neg hbm, if_neg hbm, ckI (by omega) (by decide), nI_clamp (by omega), sh_1 b (by omega), show nI T ||| nI (2 ^ b) = nI (T ||| 2 ^ b) from fa_or T (2 ^ b), k1, nI_sub o3, nI_1]
        simp only [d10, if_false]
        have hof : fX5_of N (mO m (nI (T ||| 2 ^ b)) (nI R)) (nI b) 0 = some (nI (nm v b)) := by
          rw [of_0 N _ (by omega), ← k1]
          exact congrArg some (h.n hb)
        have hT2 : T ||| 2 ^ b < 2 ^ 20 := Nat.or_lt_two_pow hT (Nat.pow_lt_pow_right (by decide) (by omega))
        have hs2 : len - sumM v B (T ||| 2 ^ b) = nI (R - nm v b) := by
          have e5 : ∀ x y z : Int32, x - (y + z) = x - y - z := fun x y z => by
            rw [Int32.sub_eq_add_neg, Int32.neg_add, Int32.sub_eq_add_neg, Int32.sub_eq_add_neg, Int32.sub_eq_add_neg x y, Int32.add_assoc]
          rw [sumM_or v hb o2, e5, hs, k1, nI_sub o3]
        obtain ⟨u, R2, T2, k2', i1, i2, i3, i4⟩ := ih (k + 1) (R - nm v b) (T ||| 2 ^ b) f (g + 1) (by omega) (by omega) (by omega) (by omega) hT2 hs2 (by rw [pop_or (by omega) o2, hp])
        refine ⟨u, R2, T2, k2', i1, i2, ?_, i4⟩
        rw [← i3]
        show ((fX5_of N (mO m (nI T ||| nI (2 ^ b)) (nI R)) (nI b) 0).bind fun r5 => lX5_oldOf_15 N what (g + 1) (mO m (nI T ||| nI (2 ^ b)) (nI R - r5)) (nI (k + 1)) 1) = _
        rw [show nI T ||| nI (2 ^ b) = nI (T ||| 2 ^ b) from fa_or T (2 ^ b), hof, bsome, nI_sub o3]
theorem nI_inj2 {a : Nat} (h : a ≤ 600000) : (nI a = 0) ↔ a = 0 := nI_eq (b := 0) (by omega) (by decide)
/-- the old way for a length: the class's answer and the reference's -/
def oldC (N : Nat) (v : VS) (len what : Int32) : Option Int32 := (fX0_takenByOldWay N v len).bind fun r3 => (fX3_nominalOfSet N v r3).bind fun r4 => if what = 2 then some (len - r4) else if len - r4 = 0 then (if what = 0 then (fJ6_bitCount_0f7a4 N r3).bind fun r5 => some r5 else some r3) else some (-1)
theorem old_same (hN0 : 2097152 ≤ N) (h : RS B v (mRow m)) {q : Nat} (hd : BD B q v) {R : Nat} (hR : R ≤ 600000) {what : Int32} :
    ∃ x t l, oldC N v (nI R) what = some x ∧ fX5_oldOf N m (nI R) what = some (mO m t l, x) := by
  have hl := h.le
  obtain ⟨u, R2, T2, k2, i1, i2, i3, i4, i5, i6, i7, i8⟩ := old_loop (m := m) hN0 h hd (nI R) what 6 0 R 0 N N rfl (by omega) (by omega) hR (by decide) (by rw [sumM_0]; exact Int32.sub_zero _) pop_0
  have e1 : fX0_takenByOldWay N v (nI R) = some (nI T2) := by
    unfold fX0_takenByOldWay
    rw [show (0 : Int32) = nI 0 from rfl, i1]
    rcases i2 with rfl | rfl <;> rfl
  have e2 : fX3_nominalOfSet N v (nI T2) = some (sumM v B T2) := X3_nominalOfSet hN0 h.b hl (by omega)
  have e3 : lX5_oldOf_15 N what N (mO m 0 (nI R)) 0 1 = some (mO m (nI T2) (nI R2), nI k2) := i3
  refine ⟨if what = 2 then nI R2 else if nI R2 = 0 then (if what = 0 then nI k2 else nI T2) else -1, nI T2, nI R2, ?_, ?_⟩
  · unfold oldC
    rw [e1, bsome, e2, bsome, i6, bit_n N i5, bsome, show fb_ct (fun i => T2.testBit i) 20 = k2 from i7]
    (repeat' split) <;> rfl
  · unfold fX5_oldOf
    show ((lX5_oldOf_15 N what N (mO m 0 (nI R)) 0 1).bind _) = _
    rw [e3, bsome]
    show (if what = 2 then some (mO m (nI T2) (nI R2), nI R2) else if nI R2 ≤ 0 then (if what = 0 then some (mO m (nI T2) (nI R2), nI k2) else some (mO m (nI T2) (nI R2), nI T2)) else some (mO m (nI T2) (nI R2), -1)) = _
    have e4 : (nI R2 ≤ 0) ↔ nI R2 = 0 := by
      rw [nI_inj2 i4]
      exact (nI_leI (b := 0) (by omega) (by decide)).trans (by omega)
    simp only [e4]
    (repeat' split) <;> rfl
end OX
