/-! side by side: the other questions -/
section SIU
variable {N q : Nat} {v : VS} {z : VV} {tx : VT} {n0 n1 : Option VS} {m : VM}
theorem okq (h : SM q v z tx n0 n1 m) {cs : List (Nat × Nat)} {X : Option (Nat ⊕ Int32)} {Y : Option Int32} {x : Int32} (hX : X = some (.inr x)) (hY : Y = some x) : RsQ q v z tx n0 n1 cs X (Y.bind fun r => some (mTh m 0, r)) := .inr ⟨x, mTh m 0, hX, by rw [hY]; rfl, rfl, h.th 0⟩
theorem okp (h : SM q v z tx n0 n1 m) {cs : List (Nat × Nat)} {X : Option (Nat ⊕ Int32)} {Y : Option (VM × Int32)} {x : Int32} {m' : VM} (hX : X = some (.inr x)) (hY : Y = some (m', x)) (ht : mThr m' = 0) (hm : SM q v z tx n0 n1 m') : RsQ q v z tx n0 n1 cs X (Y.bind fun r => some (r.1, r.2)) := .inr ⟨x, m', hX, by rw [hY]; rfl, ht, hm⟩
theorem sim_setting (h : SM q v z tx n0 n1 m) (p1 : Int32) : RsQ q v z tx n0 n1 [(3, 1)] (fX4_setting N v p1) (fX5_setting N m p1) := by
  obtain ⟨B, h1, h2, h3⟩ := h.1
  unfold fX4_setting fX5_setting
  rw [cset, bsome, in_n, bsome, th0, fls, bsome]
  by_cases c1 : 0 ≤ p1 ∧ p1 ≤ 3
  · rw [if_pos c1, ser, if_pos (decide_eq_true c1)]
    obtain ⟨j, hj, rfl⟩ := rg3 c1
    rw [ckI hj (by decide), nI_clamp (by omega), ckr (by omega), ← h1.2.1 j hj]
    exact .inr ⟨_, _, rfl, rfl, rfl, h.th 0⟩
  · rw [if_neg c1, sel, if_neg (fun z => c1 (of_decide_eq_true z))]
    exact .inl ⟨3, 1, _, _, by decide, rfl, rfl, rfl, h.th 1⟩
theorem sim_refusal (hN0 : 2097152 ≤ N) (h : SM q v z tx n0 n1 m) (p1 p2 : Int32) : RsQ q v z tx n0 n1 [(3, 1)] (fX4_refusal N v p1 p2) (fX5_refusal N m p1 p2) := by
  obtain ⟨B, h1, h2, h3⟩ := h.1
  have hl := h1.le
  unfold fX4_refusal fX5_refusal
  rw [cstk, bsome, isStk, bsome, cblk N h1.b hl, bsome, th0, isB5 N h1, bsome, fls, bsome]
  by_cases c1 : 0 ≤ p1 ∧ p1 ≤ 2
  · rw [if_pos c1, ser, if_pos (decide_eq_true c1)]
    by_cases c2 : 0 ≤ p2.toInt ∧ p2.toInt < B
    · rw [if_pos c2, ser, if_pos (decide_eq_true c2)]
      obtain ⟨b, hb, rfl⟩ := blk c2
      exact okq h (by rw [X3_reason hN0 h1.b hl p1 hb]; rfl) (X5_reason (m := mTh m 0) hN0 h1 (h2.2.2.2 p1 (stk3 c1).ne) hb)
    · rw [if_neg c2, sel, if_neg (fun z => c2 (of_decide_eq_true z))]
      exact .inl ⟨3, 1, _, _, by decide, rfl, rfl, rfl, h.th 1⟩
  · rw [if_neg c1, sel, if_neg (fun z => c1 (of_decide_eq_true z))]
    exact .inl ⟨3, 1, _, _, by decide, rfl, rfl, rfl, h.th 1⟩
theorem lenI {x : Int32} (h : 500 ≤ x ∧ x ≤ 600000) : 500 ≤ x.toInt ∧ x.toInt ≤ 600000 := by
  rw [fa_le, fa_le, show (500 : Int32).toInt = 500 from by decide +kernel, show (600000 : Int32).toInt = 600000 from by decide +kernel] at h
  exact h
theorem pop_ones {M : Nat} : ∀ k x n f, x < 2 ^ k → k ≤ 20 → k < f → lX5_ones_4 N f (nI n) (nI x) = some (nI (n + fb_ct (fun i => x.testBit i) k)) := by
  intro k
  induction k with
  | zero =>
    intro x n f hx hk hf
    obtain ⟨f, rfl⟩ : ∃ y, f = y + 1 := ⟨f - 1, by omega⟩
    have e : x = 0 := by omega
    subst e
    rw [lX5_ones_4, if_pos (by decide)]
    rfl
  | succ k ih =>
    intro x n f hx hk hf
    obtain ⟨f, rfl⟩ : ∃ y, f = y + 1 := ⟨f - 1, by omega⟩
    have hx20 : 2 ^ (k + 1) ≤ 2 ^ 20 := Nat.pow_le_pow_right (by decide) hk
    rw [lX5_ones_4]
    by_cases c : x = 0
    · subst c
      rw [if_pos (by decide)]
      have : fb_ct (fun i => (0 : Nat).testBit i) (k + 1) = 0 := fb_ct_zero.mpr (fun i _ => Nat.zero_testBit i)
      rw [this]
      rfl
    · rw [if_neg (nI_nle (by omega) (by omega))]
      have e1 : nI x &&& 1 = nI (x % 2) := by
        show nI x &&& nI 1 = _
        rw [fa_and, Nat.and_one_is_mod]
      have e2 : nI x >>> ((1 : Int32) &&& 31) = nI (x / 2) := shr_n (i := 1) (by omega) (by decide)
      rw [e1, e2, nI_add, ih (x / 2) (n + x % 2) f (by rw [Nat.pow_succ] at hx; omega) (by omega) (by omega)]
      congr 2
      rw [show k + 1 = 1 + k by omega, fb_ct_split]
      have e3 : fb_ct (fun i => x.testBit i) 1 = x % 2 := by
        simp only [fb_ct, Nat.testBit_zero]
        rcases Nat.mod_two_eq_zero_or_one x with q | q <;> simp [q]
      have e4 : fb_ct (fun i => x.testBit (1 + i)) k = fb_ct (fun i => (x / 2).testBit i) k := fb_ct_cong (fun i _ => by
        have := Nat.testBit_div_two_pow (n := 1) x i
        rw [show i + 1 = 1 + i by omega] at this
        exact this.symm)
      rw [e3, e4]
      omega
theorem sim_fewest (hN0 : 2097152 ≤ N) (h : SM q v z tx n0 n1 m) (p1 p2 : Int32) : RsQ q v z tx n0 n1 [(1, 1)] (fX4_fewest N v p1 p2) (fX5_fewest N m p1 p2) := by
  obtain ⟨B, h1, h2, h3⟩ := h.1
  unfold fX4_fewest fX5_fewest
  rw [clen, bsome, isLen, bsome, cr, bsome, in_n, bsome, th0, fls, bsome]
  by_cases c1 : 500 ≤ p1 ∧ p1 ≤ 600000
  · rw [if_pos c1, ser, if_pos (decide_eq_true c1)]
    by_cases c2 : 0 ≤ p2 ∧ p2 ≤ 1
    · rw [if_pos c2, ser, if_pos (decide_eq_true c2)]
      obtain ⟨r, f, cc, f1, f2, f3⟩ := few_same (m := mTh m 0) hN0 h1 h3 p1
      unfold fX5_fewestOf
      rw [f1, bsome, f2, bsome]
      rcases f3 with rfl | ⟨M, rfl, m1, m2, m3, m4⟩
      · rw [if_pos rfl, if_pos rfl]
        exact okp h rfl rfl rfl (h.th 0)
      · have hne : ¬ nI M = 0 := nI_ne0 m1 (by omega)
        have ho : fX5_ones N (nI M) = some (nI (fb_ct (fun i => M.testBit i) 20)) := by
          unfold fX5_ones
          have := pop_ones (N := N) (M := 0) 20 M 0 N m2 (by decide) (by omega)
          rw [Nat.zero_add] at this
          rw [show (0 : Int32) = nI 0 from rfl, this]
          rfl
        rw [if_neg hne, if_neg (show ¬ (mF (mTh m 0) f cc, nI M).2 = 0 from hne), bit_n N m2, bsome, ho, bsome]
        by_cases c3 : p2 = 0
        · rw [if_pos c3, if_pos c3]
          exact okp h rfl rfl rfl (h.th 0)
        · rw [if_neg c3, if_neg c3]
          exact okp h rfl rfl rfl (h.th 0)
    · rw [if_neg c2, sel, if_neg (fun z => c2 (of_decide_eq_true z))]
      exact .inl ⟨1, 1, _, _, by decide, rfl, rfl, rfl, h.th 1⟩
  · rw [if_neg c1, sel, if_neg (fun z => c1 (of_decide_eq_true z))]
    exact .inl ⟨1, 1, _, _, by decide, rfl, rfl, rfl, h.th 1⟩
theorem old_e (X : Option Int32) (g bc : Int32 → Option Int32) (l w : Int32) : (X.bind fun r3 => (g r3).bind fun r4 => if w = 2 then some (Sum.inr (l - r4)) else if l - r4 = 0 then (if w = 0 then (bc r3).bind fun r5 => some (Sum.inr r5) else some (Sum.inr r3)) else some (Sum.inr (-1))) = ((X.bind fun r3 => (g r3).bind fun r4 => if w = 2 then some (l - r4) else if l - r4 = 0 then (if w = 0 then (bc r3).bind fun r5 => some r5 else some r3) else some (-1)).bind fun z => some (Sum.inr z) : Option (Nat ⊕ Int32)) := by
  cases X with
  | none => rfl
  | some r3 =>
    rw [bsome, bsome]
    cases g r3 with
    | none => rfl
    | some r4 =>
      rw [bsome, bsome]
      by_cases c1 : w = 2
      · rw [if_pos c1, if_pos c1]; rfl
      · rw [if_neg c1, if_neg c1]
        by_cases c2 : l - r4 = 0
        · rw [if_pos c2, if_pos c2]
          by_cases c3 : w = 0
          · rw [if_pos c3, if_pos c3]
            cases bc r3 <;> rfl
          · rw [if_neg c3, if_neg c3]; rfl
        · rw [if_neg c2, if_neg c2]; rfl
theorem old_f {R : Nat} {p2 x : Int32} (o1 : oldC N v (nI R) p2 = some x) : ((fX0_takenByOldWay N v (nI R)).bind fun r3 => ((fX3_nominalOfSet N v r3).bind fun r4 => (if p2 = (2 : Int32) then some (.inr (nI R - r4)) else (if (nI R - r4) = (0 : Int32) then (if p2 = (0 : Int32) then ((fJ6_bitCount_0f7a4 N r3).bind fun r5 => some (.inr r5)) else some (.inr r3)) else some (.inr (-1)))))) = (some (.inr x) : Option (Nat ⊕ Int32)) := by
  rw [old_e (fX0_takenByOldWay N v (nI R)) (fX3_nominalOfSet N v) (fJ6_bitCount_0f7a4 N) (nI R) p2]
  unfold oldC at o1
  rw [o1]
  rfl
theorem SM.o (h : SM q v z tx n0 n1 m) (t l : Int32) : SM q v z tx n0 n1 (mO m t l) := by
  obtain ⟨h1, ⟨n, h2, h3⟩, ⟨L, a, b, c, d⟩, h5, h6⟩ := h
  exact ⟨h1, ⟨n, h2, h3⟩, ⟨L, a, b, c, d⟩, h5, h6⟩
theorem old_g (hN0 : 2097152 ≤ N) (h : SM q v z tx n0 n1 m) {R : Nat} (hR : R ≤ 600000) (p2 : Int32) : RsQ q v z tx n0 n1 [(1, 1)] ((fX0_takenByOldWay N v (nI R)).bind fun r3 => ((fX3_nominalOfSet N v r3).bind fun r4 => (if p2 = (2 : Int32) then some (.inr (nI R - r4)) else (if (nI R - r4) = (0 : Int32) then (if p2 = (0 : Int32) then ((fJ6_bitCount_0f7a4 N r3).bind fun r5 => some (.inr r5)) else some (.inr r3)) else some (.inr (-1)))))) ((fX5_oldOf N (mTh m 0) (nI R) p2).bind fun r => some (r.1, r.2)) := by
  obtain ⟨B, h1, h2, h3⟩ := h.1
  obtain ⟨x, t, l, o1, o2⟩ := old_same (m := mTh m 0) hN0 h1 h3 (R := R) (what := p2) hR
  rw [old_f o1, o2]
  exact .inr ⟨x, mO (mTh m 0) t l, rfl, rfl, rfl, (h.th 0).o t l⟩
theorem old_h {p1 : Int32} (c1 : 500 ≤ p1 ∧ p1 ≤ 600000) : ∃ R, R ≤ 600000 ∧ p1 = nI R := by
  have hl := lenI c1
  obtain ⟨R, hR, e⟩ := nI_of (x := p1) (fun q => by rw [fa_lt, z0] at q; omega)
  refine ⟨R, ?_, e⟩
  rw [e, nI_toInt hR] at hl
  omega
theorem sim_oldWay (hN0 : 2097152 ≤ N) (h : SM q v z tx n0 n1 m) (p1 p2 : Int32) : RsQ q v z tx n0 n1 [(1, 1)] (fX4_oldWay N v p1 p2) (fX5_oldWay N m p1 p2) := by
  unfold fX4_oldWay fX5_oldWay
  rw [clen, bsome, isLen, bsome, cr, bsome, in_n, bsome, th0, fls, bsome]
  by_cases c1 : 500 ≤ p1 ∧ p1 ≤ 600000
  · rw [if_pos c1, ser, if_pos (decide_eq_true c1)]
    by_cases c2 : 0 ≤ p2 ∧ p2 ≤ 2
    · rw [if_pos c2, ser, if_pos (decide_eq_true c2)]
      obtain ⟨R, hR, e⟩ := old_h c1
      rw [e]
      exact old_g hN0 h hR p2
    · rw [if_neg c2, sel, if_neg (fun z => c2 (of_decide_eq_true z))]
      exact .inl ⟨1, 1, _, _, by decide, rfl, rfl, rfl, h.th 1⟩
  · rw [if_neg c1, sel, if_neg (fun z => c1 (of_decide_eq_true z))]
    exact .inl ⟨1, 1, _, _, by decide, rfl, rfl, rfl, h.th 1⟩
theorem sim_nearest (hN0 : 2097152 ≤ N) (h : SM q v z tx n0 n1 m) (p1 : Int32) : RsQ q v z tx n0 n1 [(1, 1)] (fX4_nearest N v p1) (fX5_nearest N m p1) := by
  obtain ⟨B, h1, h2, h3⟩ := h.1
  unfold fX4_nearest fX5_nearest
  rw [clen, bsome, isLen, bsome, th0, fls, bsome]
  by_cases c1 : 500 ≤ p1 ∧ p1 ≤ 600000
  · rw [if_pos c1, ser, if_pos (decide_eq_true c1)]
    obtain ⟨f, c, e⟩ := X5_nearestTo (m := mTh m 0) hN0 h1 h3 (lenI c1)
    refine okp h (m' := mF (mTh m 0) f c) ?_ e rfl (h.th 0)
    rw [X0_nearestTo hN0 h1.b h1.le]
    rfl
  · rw [if_neg c1, sel, if_neg (fun z => c1 (of_decide_eq_true z))]
    exact .inl ⟨1, 1, _, _, by decide, rfl, rfl, rfl, h.th 1⟩
theorem sim_coolIn (hN0 : 2097152 ≤ N) (h : SM q v z tx n0 n1 m) (p1 : Int32) : RsQ q v z tx n0 n1 [(3, 1)] (fX4_coolIn N v p1) (fX5_coolIn N m p1) := by
  obtain ⟨B, h1, h2, h3⟩ := h.1
  have hl := h1.le
  unfold fX4_coolIn fX5_coolIn
  rw [cblk N h1.b hl, bsome, th0, isB5 N h1, bsome, fls, bsome]
  by_cases c1 : 0 ≤ p1.toInt ∧ p1.toInt < B
  · rw [if_pos c1, ser, if_pos (decide_eq_true c1)]
    obtain ⟨b, hb, rfl⟩ := blk c1
    obtain ⟨k1, k2⟩ := h3.h hb
    obtain ⟨t, t1, t2⟩ := cool_same (m := mTh m 0) hN0 (s1 := sS v 1) rfl h1.s1 h3.2.2.2.2.2.1.1 (hN v b) 0 N N k2 (by omega) (by omega) (by omega)
    have ho : fX5_of N (mTh m 0) (nI b) 3 = some (nI (hN v b)) := by
      rw [of_3 N _ (by omega), ← k1]
      exact congrArg some (h1.h hb)
    have t1' : lX3_minutesUntilCool_9 N v N (nI (hN v b)) 0 = some t := t1
    have t2' : lX5_coolIn_28 N (mTh m 0) N 0 (nI (hN v b)) = some t := t2
    unfold fX3_minutesUntilCool
    rw [ckI (by omega) (by decide), nI_clamp (by omega), k1, t1', bsome, bsome, ho, bsome, t2', bsome]
    exact .inr ⟨_, _, rfl, rfl, rfl, h.th 0⟩
  · rw [if_neg c1, sel, if_neg (fun z => c1 (of_decide_eq_true z))]
    exact .inl ⟨3, 1, _, _, by decide, rfl, rfl, rfl, h.th 1⟩
theorem sim_lengthIn (hN0 : 2097152 ≤ N) (h : SM q v z tx n0 n1 m) (p1 p2 : Int32) : RsQ q v z tx n0 n1 [(3, 1), (1, 2)] (fX4_lengthIn N v p1 p2) (fX5_lengthIn N m p1 p2) := by
  obtain ⟨B, h1, h2, h3⟩ := h.1
  unfold fX4_lengthIn fX5_lengthIn
  rw [cstk, bsome, isStk, bsome, cr, bsome, in_n, bsome, th0, fls, fls, bsome, bsome]
  by_cases c1 : 0 ≤ p1 ∧ p1 ≤ 2
  · rw [if_pos c1, ser, if_pos (decide_eq_true c1)]
    by_cases c2 : 0 ≤ p2 ∧ p2 ≤ 600
    · rw [if_pos c2, ser, if_pos (decide_eq_true c2)]
      obtain ⟨j, hj, rfl⟩ := rg8 (a := 600) rfl (by decide) c2
      obtain ⟨x, x1, x2⟩ := tls_same (m := mTh m 0) hN0 h1 h2 h3 (p := j) (by omega) (stk3 c1).ne
      exact okq h (by rw [x1]; rfl) x2
    · rw [if_neg c2, sel, if_neg (fun z => c2 (of_decide_eq_true z))]
      exact .inl ⟨1, 2, _, _, by decide, rfl, rfl, rfl, h.th 2⟩
  · rw [if_neg c1, sel, if_neg (fun z => c1 (of_decide_eq_true z))]
    exact .inl ⟨3, 1, _, _, by decide, rfl, rfl, rfl, h.th 1⟩
theorem cleast (N : Nat) (x a : Int32) : fX4_checkLeast N x a = some (if a ≤ x then .inr () else .inl 1) := by
  unfold fX4_checkLeast
  split <;> rfl
theorem sim_ranked (hN0 : 2097152 ≤ N) (hq : q ≤ 1000000) (h : SM q v z tx n0 n1 m) (p1 p2 : Int32) : RsQ q v z tx n0 n1 [(1, 1)] (fX4_ranked N v p1 p2) (fX5_ranked N m p1 p2) := by
  obtain ⟨B, h1, h2, h3⟩ := h.1
  unfold fX4_ranked fX5_ranked
  rw [cr, bsome, in_n, bsome, cleast, bsome, th0, fls, bsome]
  by_cases c1 : 0 ≤ p1 ∧ p1 ≤ 2
  · rw [if_pos c1, ser, if_pos (decide_eq_true c1)]
    by_cases c2 : 0 ≤ p2
    · rw [if_pos c2, ser, if_neg (Int32.not_lt.mpr c2)]
      obtain ⟨x, x1, x2⟩ := rank_same (m := mTh m 0) hN0 h1 hq h3 (stk3 c1) p2
      exact okq h (by rw [x1]; rfl) x2
    · rw [if_neg c2, sel, if_pos (Int32.not_le.mp c2)]
      exact .inl ⟨1, 1, _, _, by decide, rfl, rfl, rfl, h.th 1⟩
  · rw [if_neg c1, sel, if_neg (fun z => c1 (of_decide_eq_true z))]
    exact .inl ⟨1, 1, _, _, by decide, rfl, rfl, rfl, h.th 1⟩
theorem sim_lengths (hN0 : 2097152 ≤ N) (h : SM q v z tx n0 n1 m) (p1 : Int32) : RsQ q v z tx n0 n1 [(1, 1)] (fX4_lengths N v p1) (fX5_lengths N m p1) := by
  obtain ⟨B, h1, h2, h3⟩ := h.1
  unfold fX4_lengths fX5_lengths
  rw [cleast, bsome, th0, fls, bsome]
  by_cases c1 : -1 ≤ p1
  · rw [if_pos c1, ser, if_pos c1]
    by_cases c2 : p1 = -1
    · subst c2
      rw [if_pos rfl]
      obtain ⟨x, x1, x2⟩ := lens_same (m := mTh m 0) hN0 h1
      exact okq h (by rw [x1]; rfl) x2
    · rw [if_neg c2]
      have h0 : 0 ≤ p1.toInt := by
        rw [fa_le, m1I] at c1
        rw [fa_eq, m1I] at c2
        omega
      obtain ⟨x, x1, x2⟩ := lor_same (m := mTh m 0) hN0 h1 h0
      exact okq h (by rw [x1]; rfl) x2
  · rw [if_neg c1, sel, if_neg c1]
    exact .inl ⟨1, 1, _, _, by decide, rfl, rfl, rfl, h.th 1⟩
end SIU
