/-! class and reference side by side: the remaining answers -/
theorem asm_le (s : Bool) (e t : Nat) (h : e * 2 ^ 52 + t ≤ 2047 * 2 ^ 52) : Jvm.FP.Core.assemble Jvm.FP.Core.b64 s e t % 2 ^ 63 ≤ 2047 * 2 ^ 52 := by
  cases s
  · show ((0 * 2048 + e) * 2 ^ 52 + t) % 2 ^ 63 ≤ 2047 * 2 ^ 52
    omega
  · show ((1 * 2048 + e) * 2 ^ 52 + t) % 2 ^ 63 ≤ 2047 * 2 ^ 52
    omega
theorem bnd_le (s : Bool) (c : Nat) (q : Int) (h : c < 2 ^ 53) : Jvm.FP.Core.encode Jvm.FP.Core.b64 (Jvm.FP.Core.bound Jvm.FP.Core.b64 s c q) % 2 ^ 63 ≤ 2047 * 2 ^ 52 := by
  unfold Jvm.FP.Core.bound
  by_cases c1 : q ≤ Jvm.FP.Core.b64.qmax
  · rw [if_pos c1]
    have c1 : q ≤ 971 := c1
    show (if c < 2 ^ 52 then Jvm.FP.Core.assemble Jvm.FP.Core.b64 s 0 c else Jvm.FP.Core.assemble Jvm.FP.Core.b64 s ((q - (-1074)).toNat + 1) (c - 2 ^ 52)) % 2 ^ 63 ≤ _
    by_cases c2 : c < 2 ^ 52
    · rw [if_pos c2]
      exact asm_le s 0 c (by omega)
    · rw [if_neg c2]
      exact asm_le s _ _ (by omega)
  · rw [if_neg c1]
    exact asm_le s 2047 0 (by omega)
theorem rat_le (s : Bool) (a b : Nat) (e : Int) : Jvm.FP.Core.encode Jvm.FP.Core.b64 (Jvm.FP.Core.roundRatio Jvm.FP.Core.b64 s a b e) % 2 ^ 63 ≤ 2047 * 2 ^ 52 := by
  unfold Jvm.FP.Core.roundRatio
  by_cases c : a = 0
  · rw [if_pos c]
    exact asm_le s 0 0 (by omega)
  · rw [if_neg c]
    unfold Jvm.FP.Core.roundAt Jvm.FP.Core.settle
    by_cases c2 : Jvm.FP.Core.nearest (Jvm.FP.Core.unitsNum a e (Jvm.FP.Core.quantum Jvm.FP.Core.b64 a b e)) (Jvm.FP.Core.unitsDen b e (Jvm.FP.Core.quantum Jvm.FP.Core.b64 a b e)) < 2 ^ Jvm.FP.Core.b64.p
    · rw [if_pos c2]
      exact bnd_le _ _ _ c2
    · rw [if_neg c2]
      exact bnd_le _ _ _ (show 2 ^ 52 < 2 ^ 53 by decide)
theorem dec_nn (n : Nat) (h : n % 2 ^ 63 ≤ 2047 * 2 ^ 52) : Jvm.FP.Core.decode Jvm.FP.Core.b64 n ≠ .nan := by
  unfold Jvm.FP.Core.decode
  show (if n / 2 ^ 52 % 2048 = 2047 then (if n % 2 ^ 52 = 0 then Jvm.FP.Core.Datum.inf _ else .nan) else (if n / 2 ^ 52 % 2048 = 0 then Jvm.FP.Core.Datum.fin _ _ _ else Jvm.FP.Core.Datum.fin _ _ _)) ≠ .nan
  by_cases c1 : n / 2 ^ 52 % 2048 = 2047
  · rw [if_pos c1, if_pos (by omega)]
    exact Jvm.FP.Core.Datum.noConfusion
  · rw [if_neg c1]
    split <;> exact Jvm.FP.Core.Datum.noConfusion
theorem quo_le (x : Jvm.FP.Core.Datum) (hx : x ≠ .nan) (t : Bool) (d : Nat) (r : Int) (hd : d ≠ 0) : Jvm.FP.Core.encode Jvm.FP.Core.b64 (Jvm.FP.Core.quotient Jvm.FP.Core.b64 x (.fin t d r)) % 2 ^ 63 ≤ 2047 * 2 ^ 52 := by
  cases x with
  | nan => exact absurd rfl hx
  | inf s => exact asm_le _ 2047 0 (by omega)
  | fin s c q =>
    show Jvm.FP.Core.encode Jvm.FP.Core.b64 (if d = 0 then (if c = 0 then .nan else .inf (s != t)) else Jvm.FP.Core.roundRatio Jvm.FP.Core.b64 (s != t) c d (q - r)) % 2 ^ 63 ≤ _
    rw [if_neg hd]
    exact rat_le _ _ _ _
def isFin (x : Jvm.FP.Core.Datum) : Bool := match x with
  | .fin _ d _ => d != 0
  | _ => false
theorem i2d_nn (a : Int32) : Jvm.FP.Core.decode Jvm.FP.Core.b64 (FP.i2d a).toNat ≠ .nan := by
  refine dec_nn _ ?_
  show (UInt64.ofNat (Jvm.FP.Core.fromInt Jvm.FP.Core.b64 a.toInt)).toNat % 2 ^ 63 ≤ _
  rw [UInt64.toNat_ofNat']
  have : Jvm.FP.Core.fromInt Jvm.FP.Core.b64 a.toInt % 2 ^ 63 ≤ 2047 * 2 ^ 52 := rat_le _ _ _ _
  omega
theorem dd_le (a : Int32) {b : Nat} (h : 0 < b) (hb : b ≤ 20) : FP.ddiv (FP.i2d a) (FP.i2d (nI b)) &&& 0x7fffffffffffffff ≤ 0x7ff0000000000000 := by
  have k : ∀ b : Fin 20, isFin (Jvm.FP.Core.decode Jvm.FP.Core.b64 (FP.i2d (nI (b.1 + 1))).toNat) = true := by decide +kernel
  have k1 := k ⟨b - 1, by omega⟩
  have e : b - 1 + 1 = b := by omega
  simp only [e] at k1
  obtain ⟨t, d, r, k2, k3⟩ : ∃ t d r, Jvm.FP.Core.decode Jvm.FP.Core.b64 (FP.i2d (nI b)).toNat = .fin t d r ∧ d ≠ 0 := by
    revert k1
    cases Jvm.FP.Core.decode Jvm.FP.Core.b64 (FP.i2d (nI b)).toNat with
    | nan => exact fun q => Bool.noConfusion q
    | inf s => exact fun q => Bool.noConfusion q
    | fin t d r => exact fun q => ⟨t, d, r, rfl, fun z => by rw [z] at q; exact Bool.noConfusion q⟩
  have hq := quo_le _ (i2d_nn a) t d r k3
  rw [← k2] at hq
  have hq : Jvm.FP.Core.div Jvm.FP.Core.b64 (FP.i2d a).toNat (FP.i2d (nI b)).toNat % 2 ^ 63 ≤ 2047 * 2 ^ 52 := hq
  rw [UInt64.le_iff_toNat_le, UInt64.toNat_and, show (0x7fffffffffffffff : UInt64).toNat = 2 ^ 63 - 1 from rfl, Nat.and_two_pow_sub_one_eq_mod, show (0x7ff0000000000000 : UInt64).toNat = 2047 * 2 ^ 52 from rfl]
  show (UInt64.ofNat (Jvm.FP.Core.div Jvm.FP.Core.b64 (FP.i2d a).toNat (FP.i2d (nI b)).toNat)).toNat % 2 ^ 63 ≤ _
  rw [UInt64.toNat_ofNat']
  omega
section SIU
variable {N q : Nat} {v : VS} {z : VV} {tx : VT} {n0 n1 : Option VS} {m : VM}
theorem tog1_n {B : Nat} (hN0 : 2097152 ≤ N) (h : RS B v (mRow m)) (s : Int32) : fX5_together N m s 1 = some (nI (mkb (fun b => decide (sK v b = s)) B)) := by
  have e := X3_blocksIn_f hN0 h.b h.le s
  have e2 := X3_blocksIn hN0 h.b h.le s
  unfold fX3_blocksIn at e2
  rw [e, bsome] at e2
  unfold fX5_together
  rw [if_neg (by decide), X5_tog1_f hN0 h s, bsome, e2]
theorem tog2_n {B : Nat} (hN0 : 2097152 ≤ N) (h : RS B v (mRow m)) (s : Int32) : fX5_together N m s 2 = some (rng (fun i a => if sK v i = s then jmax a (grd (err v i)) else a) B (-1)) := by
  unfold fX5_together
  rw [if_pos rfl, X5_tog2_f hN0 h s, bsome]
theorem sim_stackOf (hN0 : 2097152 ≤ N) (h : SM q v z tx n0 n1 m) (p1 p2 : Int32) : RsQ q v z tx n0 n1 [(3, 1), (1, 2)] (fX4_stackOf N v p1 p2) (fX5_stackOf N m p1 p2) := by
  obtain ⟨B, h1, h2, h3⟩ := h.1
  have hl := h1.le
  unfold fX4_stackOf fX5_stackOf
  rw [cstk, bsome, isStk, bsome, th0, fls, fls, bsome, bsome, in_n, bsome]
  by_cases c1 : 0 ≤ p1 ∧ p1 ≤ 2
  · rw [if_pos c1, ser, if_pos (decide_eq_true c1)]
    have r1 : RS B v (mRow (mTh m 0)) := h1
    have hs := (stk3 c1).ne
    obtain ⟨x0, n1', n2⟩ := nom_same (m := mTh m 0) hN0 r1 p1
    obtain ⟨x2, t1, t2⟩ := tls_same (m := mTh m 0) hN0 r1 h2 h3 (p := 0) (by decide) hs
    have t1 : fX3_trueLengthOfStack N v p1 0 = some x2 := t1
    have t2 : fX5_lengthBehind N (mTh m 0) p1 0 = some x2 := t2
    have b1 := X3_blocksIn hN0 h1.b hl p1
    by_cases c2 : 0 ≤ p2 ∧ p2 ≤ 6
    · rw [if_pos (decide_eq_true c2)]
      obtain ⟨j, hj, rfl⟩ := rg8 (a := 6) rfl (by decide) c2
      unfold fX5_ofStack
      rcases (show j = 0 ∨ j = 1 ∨ j = 2 ∨ j = 3 ∨ j = 4 ∨ j = 5 ∨ j = 6 by omega) with rfl | rfl | rfl | rfl | rfl | rfl | rfl
      · refine okq h (x := nI (hgt v B p1)) ?_ ?_
        · rw [if_pos (show nI 0 = 0 from rfl), X3_heightOf hN0 h1.b hl, bsome]
        · rw [if_pos (show nI 0 = 0 from rfl), X5_height hN0 r1, bsome]
      · refine okq h (x := x0) ?_ ?_
        · rw [if_neg (show ¬ nI 1 = 0 by decide), if_pos (show nI 1 = 1 from rfl), b1, bsome, n1', bsome]
        · rw [if_neg (show ¬ nI 1 = 0 by decide), if_pos (show nI 1 = 1 from rfl), n2, bsome]
      · refine okq h (x := x2) ?_ ?_
        · rw [if_neg (show ¬ nI 2 = 0 by decide), if_neg (show ¬ nI 2 = 1 by decide), if_pos (show nI 2 = 2 from rfl), t1, bsome]
        · rw [if_neg (show ¬ nI 2 = 0 by decide), if_neg (show ¬ nI 2 = 1 by decide), if_pos (show nI 2 = 2 from rfl), t2, bsome]
      · refine okq h (x := nI (mkb (fun b => decide (sK v b = p1)) B)) ?_ ?_
        · rw [if_neg (show ¬ nI 3 = 0 by decide), if_neg (show ¬ nI 3 = 1 by decide), if_neg (show ¬ nI 3 = 2 by decide), if_pos (show nI 3 = 3 from rfl), b1, bsome]
        · rw [if_neg (show ¬ nI 3 = 0 by decide), if_neg (show ¬ nI 3 = 1 by decide), if_neg (show ¬ nI 3 = 2 by decide), if_pos (show nI 3 = 3 from rfl), tog1_n hN0 r1, bsome]
      · obtain ⟨x, y1, y2, _⟩ := blockAt_same (m := mTh m 0) hN0 h1.b r1 p1 (nI (hgt v B p1) - 1) (h2.uni hs) (fun b => Iff.rfl)
        refine okq h (x := x) ?_ ?_
        · rw [if_neg (show ¬ nI 4 = 0 by decide), if_neg (show ¬ nI 4 = 1 by decide), if_neg (show ¬ nI 4 = 2 by decide), if_neg (show ¬ nI 4 = 3 by decide), if_pos (show nI 4 = 4 from rfl), X3_heightOf hN0 h1.b hl, bsome, y1, bsome]
        · rw [if_neg (show ¬ nI 4 = 0 by decide), if_neg (show ¬ nI 4 = 1 by decide), if_neg (show ¬ nI 4 = 2 by decide), if_neg (show ¬ nI 4 = 3 by decide), if_pos (show nI 4 = 4 from rfl), X5_height hN0 r1, bsome, y2, bsome]
      · refine okq h (x := rng (fun i a => if sK v i = p1 then jmax a (grd (err v i)) else a) B (-1)) ?_ ?_
        · rw [if_neg (show ¬ nI 5 = 0 by decide), if_neg (show ¬ nI 5 = 1 by decide), if_neg (show ¬ nI 5 = 2 by decide), if_neg (show ¬ nI 5 = 3 by decide), if_neg (show ¬ nI 5 = 4 by decide), if_pos (show nI 5 = 5 from rfl), X3_greatestGradeIn hN0 h1.b hl, bsome]
        · rw [if_neg (show ¬ nI 5 = 0 by decide), if_neg (show ¬ nI 5 = 1 by decide), if_neg (show ¬ nI 5 = 2 by decide), if_neg (show ¬ nI 5 = 3 by decide), if_neg (show ¬ nI 5 = 4 by decide), if_pos (show nI 5 = 5 from rfl), tog2_n hN0 r1, bsome]
      · refine okq h (x := jabs (x2 - 1000 * x0)) ?_ ?_
        · rw [if_neg (show ¬ nI 6 = 0 by decide), if_neg (show ¬ nI 6 = 1 by decide), if_neg (show ¬ nI 6 = 2 by decide), if_neg (show ¬ nI 6 = 3 by decide), if_neg (show ¬ nI 6 = 4 by decide), if_neg (show ¬ nI 6 = 5 by decide), if_pos (show nI 6 = 6 from rfl)]
          unfold fX3_sizeOfDifference
          rw [t1, bsome, b1, bsome, n1', bsome, bsome]
        · rw [if_neg (show ¬ nI 6 = 0 by decide), if_neg (show ¬ nI 6 = 1 by decide), if_neg (show ¬ nI 6 = 2 by decide), if_neg (show ¬ nI 6 = 3 by decide), if_neg (show ¬ nI 6 = 4 by decide), if_neg (show ¬ nI 6 = 5 by decide), t2, bsome, n2, bsome, size_n, bsome]
    · rw [if_neg (fun z => c2 (of_decide_eq_true z))]
      have nn : ∀ j, j ≤ 6 → ¬ p2 = nI j := fun j hj e => c2 (by rw [e]; exact rgn (x := 0) (a := 6) rfl (by decide) hj)
      rw [if_neg (show ¬ p2 = 0 from nn 0 (by decide)), if_neg (show ¬ p2 = 1 from nn 1 (by decide)), if_neg (show ¬ p2 = 2 from nn 2 (by decide)), if_neg (show ¬ p2 = 3 from nn 3 (by decide)), if_neg (show ¬ p2 = 4 from nn 4 (by decide)), if_neg (show ¬ p2 = 5 from nn 5 (by decide)), if_neg (show ¬ p2 = 6 from nn 6 (by decide))]
      exact .inl ⟨1, 2, _, _, by decide, rfl, rfl, rfl, h.th 2⟩
  · rw [if_neg c1, sel, if_neg (fun z => c1 (of_decide_eq_true z))]
    exact .inl ⟨3, 1, _, _, by decide, rfl, rfl, rfl, h.th 1⟩
theorem sim_count (hN0 : 2097152 ≤ N) (h : SM q v z tx n0 n1 m) (p1 : Int32) : RsQ q v z tx n0 n1 [(1, 1)] (fX4_count N v tx z p1) (fX5_count N m p1) := by
  obtain ⟨B, h1, h2, h3⟩ := h.1
  obtain ⟨n, g1, g2⟩ := h.2.1
  obtain ⟨l, _, l1, l2, _⟩ := h.2.2.1
  have hl := h1.le
  have r1 : RS B v (mRow (mTh m 0)) := h1
  unfold fX4_count fX5_count
  rw [in_n, bsome, th0, fls, bsome]
  by_cases c2 : 0 ≤ p1 ∧ p1 ≤ 9
  · rw [if_pos (decide_eq_true c2)]
    obtain ⟨j, hj, rfl⟩ := rg8 (a := 9) rfl (by decide) c2
    unfold fX5_numberOf
    rcases (show j = 0 ∨ j = 1 ∨ j = 2 ∨ j = 3 ∨ j = 4 ∨ j = 5 ∨ j = 6 ∨ j = 7 ∨ j = 8 ∨ j = 9 by omega) with rfl | rfl | rfl | rfl | rfl | rfl | rfl | rfl | rfl | rfl
    · refine okp h (m' := mTh m 0) (x := sB v) ?_ ?_ rfl (h.th 0)
      · rw [if_pos (show nI 0 = 0 from rfl)]
      · rw [if_pos (show nI 0 = 0 from rfl), ck8, cl8, r1.r8, h1.b]
    · obtain ⟨f, c, e⟩ := X5_freeSet (m := mTh m 0) hN0 r1
      refine okp h (m' := mF (mTh m 0) f c) (x := nI (mkb (fun b => decide (sK v b = -1)) B)) ?_ ?_ rfl (h.th 0)
      · rw [if_neg (show ¬ nI 1 = 0 by decide), if_pos (show nI 1 = 1 from rfl), X3_blocksIn hN0 h1.b hl, bsome]
      · rw [if_neg (show ¬ nI 1 = 0 by decide), if_pos (show nI 1 = 1 from rfl), e, bsome]
    · refine okp h (m' := mTh m 0) (x := sM v) ?_ ?_ rfl (h.th 0)
      · rw [if_neg (show ¬ nI 2 = 0 by decide), if_neg (show ¬ nI 2 = 1 by decide), if_pos (show nI 2 = 2 from rfl)]
      · rw [if_neg (show ¬ nI 2 = 0 by decide), if_neg (show ¬ nI 2 = 1 by decide), if_pos (show nI 2 = 2 from rfl), ck4, cl4, r1.r4]
    · refine okp h (m' := mTh m 0) (x := sG v) ?_ ?_ rfl (h.th 0)
      · rw [if_neg (show ¬ nI 3 = 0 by decide), if_neg (show ¬ nI 3 = 1 by decide), if_neg (show ¬ nI 3 = 2 by decide), if_pos (show nI 3 = 3 from rfl)]
      · rw [if_neg (show ¬ nI 3 = 0 by decide), if_neg (show ¬ nI 3 = 1 by decide), if_neg (show ¬ nI 3 = 2 by decide), if_pos (show nI 3 = 3 from rfl), ck5, cl5, r1.r5]
    · refine okp h (m' := mTh m 0) (x := sO v) ?_ ?_ rfl (h.th 0)
      · rw [if_neg (show ¬ nI 4 = 0 by decide), if_neg (show ¬ nI 4 = 1 by decide), if_neg (show ¬ nI 4 = 2 by decide), if_neg (show ¬ nI 4 = 3 by decide), if_pos (show nI 4 = 4 from rfl)]
      · rw [if_neg (show ¬ nI 4 = 0 by decide), if_neg (show ¬ nI 4 = 1 by decide), if_neg (show ¬ nI 4 = 2 by decide), if_neg (show ¬ nI 4 = 3 by decide), if_pos (show nI 4 = 4 from rfl), ck6, cl6, r1.r6]
    · refine okp h (m' := mTh m 0) (x := rng (fun i a => a + sW v i) B 0) ?_ ?_ rfl (h.th 0)
      · rw [if_neg (show ¬ nI 5 = 0 by decide), if_neg (show ¬ nI 5 = 1 by decide), if_neg (show ¬ nI 5 = 2 by decide), if_neg (show ¬ nI 5 = 3 by decide), if_neg (show ¬ nI 5 = 4 by decide), if_pos (show nI 5 = 5 from rfl), X3_wearOfAll hN0 h1.b hl, bsome]
      · rw [if_neg (show ¬ nI 5 = 0 by decide), if_neg (show ¬ nI 5 = 1 by decide), if_neg (show ¬ nI 5 = 2 by decide), if_neg (show ¬ nI 5 = 3 by decide), if_neg (show ¬ nI 5 = 4 by decide), if_pos (show nI 5 = 5 from rfl), X5_wearOfAll hN0 r1, bsome]
    · refine okp h (m' := mTh m 0) (x := sR v) ?_ ?_ rfl (h.th 0)
      · rw [if_neg (show ¬ nI 6 = 0 by decide), if_neg (show ¬ nI 6 = 1 by decide), if_neg (show ¬ nI 6 = 2 by decide), if_neg (show ¬ nI 6 = 3 by decide), if_neg (show ¬ nI 6 = 4 by decide), if_neg (show ¬ nI 6 = 5 by decide), if_pos (show nI 6 = 6 from rfl)]
      · rw [if_neg (show ¬ nI 6 = 0 by decide), if_neg (show ¬ nI 6 = 1 by decide), if_neg (show ¬ nI 6 = 2 by decide), if_neg (show ¬ nI 6 = 3 by decide), if_neg (show ¬ nI 6 = 4 by decide), if_neg (show ¬ nI 6 = 5 by decide), if_pos (show nI 6 = 6 from rfl), ck7, cl7, r1.r7]
    · refine okp h (m' := mTh m 0) (x := nI (mkb (fun b => decide (grd (err v b) = 3)) B)) ?_ ?_ rfl (h.th 0)
      · rw [if_neg (show ¬ nI 7 = 0 by decide), if_neg (show ¬ nI 7 = 1 by decide), if_neg (show ¬ nI 7 = 2 by decide), if_neg (show ¬ nI 7 = 3 by decide), if_neg (show ¬ nI 7 = 4 by decide), if_neg (show ¬ nI 7 = 5 by decide), if_neg (show ¬ nI 7 = 6 by decide), if_pos (show nI 7 = 7 from rfl), X3_blocksOfGrade hN0 h1.b hl, bsome]
      · rw [if_neg (show ¬ nI 7 = 0 by decide), if_neg (show ¬ nI 7 = 1 by decide), if_neg (show ¬ nI 7 = 2 by decide), if_neg (show ¬ nI 7 = 3 by decide), if_neg (show ¬ nI 7 = 4 by decide), if_neg (show ¬ nI 7 = 5 by decide), if_neg (show ¬ nI 7 = 6 by decide), if_pos (show nI 7 = 7 from rfl), X5_worstSet hN0 r1, bsome]
    · refine okp h (m' := mTh m 0) (x := vN z) ?_ ?_ rfl (h.th 0)
      · rw [if_neg (show ¬ nI 8 = 0 by decide), if_neg (show ¬ nI 8 = 1 by decide), if_neg (show ¬ nI 8 = 2 by decide), if_neg (show ¬ nI 8 = 3 by decide), if_neg (show ¬ nI 8 = 4 by decide), if_neg (show ¬ nI 8 = 5 by decide), if_neg (show ¬ nI 8 = 6 by decide), if_neg (show ¬ nI 8 = 7 by decide), if_pos (show nI 8 = 8 from rfl)]
      · rw [if_neg (show ¬ nI 8 = 0 by decide), if_neg (show ¬ nI 8 = 1 by decide), if_neg (show ¬ nI 8 = 2 by decide), if_neg (show ¬ nI 8 = 3 by decide), if_neg (show ¬ nI 8 = 4 by decide), if_neg (show ¬ nI 8 = 5 by decide), if_neg (show ¬ nI 8 = 6 by decide), if_neg (show ¬ nI 8 = 7 by decide), if_pos (show nI 8 = 8 from rfl)]
        rw [show mSvn (mTh m 0) = vN z from g2.trans g1.2.1.symm]
    · refine okp h (m' := mTh m 0) (x := tL tx) ?_ ?_ rfl (h.th 0)
      · rw [if_neg (show ¬ nI 9 = 0 by decide), if_neg (show ¬ nI 9 = 1 by decide), if_neg (show ¬ nI 9 = 2 by decide), if_neg (show ¬ nI 9 = 3 by decide), if_neg (show ¬ nI 9 = 4 by decide), if_neg (show ¬ nI 9 = 5 by decide), if_neg (show ¬ nI 9 = 6 by decide), if_neg (show ¬ nI 9 = 7 by decide), if_neg (show ¬ nI 9 = 8 by decide), if_pos (show nI 9 = 9 from rfl)]
      · rw [if_neg (show ¬ nI 9 = 0 by decide), if_neg (show ¬ nI 9 = 1 by decide), if_neg (show ¬ nI 9 = 2 by decide), if_neg (show ¬ nI 9 = 3 by decide), if_neg (show ¬ nI 9 = 4 by decide), if_neg (show ¬ nI 9 = 5 by decide), if_neg (show ¬ nI 9 = 6 by decide), if_neg (show ¬ nI 9 = 7 by decide), if_neg (show ¬ nI 9 = 8 by decide), show mLen (mTh m 0) = tL tx from l2.trans l1.symm]
  · rw [if_neg (fun z => c2 (of_decide_eq_true z))]
    have nn : ∀ j, j ≤ 9 → ¬ p1 = nI j := fun j hj e => c2 (by rw [e]; exact rgn (x := 0) (a := 9) rfl (by decide) hj)
    rw [if_neg (show ¬ p1 = 0 from nn 0 (by decide)), if_neg (show ¬ p1 = 1 from nn 1 (by decide)), if_neg (show ¬ p1 = 2 from nn 2 (by decide)), if_neg (show ¬ p1 = 3 from nn 3 (by decide)), if_neg (show ¬ p1 = 4 from nn 4 (by decide)), if_neg (show ¬ p1 = 5 from nn 5 (by decide)), if_neg (show ¬ p1 = 6 from nn 6 (by decide)), if_neg (show ¬ p1 = 7 from nn 7 (by decide)), if_neg (show ¬ p1 = 8 from nn 8 (by decide)), if_neg (show ¬ p1 = 9 from nn 9 (by decide))]
    exact .inl ⟨1, 1, _, _, by decide, rfl, rfl, rfl, h.th 1⟩
theorem sim_meanError (hN0 : 2097152 ≤ N) (h : SM q v z tx n0 n1 m) : ∃ x, fX4_meanError N v = some x ∧ fX5_meanError N m = some (mTh m 0, x) := by
  obtain ⟨B, h1, h2, h3⟩ := h.1
  have hl := h1.le
  have r1 : RS B v (mRow (mTh m 0)) := h1
  unfold fX4_meanError fX5_meanError
  rw [th0, X3_sizesOfErrors hN0 h1.b hl, bsome, X5_meanError_f hN0 r1, bsome, ck8, ck8, cl8, h1.r8, h1.b]
  by_cases c : nI B = 0
  · exact ⟨_, by rw [if_pos c], by rw [if_pos c]⟩
  · rw [if_neg c, if_neg c]
    have hb : 0 < B := Nat.pos_of_ne_zero (fun e => c (by rw [e]; rfl))
    have k : ∀ (α : Type) (X : Option α) (a : Int32), cd (FP.ddiv (FP.i2d a) (FP.i2d (nI B))) X = X := fun α X a => if_pos (dd_le a hb hl)
    rw [k, k]
    exact ⟨_, rfl, rfl⟩
end SIU
