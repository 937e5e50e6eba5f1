/-! all numbers of the blocks, all counts: the class answers as the law's case says -/
theorem cmpI (i : Int) : compare i i = Ordering.eq := by
  show compareOfLessAndEq i i = Ordering.eq
  unfold compareOfLessAndEq
  rw [if_neg (Int.lt_irrefl i), if_pos rfl]
theorem ord_self {x : Jvm.FP.Core.Datum} (h : x ≠ .nan) : Jvm.FP.Core.order x x = some .eq := by
  cases x with
  | nan => exact absurd rfl h
  | inf s => exact congrArg some (cmpI _)
  | fin s c q => exact congrArg some (cmpI _)
theorem d_self {x : UInt64} (h : x &&& 0x7fffffffffffffff ≤ 0x7ff0000000000000) : Op.cmpValue (FP.dcmp x x) .l = 0 := by
  rw [UInt64.le_iff_toNat_le, UInt64.toNat_and, show (0x7fffffffffffffff : UInt64).toNat = 2 ^ 63 - 1 from rfl, Nat.and_two_pow_sub_one_eq_mod, show (0x7ff0000000000000 : UInt64).toNat = 2047 * 2 ^ 52 from rfl] at h
  have e : FP.dcmp x x = some .eq := ord_self (dec_nn x.toNat h)
  rw [e]
  rfl
section BO
variable {N B q : Nat} {v : VS} {z : VV} {tx : VT} {gl ge gw gh gt gn gp : Nat → Int32}
theorem bo_0 (hB : sB v = nI B) (hl : B ≤ 20) {b : Nat} (hb : b < B) : fX4_blockOf N v (nI b) 0 = some (sN v b) := by
  unfold fX4_blockOf
  rw [ccb N hB hl hb, bsome, if_pos rfl, ckI (by omega) (by decide), nI_clamp (by omega)]
theorem bo_1 (hB : sB v = nI B) (hl : B ≤ 20) {b : Nat} (hb : b < B) : fX4_blockOf N v (nI b) 1 = some (err v b + 10000) := by
  unfold fX4_blockOf
  rw [ccb N hB hl hb, bsome, if_neg (by decide), if_pos rfl, X3_errorOf N v (by omega)]
  rfl
theorem bo_2 (hB : sB v = nI B) (hl : B ≤ 20) {b : Nat} (hb : b < B) : fX4_blockOf N v (nI b) 2 = some (sW v b) := by
  unfold fX4_blockOf
  rw [ccb N hB hl hb, bsome, if_neg (by decide), if_neg (by decide), if_pos rfl, ckI (by omega) (by decide), nI_clamp (by omega)]
theorem bo_3 (hB : sB v = nI B) (hl : B ≤ 20) {b : Nat} (hb : b < B) : fX4_blockOf N v (nI b) 3 = some (sH v b) := by
  unfold fX4_blockOf
  rw [ccb N hB hl hb, bsome, if_neg (by decide), if_neg (by decide), if_neg (by decide), if_pos rfl, ckI (by omega) (by decide), nI_clamp (by omega)]
theorem bo_4 (hB : sB v = nI B) (hl : B ≤ 20) {b : Nat} (hb : b < B) : fX4_blockOf N v (nI b) 4 = some (grd (err v b)) := by
  unfold fX4_blockOf
  rw [ccb N hB hl hb, bsome, if_neg (by decide), if_neg (by decide), if_neg (by decide), if_neg (by decide), if_pos rfl, X3_gradeOf N v (by omega)]
  rfl
theorem bo_5 (hN0 : 2097152 ≤ N) (hB : sB v = nI B) (hl : B ≤ 20) (hd : BD B q v) {b : Nat} (hb : b < B) : fX4_blockOf N v (nI b) 5 = some (tl (sN v b) (err v b) (sH v b)) := by
  have e : fX3_trueLengthOf N v (nI b) 0 = some (tlb v 0 b) := X3_trueLengthOf (p := 0) hN0 hd hl hb (by decide)
  unfold fX4_blockOf
  rw [ccb N hB hl hb, bsome, if_neg (by decide), if_neg (by decide), if_neg (by decide), if_neg (by decide), if_neg (by decide), if_pos rfl, e, bsome]
  unfold tlb
  rw [show nI (coK 0 (hN v b)) = sH v b from (hd.h hb).1.symm]
theorem bo_6 (hB : sB v = nI B) (hl : B ≤ 20) {b : Nat} (hb : b < B) : fX4_blockOf N v (nI b) 6 = some (sK v b) := by
  unfold fX4_blockOf
  rw [ccb N hB hl hb, bsome, if_neg (by decide), if_neg (by decide), if_neg (by decide), if_neg (by decide), if_neg (by decide), if_neg (by decide), if_pos rfl, ckI (by omega) (by decide), nI_clamp (by omega)]
theorem bo_7 (hB : sB v = nI B) (hl : B ≤ 20) {b : Nat} (hb : b < B) : fX4_blockOf N v (nI b) 7 = some (sP v b) := by
  unfold fX4_blockOf
  rw [ccb N hB hl hb, bsome, if_neg (by decide), if_neg (by decide), if_neg (by decide), if_neg (by decide), if_neg (by decide), if_neg (by decide), if_neg (by decide), if_pos rfl, ckI (by omega) (by decide), nI_clamp (by omega)]
theorem bo_8 (hB : sB v = nI B) (hl : B ≤ 20) {b : Nat} (hb : b < B) : fX4_blockOf N v (nI b) 8 = some (sT v b) := by
  unfold fX4_blockOf
  rw [ccb N hB hl hb, bsome, if_neg (by decide), if_neg (by decide), if_neg (by decide), if_neg (by decide), if_neg (by decide), if_neg (by decide), if_neg (by decide), if_neg (by decide), if_pos rfl, ckI (by omega) (by decide), nI_clamp (by omega)]
theorem wh_k (h : LI B q v gl ge gw gh gt gn gp) {b : Nat} (hb : b < B) : ((if wh (sK v) (sP v) b = (-1 : Int32) then some (-1) else some (wh (sK v) (sP v) b / 10)) : Option Int32) = some (sK v b) := by
  have hl := h.le
  by_cases c : sK v b = -1
  · rw [if_pos ((wh_m1 hl h.2.2.1 hb).mpr c), c]
  · obtain ⟨s, p, h1, h2, h3, h4, h5⟩ := wh_at hl h.2.2.1 hb c
    rw [if_neg (fun z => c ((wh_m1 hl h.2.2.1 hb).mp z)), h5, h3, show nI (10 * s + p) / 10 = nI ((10 * s + p) / 10) from nI_div (b := 10) (by omega) (by decide) (by decide), show (10 * s + p) / 10 = s by omega]
theorem wh_p (h : LI B q v gl ge gw gh gt gn gp) {b : Nat} (hb : b < B) : ((if wh (sK v) (sP v) b = (-1 : Int32) then some (-1) else some (wh (sK v) (sP v) b - wh (sK v) (sP v) b / 10 * 10)) : Option Int32) = some (sP v b) := by
  have hl := h.le
  by_cases c : sK v b = -1
  · rw [if_pos ((wh_m1 hl h.2.2.1 hb).mpr c), h.fk b hb c]
  · obtain ⟨s, p, h1, h2, h3, h4, h5⟩ := wh_at hl h.2.2.1 hb c
    rw [if_neg (fun z => c ((wh_m1 hl h.2.2.1 hb).mp z)), h5, h4, show nI (10 * s + p) - nI (10 * s + p) / 10 * 10 = nI ((10 * s + p) % 10) from remI (d := 10) (by omega) (by decide) (by decide), show (10 * s + p) % 10 = p by omega]
theorem coK_dec : ∀ k n, coK k n ≤ n - k
  | 0, n => Nat.le_refl n
  | k + 1, n => by
    rw [coK_s]
    have := coK_dec k n
    unfold co
    omega
/-- the minutes until a block is cool -/
theorem cool_least {s1 : Int32} (h0 : 0 ≤ s1.toInt) {x : Nat} (hx : x ≤ 1000) : ∃ m, m ≤ 1000 ∧ nI (coK m x) ≤ s1 ∧ ∀ j, j < m → ¬ nI (coK j x) ≤ s1 := by
  obtain ⟨m, m1, m2, m3⟩ := fb_first (p := fun k => nI (coK k x) ≤ s1) (n := 1001) ⟨1000, by decide, by
    have e : coK 1000 x = 0 := by
      have := coK_dec 1000 x
      omega
    show nI (coK 1000 x) ≤ s1
    rw [e, fa_le]
    show (0 : Int32).toInt ≤ _
    rw [z0]
    exact h0⟩
  exact ⟨m, by omega, m2, m3⟩
theorem c_cool (hN0 : 2097152 ≤ N) (hB : sB v = nI B) (hl : B ≤ 20) (hd : BD B q v) {b : Nat} (hb : b < B) {m : Nat} (hm : m ≤ 1000) (h1 : nI (coK m (hN v b)) ≤ sS v 1) (h2 : ∀ j, j < m → ¬ nI (coK j (hN v b)) ≤ sS v 1) : fX4_coolIn N v (nI b) = some (nI m) := by
  obtain ⟨e1, e2⟩ := hd.h hb
  have key : ∀ k j f, j + k = m → k < f → lX3_minutesUntilCool_9 N v f (nI (coK j (hN v b))) (nI j) = some (nI m) := by
    intro k
    induction k with
    | zero =>
      intro j f hj hf
      obtain ⟨f, rfl⟩ : ∃ x, f = x + 1 := ⟨f - 1, by omega⟩
      have e : j = m := by omega
      subst e
      rw [lX3_minutesUntilCool_9, cs1, cl1, if_pos h1]
    | succ k ih =>
      intro j f hj hf
      obtain ⟨f, rfl⟩ : ∃ x, f = x + 1 := ⟨f - 1, by omega⟩
      have hle := coK_le j (hN v b)
      have e3 : fX3_cooled N (nI (coK j (hN v b))) 1 = some (nI (coK (j + 1) (hN v b))) := by
        rw [coK_s]
        exact X3_cooled (p := 1) hN0 (by omega) (by decide)
      rw [lX3_minutesUntilCool_9, cs1, cl1, if_neg (h2 j (by omega)), if_neg (show ¬ (1000 : Int32) ≤ nI j from nI_ge (b := 1000) (by omega) (by decide)), e3, bsome, nI_1]
      exact ih (j + 1) f (by omega) (by omega)
  unfold fX4_coolIn fX3_minutesUntilCool
  rw [ccb N hB hl hb, bsome, ckI (by omega) (by decide), nI_clamp (by omega), e1]
  have h3 := key m 0 N (by omega) (by omega)
  rw [show coK 0 (hN v b) = hN v b from rfl, show nI 0 = (0 : Int32) from rfl] at h3
  rw [h3]
  rfl
theorem L_minutes (hN0 : 2097152 ≤ N) (h : LI B q v gl ge gw gh gt gn gp) (l8 l9 l10 l11 : Int32) {b : Nat} (hb : b < B) {m : Nat} (hm : m ≤ 1000) (h1 : nI (coK m (hN v b)) ≤ sS v 1) (h2 : ∀ j, j < m → ¬ nI (coK j (hN v b)) ≤ sS v 1) : lL_areBlocks_240 N v tx z gl ge gw gh gt gn gp l8 l9 l10 l11 (nI b) N 0 = some (nI m) := by
  have hl := h.le
  obtain ⟨e1, e2⟩ := h.2.2.2.h hb
  have key : ∀ k j f, j + k = m → k < f → lL_areBlocks_240 N v tx z gl ge gw gh gt gn gp l8 l9 l10 l11 (nI b) f (nI j) = some (nI m) := by
    intro k
    induction k with
    | zero =>
      intro j f hj hf
      obtain ⟨f, rfl⟩ : ∃ x, f = x + 1 := ⟨f - 1, by omega⟩
      have e : j = m := by omega
      subst e
      rw [lL_areBlocks_240, ckI (by omega) (by decide), nI_clamp (by omega), h.h hb, e1, L_cool hN0 e2 (by omega), bsome, cn1, cl1, h.n1, if_pos h1]
    | succ k ih =>
      intro j f hj hf
      obtain ⟨f, rfl⟩ : ∃ x, f = x + 1 := ⟨f - 1, by omega⟩
      rw [lL_areBlocks_240, ckI (by omega) (by decide), nI_clamp (by omega), h.h hb, e1, L_cool hN0 e2 (by omega), bsome, cn1, cl1, h.n1, if_neg (h2 j (by omega)), nI_1]
      exact ih (j + 1) f (by omega) (by omega)
  exact key m 0 N (by omega) (by omega)
theorem L_blocks32 (hN0 : 2097152 ≤ N) (h : LI B q v gl ge gw gh gt gn gp) : lL_areBlocks_32 N v tx z gl ge gw gh gt gn gp N 0 0 0 1 0 = some (rng (fun i a => a + jabs (err v i)) B 0, nI (mkb (fun b => decide (grd (err v b) = 3)) B), rng (fun i a => a + sW v i) B 0, 1) := by
  have hl := h.le
  have h1 := for_seq (B := B) (fun n (a : Int32 × Int32 × Int32 × Int32) i => lL_areBlocks_32 N v tx z gl ge gw gh gt gn gp n a.1 a.2.1 a.2.2.1 a.2.2.2 i)
    (fun i => (rng (fun i a => a + jabs (err v i)) i 0, nI (mkb (fun b => decide (grd (err v b) = 3)) i), rng (fun i a => a + sW v i) i 0, 1))
    (rng (fun i a => a + jabs (err v i)) B 0, nI (mkb (fun b => decide (grd (err v b) = 3)) B), rng (fun i a => a + sW v i) B 0, 1)
    (fun n => by
      show lL_areBlocks_32 N v tx z gl ge gw gh gt gn gp (n + 1) _ _ _ 1 (nI B) = _
      rw [lL_areBlocks_32, cn8, cl8, h.n8, if_pos (Int32.le_refl _)])
    (fun n i hi => by
      show lL_areBlocks_32 N v tx z gl ge gw gh gt gn gp (n + 1) (rng (fun i a => a + jabs (err v i)) i 0) (nI (mkb (fun b => decide (grd (err v b) = 3)) i)) (rng (fun i a => a + sW v i) i 0) 1 (nI i) = lL_areBlocks_32 N v tx z gl ge gw gh gt gn gp n (rng (fun i a => a + jabs (err v i)) i 0 + jabs (err v i)) (nI (mkb (fun b => decide (grd (err v b) = 3)) i + if decide (grd (err v i) = 3) = true then 2 ^ i else 0)) (rng (fun i a => a + sW v i) i 0 + sW v i) 1 (nI i + 1)
      have hd := h.2.2.2
      obtain ⟨e1, e2⟩ := hd.h hi
      obtain ⟨m, m1, m2, m3⟩ := cool_least hd.2.2.2.2.2.1.1 e2
      have cI : ∀ {α : Type} (X : Option α), ck (nI i) 10 X = X := fun X => ckI (by omega) (by decide)
      have kI : (nI i).toNatClampNeg = i := nI_clamp (by omega)
      have a1 : (10000 + sD v i) - sW v i = err v i + 10000 := by
        rw [i32_as, Int32.add_comm]
        rfl
      rw [lL_areBlocks_32, cn8, cl8, h.n8, if_neg (nI_ge hi (by omega)), if_neg (show ¬ (1 : Int32) = 0 by decide), L_where hN0 hl h.2.2.1 h.2.1 hi, bsome]
      simp only [cI, kI]
      rw [bo_0 h.b (by omega) hi, bsome, h.l hi, if_pos rfl, bo_1 h.b (by omega) hi, bsome, h.e hi, h.w hi, if_pos a1.symm, bo_2 h.b (by omega) hi, bsome, if_pos rfl, bo_3 h.b (by omega) hi, bsome, h.h hi, if_pos rfl, bo_4 h.b (by omega) hi, bsome, L_grade N ge gw (by omega), bsome, h.err hi, if_pos rfl,
        bo_5 hN0 h.b (by omega) hd hi, bsome, L_length N gl ge gw (by omega), bsome, h.l hi, h.err hi, if_pos rfl, bo_6 h.b (by omega) hi, bsome, wh_k h hi, bsome, if_pos rfl, bo_7 h.b (by omega) hi, bsome, wh_p h hi, bsome, if_pos rfl, bo_8 h.b (by omega) hi, bsome, h.t hi, if_pos rfl,
        L_minutes hN0 h _ _ _ _ hi m1 m2 m3, bsome, c_cool hN0 h.b (by omega) hd hi m1 m2 m3, bsome, if_pos rfl, L_size, bsome, bsome]
      by_cases c : grd (err v i) = 3
      · rw [if_pos c, if_pos (decide_eq_true c), sh_1 i (by omega), nI_or (mkb_lt _ i)]
        rfl
      · rw [if_neg c, if_neg (fun z => c (of_decide_eq_true z)), nI_or0]
        rfl) (n := N) 0 (by omega) (by omega)
  exact h1
theorem cnt_1 (hN0 : 2097152 ≤ N) (hB : sB v = nI B) (hl : B ≤ 20) : fX4_count N v tx z 1 = some (nI (mkb (fun b => decide (sK v b = -1)) B)) := by
  unfold fX4_count
  rw [if_neg (by decide), if_pos rfl, X3_blocksIn hN0 hB hl]
  rfl
theorem cnt_2 : fX4_count N v tx z 2 = some (sM v) := by
  unfold fX4_count
  rw [if_neg (by decide), if_neg (by decide), if_pos rfl]
theorem cnt_3 : fX4_count N v tx z 3 = some (sG v) := by
  unfold fX4_count
  rw [if_neg (by decide), if_neg (by decide), if_neg (by decide), if_pos rfl]
theorem cnt_4 : fX4_count N v tx z 4 = some (sO v) := by
  unfold fX4_count
  rw [if_neg (by decide), if_neg (by decide), if_neg (by decide), if_neg (by decide), if_pos rfl]
theorem cnt_5 (hN0 : 2097152 ≤ N) (hB : sB v = nI B) (hl : B ≤ 20) : fX4_count N v tx z 5 = some (rng (fun i a => a + sW v i) B 0) := by
  unfold fX4_count
  rw [if_neg (by decide), if_neg (by decide), if_neg (by decide), if_neg (by decide), if_neg (by decide), if_pos rfl, X3_wearOfAll hN0 hB hl]
  rfl
theorem cnt_6 : fX4_count N v tx z 6 = some (sR v) := by
  unfold fX4_count
  rw [if_neg (by decide), if_neg (by decide), if_neg (by decide), if_neg (by decide), if_neg (by decide), if_neg (by decide), if_pos rfl]
theorem cnt_7 (hN0 : 2097152 ≤ N) (hB : sB v = nI B) (hl : B ≤ 20) : fX4_count N v tx z 7 = some (nI (mkb (fun b => decide (grd (err v b) = 3)) B)) := by
  unfold fX4_count
  rw [if_neg (by decide), if_neg (by decide), if_neg (by decide), if_neg (by decide), if_neg (by decide), if_neg (by decide), if_neg (by decide), if_pos rfl, X3_blocksOfGrade hN0 hB hl]
  rfl
theorem set_0 (N : Nat) (v : VS) : fX4_setting N v 0 = some (sS v 0) := by
  unfold fX4_setting
  rw [show fX4_checkSetting N 0 = some () from cce N (s := 0) (by decide), bsome, cs0, cl0]
theorem set_1 (N : Nat) (v : VS) : fX4_setting N v 1 = some (sS v 1) := by
  unfold fX4_setting
  rw [show fX4_checkSetting N 1 = some () from cce N (s := 1) (by decide), bsome, cs1, cl1]
theorem set_2 (N : Nat) (v : VS) : fX4_setting N v 2 = some (sS v 2) := by
  unfold fX4_setting
  rw [show fX4_checkSetting N 2 = some () from cce N (s := 2) (by decide), bsome, cs2, cl2]
theorem set_3 (N : Nat) (v : VS) : fX4_setting N v 3 = some (sS v 3) := by
  unfold fX4_setting
  rw [show fX4_checkSetting N 3 = some () from cce N (s := 3) (by decide), bsome, cs3, cl3]
theorem L_areBlocks (hN0 : 2097152 ≤ N) (h : LI B q v gl ge gw gh gt gn gp) : fL_areBlocks N v tx z gl ge gw gh gt gn gp = some true := by
  have hl := h.le
  unfold fL_areBlocks
  rw [c_count0 h, bsome, cn8, cl8, h.n8, if_pos rfl, L_blocks32 hN0 h, bsome, if_neg (show ¬ (1 : Int32) = 0 by decide), cnt_1 hN0 h.b (by omega), bsome, L_free hN0 hl h.2.2.1 h.2.1 h.n8, bsome, if_pos rfl, cnt_2, bsome, cn4, cl4, if_pos h.n4.symm, cnt_3, bsome, cn5, cl5, if_pos h.n5.symm, cnt_4, bsome, cn6, cl6, if_pos h.n6.symm, cnt_5 hN0 h.b (by omega), bsome, if_pos rfl, cnt_6, bsome, cn7, cl7, if_pos h.n7.symm, cnt_7 hN0 h.b (by omega), bsome, if_pos rfl, set_0, bsome, cn0, cl0, if_pos h.n0.symm, set_1, bsome, cn1, cl1, if_pos h.n1.symm, set_2, bsome, cn2, cl2, if_pos h.n2.symm, set_3, bsome, cn3, cl3, if_pos h.n3.symm]
  by_cases c : B = 0
  · subst c
    have e : fX4_meanError N v = some FP.dconst0 := by
      unfold fX4_meanError
      rw [h.b, if_pos (show nI 0 = (0 : Int32) from rfl)]
    rw [e, bsome, cn8, if_pos (show nI 0 = (0 : Int32) from rfl), bsome, if_pos (d_self (by decide +kernel))]
  · have hd := dd_le (rng (fun i a => a + jabs (err v i)) B 0) (b := B) (by omega) (by omega)
    have e1 : ∀ X : Option UInt64, cd (FP.ddiv (FP.i2d (rng (fun i a => a + jabs (err v i)) B 0)) (FP.i2d (nI B))) X = X := fun X => by
      unfold cd
      rw [if_pos hd]
    have e : fX4_meanError N v = some (FP.ddiv (FP.i2d (rng (fun i a => a + jabs (err v i)) B 0)) (FP.i2d (nI B))) := by
      unfold fX4_meanError
      rw [h.b, if_neg (show ¬ nI B = (0 : Int32) from nI_ne0 (by omega) (by omega)), X3_sizesOfErrors hN0 h.b (by omega), bsome, e1]
    rw [e, bsome, cn8, if_neg (show ¬ nI B = (0 : Int32) from nI_ne0 (by omega) (by omega)), cn8, e1, bsome, if_pos (d_self hd)]
end BO
