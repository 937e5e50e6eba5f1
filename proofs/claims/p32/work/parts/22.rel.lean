/-! what the class's rows say and what the reference's row says -/
theorem ck8 {α : Type} {X : Option α} : ck 8 149 X = X := ck_n (k := 8) (by decide) (by decide)
theorem ckI {α : Type} {i n : Nat} {X : Option α} (h : i < n) (hn : n < 2 ^ 31) : ck (nI i) n X = X := ck_n h hn
theorem bsome {α β : Type} (a : α) (f : α → Option β) : (some a).bind f = f a := rfl
theorem cl0 : Int32.toNatClampNeg 0 = 0 := by decide +kernel
theorem ck0 {α : Type} {X : Option α} : ck 0 149 X = X := ck_n (k := 0) (by decide) (by decide)
theorem cs0 {α : Type} {X : Option α} : ck 0 4 X = X := ck_n (k := 0) (by decide) (by decide)
theorem cl1 : Int32.toNatClampNeg 1 = 1 := by decide +kernel
theorem ck1 {α : Type} {X : Option α} : ck 1 149 X = X := ck_n (k := 1) (by decide) (by decide)
theorem cs1 {α : Type} {X : Option α} : ck 1 4 X = X := ck_n (k := 1) (by decide) (by decide)
theorem cl2 : Int32.toNatClampNeg 2 = 2 := by decide +kernel
theorem ck2 {α : Type} {X : Option α} : ck 2 149 X = X := ck_n (k := 2) (by decide) (by decide)
theorem cs2 {α : Type} {X : Option α} : ck 2 4 X = X := ck_n (k := 2) (by decide) (by decide)
theorem cl3 : Int32.toNatClampNeg 3 = 3 := by decide +kernel
theorem ck3 {α : Type} {X : Option α} : ck 3 149 X = X := ck_n (k := 3) (by decide) (by decide)
theorem cs3 {α : Type} {X : Option α} : ck 3 4 X = X := ck_n (k := 3) (by decide) (by decide)
theorem cl4 : Int32.toNatClampNeg 4 = 4 := by decide +kernel
theorem ck4 {α : Type} {X : Option α} : ck 4 149 X = X := ck_n (k := 4) (by decide) (by decide)
theorem cl5 : Int32.toNatClampNeg 5 = 5 := by decide +kernel
theorem ck5 {α : Type} {X : Option α} : ck 5 149 X = X := ck_n (k := 5) (by decide) (by decide)
theorem cl6 : Int32.toNatClampNeg 6 = 6 := by decide +kernel
theorem ck6 {α : Type} {X : Option α} : ck 6 149 X = X := ck_n (k := 6) (by decide) (by decide)
theorem cl7 : Int32.toNatClampNeg 7 = 7 := by decide +kernel
theorem ck7 {α : Type} {X : Option α} : ck 7 149 X = X := ck_n (k := 7) (by decide) (by decide)
theorem cl8 : Int32.toNatClampNeg 8 = 8 := by decide +kernel
def RS (B : Nat) (v : VS) (r : Nat → Int32) : Prop :=
  (B ≤ 20 ∧ sB v = nI B ∧ r 8 = nI B) ∧ (∀ j, j < 4 → sS v j = r j) ∧ (sM v = r 4 ∧ sG v = r 5 ∧ sO v = r 6 ∧ sR v = r 7) ∧
  ∀ b, b < B → sN v b = r (9 + 7 * b + 0) ∧ sD v b = r (9 + 7 * b + 1) ∧ sW v b = r (9 + 7 * b + 2) ∧ sH v b = r (9 + 7 * b + 3) ∧ sK v b = r (9 + 7 * b + 4) ∧ sP v b = r (9 + 7 * b + 5) ∧ sT v b = r (9 + 7 * b + 6)
section RSs
variable {B : Nat} {v : VS} {r : Nat → Int32}
theorem RS.le (h : RS B v r) : B ≤ 20 := h.1.1
theorem RS.b (h : RS B v r) : sB v = nI B := h.1.2.1
theorem RS.r8 (h : RS B v r) : r 8 = nI B := h.1.2.2
theorem RS.s0 (h : RS B v r) : r 0 = sS v 0 := (h.2.1 0 (by decide)).symm
theorem RS.s1 (h : RS B v r) : r 1 = sS v 1 := (h.2.1 1 (by decide)).symm
theorem RS.s2 (h : RS B v r) : r 2 = sS v 2 := (h.2.1 2 (by decide)).symm
theorem RS.s3 (h : RS B v r) : r 3 = sS v 3 := (h.2.1 3 (by decide)).symm
theorem RS.r4 (h : RS B v r) : r 4 = sM v := h.2.2.1.1.symm
theorem RS.r5 (h : RS B v r) : r 5 = sG v := h.2.2.1.2.1.symm
theorem RS.r6 (h : RS B v r) : r 6 = sO v := h.2.2.1.2.2.1.symm
theorem RS.r7 (h : RS B v r) : r 7 = sR v := h.2.2.1.2.2.2.symm
theorem RS.n (h : RS B v r) {b : Nat} (hb : b < B) : r (9 + 7 * b + 0) = sN v b := (h.2.2.2 b hb).1.symm
theorem RS.d (h : RS B v r) {b : Nat} (hb : b < B) : r (9 + 7 * b + 1) = sD v b := (h.2.2.2 b hb).2.1.symm
theorem RS.w (h : RS B v r) {b : Nat} (hb : b < B) : r (9 + 7 * b + 2) = sW v b := (h.2.2.2 b hb).2.2.1.symm
theorem RS.h (h : RS B v r) {b : Nat} (hb : b < B) : r (9 + 7 * b + 3) = sH v b := (h.2.2.2 b hb).2.2.2.1.symm
theorem RS.k (h : RS B v r) {b : Nat} (hb : b < B) : r (9 + 7 * b + 4) = sK v b := (h.2.2.2 b hb).2.2.2.2.1.symm
theorem RS.p (h : RS B v r) {b : Nat} (hb : b < B) : r (9 + 7 * b + 5) = sP v b := (h.2.2.2 b hb).2.2.2.2.2.1.symm
theorem RS.t (h : RS B v r) {b : Nat} (hb : b < B) : r (9 + 7 * b + 6) = sT v b := (h.2.2.2 b hb).2.2.2.2.2.2.symm
end RSs
def grd (e : Int32) : Int32 := if 100 < jabs e then (if 250 < jabs e then (if 500 < jabs e then 3 else 2) else 1) else 0
def err (v : VS) (b : Nat) : Int32 := sD v b - sW v b
theorem fold_mk (p : Nat → Bool) : ∀ n, rng (fun i a => if p i = true then a ||| nI (2 ^ i) else a) n 0 = nI (mkb p n)
  | 0 => rfl
  | n + 1 => by
    show (if p n = true then rng _ n 0 ||| nI (2 ^ n) else rng _ n 0) = nI (mkb p n + if p n = true then 2 ^ n else 0)
    rw [fold_mk p n]
    cases c : p n with
    | true => rw [if_pos rfl, if_pos rfl, nI_or (mkb_lt p n)]
    | false => rfl
theorem fold_ct (p : Nat → Bool) : ∀ n, rng (fun i a => if p i = true then a + 1 else a) n 0 = nI (fb_ct p n)
  | 0 => rfl
  | n + 1 => by
    show (if p n = true then rng _ n 0 + 1 else rng _ n 0) = nI (fb_ct p n + if p n = true then 1 else 0)
    rw [fold_ct p n]
    cases c : p n with
    | true => rw [if_pos rfl, if_pos rfl, nI_1]
    | false => rfl
theorem i32_z (x : Int32) : x + 0 = x := Int32.add_zero x
section CL
variable {N B : Nat} {v : VS}
theorem X3_isFree (N : Nat) (v : VS) {b : Nat} (h : b < 20) : fX3_isFree N v (nI b) = some (decide (sK v b = -1)) := by
  unfold fX3_isFree
  rw [ckI h (by decide), nI_clamp (by omega)]
  by_cases c : sK v b = -1 <;> simp [c]
theorem X3_errorOf (N : Nat) (v : VS) {b : Nat} (h : b < 20) : fX3_errorOf N v (nI b) = some (err v b) := by
  unfold fX3_errorOf err
  rw [ckI h (by decide), ckI h (by decide), nI_clamp (by omega)]
theorem X3_sizeOfError (N : Nat) (v : VS) {b : Nat} (h : b < 20) : fX3_sizeOfError N v (nI b) = some (jabs (err v b)) := by
  unfold fX3_sizeOfError
  rw [X3_errorOf N v h]
  rfl
theorem X3_gradeOf (N : Nat) (v : VS) {b : Nat} (h : b < 20) : fX3_gradeOf N v (nI b) = some (grd (err v b)) := by
  unfold fX3_gradeOf grd
  rw [X3_sizeOfError N v h, bsome]
  (repeat' split) <;> rfl
variable (hN : 2097152 ≤ N) (hB : sB v = nI B) (hb : B ≤ 20)
theorem X3_blocksIn_f (hN : 2097152 ≤ N) (hB : sB v = nI B) (hb : B ≤ 20) (s : Int32) : lX3_blocksIn_4 N v s N 0 0 = some (rng (fun i a => if decide (sK v i = s) = true then a ||| nI (2 ^ i) else a) B 0) := by
  refine for_pure (B := B) (lX3_blocksIn_4 N v s) (fun i a => if decide (sK v i = s) = true then a ||| nI (2 ^ i) else a) (fun n a => ?_) (fun n a i hi => ?_) (by omega) _
  · rw [lX3_blocksIn_4, hB, if_pos (Int32.le_refl _)]
  · rw [lX3_blocksIn_4, hB, if_neg (nI_ge hi (by omega))]
    rw [ckI (by omega) (by decide), nI_clamp (by omega)]
    rw [sh_1 i (by omega)]
    by_cases c : sK v i = s <;> simp [c]
theorem X3_blocksIn (hN : 2097152 ≤ N) (hB : sB v = nI B) (hb : B ≤ 20) (s : Int32) : fX3_blocksIn N v s = some (nI (mkb (fun b => decide (sK v b = s)) B)) := by
  unfold fX3_blocksIn
  rw [X3_blocksIn_f hN hB hb s, bsome, fold_mk (fun b => decide (sK v b = s))]
/-- how many blocks a stack has -/
def hgt (v : VS) (B : Nat) (s : Int32) : Nat := fb_ct (fun b => decide (sK v b = s)) B
theorem hgt_le (v : VS) (B : Nat) (s : Int32) : hgt v B s ≤ B := fb_ct_le _ B
theorem X3_heightOf (hN : 2097152 ≤ N) (hB : sB v = nI B) (hb : B ≤ 20) (s : Int32) : fX3_heightOf N v s = some (nI (hgt v B s)) := by
  unfold fX3_heightOf
  rw [X3_blocksIn hN hB hb s, bsome, bit_mk N _ hb]
  rfl
theorem X3_sizesOfErrors_f (hN : 2097152 ≤ N) (hB : sB v = nI B) (hb : B ≤ 20) : lX3_sizesOfErrors_4 N v  N 0 0 = some (rng (fun i a => a + jabs (err v i)) B 0) := by
  refine for_pure (B := B) (lX3_sizesOfErrors_4 N v ) (fun i a => a + jabs (err v i)) (fun n a => ?_) (fun n a i hi => ?_) (by omega) _
  · rw [lX3_sizesOfErrors_4, hB, if_pos (Int32.le_refl _)]
  · rw [lX3_sizesOfErrors_4, hB, if_neg (nI_ge hi (by omega))]
    rw [X3_sizeOfError N v (by omega)]
    rfl
theorem X3_sizesOfErrors (hN : 2097152 ≤ N) (hB : sB v = nI B) (hb : B ≤ 20) : fX3_sizesOfErrors N v = some (rng (fun i a => a + jabs (err v i)) B 0) := by
  unfold fX3_sizesOfErrors
  rw [X3_sizesOfErrors_f hN hB hb]
  rfl
theorem X3_wearOfAll_f (hN : 2097152 ≤ N) (hB : sB v = nI B) (hb : B ≤ 20) : lX3_wearOfAll_4 N v  N 0 0 = some (rng (fun i a => a + sW v i) B 0) := by
  refine for_pure (B := B) (lX3_wearOfAll_4 N v ) (fun i a => a + sW v i) (fun n a => ?_) (fun n a i hi => ?_) (by omega) _
  · rw [lX3_wearOfAll_4, hB, if_pos (Int32.le_refl _)]
  · rw [lX3_wearOfAll_4, hB, if_neg (nI_ge hi (by omega))]
    rw [ckI (by omega) (by decide), nI_clamp (by omega)]
theorem X3_wearOfAll (hN : 2097152 ≤ N) (hB : sB v = nI B) (hb : B ≤ 20) : fX3_wearOfAll N v = some (rng (fun i a => a + sW v i) B 0) := by
  unfold fX3_wearOfAll
  rw [X3_wearOfAll_f hN hB hb]
  rfl
theorem X3_greatestWarmth_f (hN : 2097152 ≤ N) (hB : sB v = nI B) (hb : B ≤ 20) : lX3_greatestWarmth_4 N v  N 0 0 = some (rng (fun i a => jmax a (sH v i)) B 0) := by
  refine for_pure (B := B) (lX3_greatestWarmth_4 N v ) (fun i a => jmax a (sH v i)) (fun n a => ?_) (fun n a i hi => ?_) (by omega) _
  · rw [lX3_greatestWarmth_4, hB, if_pos (Int32.le_refl _)]
  · rw [lX3_greatestWarmth_4, hB, if_neg (nI_ge hi (by omega))]
    rw [ckI (by omega) (by decide), nI_clamp (by omega)]
theorem X3_greatestWarmth (hN : 2097152 ≤ N) (hB : sB v = nI B) (hb : B ≤ 20) : fX3_greatestWarmth N v = some (rng (fun i a => jmax a (sH v i)) B 0) := by
  unfold fX3_greatestWarmth
  rw [X3_greatestWarmth_f hN hB hb]
  rfl
theorem X3_blocksOfGrade_f (hN : 2097152 ≤ N) (hB : sB v = nI B) (hb : B ≤ 20) (g : Int32) : lX3_blocksOfGrade_4 N v g N 0 0 = some (rng (fun i a => if decide (grd (err v i) = g) = true then a ||| nI (2 ^ i) else a) B 0) := by
  refine for_pure (B := B) (lX3_blocksOfGrade_4 N v g) (fun i a => if decide (grd (err v i) = g) = true then a ||| nI (2 ^ i) else a) (fun n a => ?_) (fun n a i hi => ?_) (by omega) _
  · rw [lX3_blocksOfGrade_4, hB, if_pos (Int32.le_refl _)]
  · rw [lX3_blocksOfGrade_4, hB, if_neg (nI_ge hi (by omega))]
    rw [X3_gradeOf N v (by omega), bsome, sh_1 i (by omega)]
    by_cases c : grd (err v i) = g <;> simp [c]
theorem X3_blocksOfGrade (hN : 2097152 ≤ N) (hB : sB v = nI B) (hb : B ≤ 20) (g : Int32) : fX3_blocksOfGrade N v g = some (nI (mkb (fun b => decide (grd (err v b) = g)) B)) := by
  unfold fX3_blocksOfGrade
  rw [X3_blocksOfGrade_f hN hB hb g, bsome, fold_mk (fun b => decide (grd (err v b) = g))]
theorem X3_nominalOfSet_f (hN : 2097152 ≤ N) (hB : sB v = nI B) (hb : B ≤ 20) {x : Nat} (hx : x < 2 ^ 31) : lX3_nominalOfSet_4 N v (nI x) N 0 0 = some (rng (fun i a => if x.testBit i = true then a + sN v i else a) B 0) := by
  refine for_pure (B := B) (lX3_nominalOfSet_4 N v (nI x)) (fun i a => if x.testBit i = true then a + sN v i else a) (fun n a => ?_) (fun n a i hi => ?_) (by omega) _
  · rw [lX3_nominalOfSet_4, hB, if_pos (Int32.le_refl _)]
  · rw [lX3_nominalOfSet_4, hB, if_neg (nI_ge hi (by omega))]
    by_cases c : x.testBit i = true
    · rw [if_neg (fun e => by rw [(bit_at0 hx (by omega)).mp e] at c; cases c), ckI (by omega) (by decide), nI_clamp (by omega)]
      simp [c]
    · rw [if_pos ((bit_at0 hx (by omega)).mpr (by cases h : x.testBit i <;> simp_all))]
      simp [c]
theorem X3_nominalOfSet (hN : 2097152 ≤ N) (hB : sB v = nI B) (hb : B ≤ 20) {x : Nat} (hx : x < 2 ^ 31) : fX3_nominalOfSet N v (nI x) = some (rng (fun i a => if x.testBit i = true then a + sN v i else a) B 0) := by
  unfold fX3_nominalOfSet
  rw [X3_nominalOfSet_f hN hB hb hx]
  rfl
theorem X3_greatestGradeIn_f (hN : 2097152 ≤ N) (hB : sB v = nI B) (hb : B ≤ 20) (s : Int32) : lX3_greatestGradeIn_4 N v s N (-1) 0 = some (rng (fun i a => if sK v i = s then jmax a (grd (err v i)) else a) B (-1)) := by
  refine for_pure (B := B) (lX3_greatestGradeIn_4 N v s) (fun i a => if sK v i = s then jmax a (grd (err v i)) else a) (fun n a => ?_) (fun n a i hi => ?_) (by omega) _
  · rw [lX3_greatestGradeIn_4, hB, if_pos (Int32.le_refl _)]
  · rw [lX3_greatestGradeIn_4, hB, if_neg (nI_ge hi (by omega))]
    rw [ckI (by omega) (by decide), nI_clamp (by omega)]
    rw [X3_gradeOf N v (by omega)]
    by_cases c : sK v i = s <;> simp [c]
theorem X3_greatestGradeIn (hN : 2097152 ≤ N) (hB : sB v = nI B) (hb : B ≤ 20) (s : Int32) : fX3_greatestGradeIn N v s = some (rng (fun i a => if sK v i = s then jmax a (grd (err v i)) else a) B (-1)) := by
  unfold fX3_greatestGradeIn
  rw [X3_greatestGradeIn_f hN hB hb s]
  rfl
end CL
section MO
variable {N B : Nat} {v : VS}
end MO
