/-! the free blocks in a row; the nearest length; different lengths -/
section FR
variable {N B : Nat} {v : VS} {m : VM}
def fre (v : VS) (b : Nat) : Bool := decide (sK v b = -1)
def mF (m : VM) (f : Nat → Int32) (c : Int32) : VM := (mRow m, mSav m, mSvn m, mSnp m, mKep m, mThr m, f, c, mBuf m, mLen m, mSpt m, mNum m, mOrd m, mLet m, mFst m, mSnd m, mTok m, mLft m)
/-- f lists the free blocks under B -/
def FL (v : VS) (B : Nat) (f : Nat → Int32) : Prop := ∀ b, b < B → fre v b = true → f (fb_ct (fre v) b) = nI b
theorem X5_look (hN0 : 2097152 ≤ N) (h : RS B v (mRow m)) : ∃ f, fX5_lookForFree N m = some (mF m f (nI (fb_ct (fre v) B))) ∧ FL v B f := by
  have hl := h.le
  obtain ⟨r, h1, f, rfl, h3⟩ := for_ex (B := B) (lX5_lookForFree_7 N) (fun i a => ∃ f, a = mF m f (nI (fb_ct (fre v) i)) ∧ FL v i f) (fun r => ∃ f, r = mF m f (nI (fb_ct (fre v) B)) ∧ FL v B f)
    (fun n a q => by
      obtain ⟨f, rfl, q2⟩ := q
      exact ⟨_, by rw [lX5_lookForFree_7, ck8, cl8, show mRow (mF m f (nI (fb_ct (fre v) B))) 8 = nI B from h.r8, if_pos (Int32.le_refl _)], f, rfl, q2⟩)
    (fun n a i hi q => .inl (by
      obtain ⟨f, rfl, q2⟩ := q
      have hc := fb_ct_le (fre v) i
      have hf : fX5_isFree N (mF m f (nI (fb_ct (fre v) i))) (nI i) = some (decide (sK v i = -1)) := X5_isFree (m := mF m f (nI (fb_ct (fre v) i))) h hi
      rw [lX5_lookForFree_7, ck8, cl8, show mRow (mF m f (nI (fb_ct (fre v) i))) 8 = nI B from h.r8, if_neg (nI_ge hi (by omega)), hf, bsome]
      by_cases c : sK v i = -1
      · have cf : fre v i = true := decide_eq_true c
        rw [if_pos (decide_eq_true c)]
        refine ⟨mF m (upd f (fb_ct (fre v) i) (nI i)) (nI (fb_ct (fre v) (i + 1))), ?_, _, rfl, ?_⟩
        · show ck (nI (fb_ct (fre v) i)) 20 (lX5_lookForFree_7 N n (mF m (upd f (Int32.toNatClampNeg (nI (fb_ct (fre v) i))) (nI i)) (nI (fb_ct (fre v) i) + 1)) (nI i + 1)) = _
          rw [ckI (by omega) (by decide), nI_clamp (by omega), nI_1, fb_ct_succ, cf]
          rfl
        · intro b hb hfb
          rcases Nat.decEq b i with e | e
          · have hlt : b < i := by omega
            have h4 : fb_ct (fre v) b ≠ fb_ct (fre v) i := fun z => e (fb_ct_kth_one hfb cf z)
            rw [pk_un h4]
            exact q2 b hlt hfb
          · subst e; rw [pk_us]
      · have cf : fre v i = false := decide_eq_false c
        rw [if_neg (fun z => c (of_decide_eq_true z))]
        refine ⟨mF m f (nI (fb_ct (fre v) i)), rfl, f, ?_, fun b hb hfb => ?_⟩
        · rw [fb_ct_succ, cf]; rfl
        · rcases Nat.decEq b i with e | e
          · exact q2 b (by omega) hfb
          · subst e; rw [cf] at hfb; cases hfb)) (n := N) 0 (by omega) (by omega) (mF m (mFre m) 0) ⟨mFre m, rfl, fun b hb => by omega⟩
  refine ⟨f, ?_, h3⟩
  unfold fX5_lookForFree
  have h4 : lX5_lookForFree_7 N N (mF m (mFre m) 0) 0 = some (mF m f (nI (fb_ct (fre v) B))) := h1
  show (lX5_lookForFree_7 N N (mF m (mFre m) 0) 0).bind _ = _
  rw [h4]
  rfl
/-- a fold over the free blocks, block by block or place by place -/
theorem rng_free {α : Type} {p : Nat → Bool} {g : Nat → α → α} {idx : Nat → Nat} {a : α} : ∀ {n : Nat}, (∀ b, b < n → p b = true → idx (fb_ct p b) = b) → rng (fun k a => g (idx k) a) (fb_ct p n) a = rng (fun i a => if p i = true then g i a else a) n a
  | 0, _ => rfl
  | n + 1, h => by
    have ih := rng_free (g := g) (a := a) (n := n) (fun b hb hp => h b (by omega) hp)
    show _ = if p n = true then g n (rng _ n a) else rng _ n a
    rw [fb_ct_succ]
    cases c : p n with
    | true =>
      rw [if_pos rfl, if_pos rfl, ← ih]
      show g (idx (fb_ct p n)) _ = _
      rw [h n (by omega) c]
    | false => exact ih
def ixf (f : Nat → Int32) (k : Nat) : Nat := (f k).toNatClampNeg
theorem FL.ixx {f : Nat → Int32} (h : FL v B f) (hl : B ≤ 20) {b : Nat} (hb : b < B) (hp : fre v b = true) : ixf f (fb_ct (fre v) b) = b := by
  unfold ixf
  rw [h b hb hp, nI_clamp (by omega)]
theorem FL.at {f : Nat → Int32} (h : FL v B f) (hl : B ≤ 20) {k : Nat} (hk : k < fb_ct (fre v) B) : ixf f k < B ∧ fre v (ixf f k) = true ∧ f k = nI (ixf f k) ∧ fb_ct (fre v) (ixf f k) = k := by
  obtain ⟨b, h1, h2, h3⟩ := fb_ct_kth hk
  have h4 := h.ixx hl h1 h2
  rw [h3] at h4
  rw [h4]
  have h5 := h b h1 h2
  rw [h3] at h5
  exact ⟨h1, h2, h5, h3⟩
def nr (f o l : Int32) : Int32 := if f = -1 then o else if jabs (f - l) - jabs (o - l) = 0 then jmin f o else if jabs (f - l) - jabs (o - l) ≤ 0 then f else o
theorem X0_nearer (N : Nat) (f o l : Int32) : fX0_nearer N f o l = some (nr f o l) := by
  unfold fX0_nearer nr
  (repeat' split) <;> rfl
def NrI (a : Int32) : Prop := a = -1 ∨ (500 ≤ a.toInt ∧ a.toInt ≤ 200000)
theorem nr_I {f o l : Int32} (hf : NrI f) (ho : 500 ≤ o.toInt ∧ o.toInt ≤ 200000) : NrI (nr f o l) := by
  unfold nr jmin
  (repeat' split) <;> first | exact hf | exact .inr ho
theorem X5_nearer (N : Nat) {f o l : Int32} (hf : NrI f) (ho : 500 ≤ o.toInt ∧ o.toInt ≤ 200000) (hl : 500 ≤ l.toInt ∧ l.toInt ≤ 600000) : fX5_nearer N f o l = some (nr f o l) := by
  unfold fX5_nearer nr
  rw [size_n, bsome, size_n, bsome]
  rcases hf with rfl | hf
  · rw [if_pos rfl, if_pos rfl]
  · have c : ¬ f = -1 := fun e => by rw [e, m1I] at hf; omega
    rw [if_neg c, if_neg c]
    have e1 : (o - l).toInt = o.toInt - l.toInt := fb_subI (by omega) (by omega)
    have e2 : (f - l).toInt = f.toInt - l.toInt := fb_subI (by omega) (by omega)
    have j1 : (jabs (o - l)).toInt = aI (o - l).toInt := jabs_I (by omega)
    have j2 : (jabs (f - l)).toInt = aI (f - l).toInt := jabs_I (by omega)
    have b1 := aI_le (x := (o - l).toInt) (c := 600000) (by omega) (by omega)
    have b2 := aI_le (x := (f - l).toInt) (c := 600000) (by omega) (by omega)
    have d1 : (jabs (o - l) - jabs (f - l)).toInt = (jabs (o - l)).toInt - (jabs (f - l)).toInt := fb_subI (by omega) (by omega)
    have d2 : (jabs (f - l) - jabs (o - l)).toInt = (jabs (f - l)).toInt - (jabs (o - l)).toInt := fb_subI (by omega) (by omega)
    simp only [fa_lt, fa_eq, fa_le, d1, d2, z0]
    unfold jmin
    simp only [fa_lt]
    (repeat' split) <;> first | rfl | (exfalso; omega)
theorem sumI {q : Nat} (hd : BD B q v) {i j : Nat} (hi : i < B) (hj : j < B) : 500 ≤ (sN v i + sN v j).toInt ∧ (sN v i + sN v j).toInt ≤ 200000 := by
  have h1 := hd.1 i hi
  have h2 := hd.1 j hj
  have e : (sN v i + sN v j).toInt = (sN v i).toInt + (sN v j).toInt := fb_addI (by omega) (by omega)
  omega
def nrIn (v : VS) (l : Int32) (one : Nat) (a : Int32) : Int32 := rng (fun j a => if fre v j = true then nr a (sN v one + sN v j) l else a) one (nr a (sN v one) l)
theorem X0_nearestTo (hN0 : 2097152 ≤ N) (hB : sB v = nI B) (hl : B ≤ 20) (l : Int32) : fX0_nearestTo N v l = some (rng (fun i a => if fre v i = true then nrIn v l i a else a) B (-1)) := by
  have hin : ∀ one, one < B → ∀ a, lX0_nearestTo_35 N v l (nI one) N a 0 = some (rng (fun j a => if fre v j = true then nr a (sN v one + sN v j) l else a) one a) := fun one ho a =>
    for_pure (B := one) (lX0_nearestTo_35 N v l (nI one)) (fun j a => if fre v j = true then nr a (sN v one + sN v j) l else a)
      (fun n a => by rw [lX0_nearestTo_35, if_pos (Int32.le_refl _)])
      (fun n a i hi => by
        rw [lX0_nearestTo_35, if_neg (nI_ge hi (by omega)), X3_isFree N v (by omega), bsome, ckI (by omega) (by decide), ckI (by omega) (by decide), nI_clamp (by omega), nI_clamp (by omega), X0_nearer, bsome]
        show (if fre v i = true then _ else _) = _
        by_cases c : fre v i = true
        · rw [if_pos c, if_pos c]
        · rw [if_neg c, if_neg c]) (by omega) a
  have h1 := for_pure (B := B) (lX0_nearestTo_4 N v l) (fun i a => if fre v i = true then nrIn v l i a else a)
    (fun n a => by rw [lX0_nearestTo_4, hB, if_pos (Int32.le_refl _)])
    (fun n a i hi => by
      rw [lX0_nearestTo_4, hB, if_neg (nI_ge hi (by omega)), X3_isFree N v (by omega), bsome, ckI (by omega) (by decide), nI_clamp (by omega), X0_nearer, bsome, hin i hi, bsome]
      show (if fre v i = true then _ else _) = _
      by_cases c : fre v i = true
      · rw [if_pos c, if_pos c]; rfl
      · rw [if_neg c, if_neg c]) (n := N) (by omega) (-1)
  unfold fX0_nearestTo
  rw [h1]
  rfl
theorem rng_inv {α : Type} (I : α → Prop) {g : Nat → α → α} {a : α} : ∀ {n : Nat}, I a → (∀ i x, i < n → I x → I (g i x)) → I (rng g n a)
  | 0, h, _ => h
  | n + 1, h, hs => hs n _ (by omega) (rng_inv I h (fun i x hi => hs i x (by omega)))
theorem nrIn_I {q : Nat} (hd : BD B q v) (l : Int32) {i : Nat} (hi : i < B) {a : Int32} (ha : NrI a) : NrI (nrIn v l i a) := by
  have h1 := hd.1 i hi
  refine rng_inv NrI (nr_I ha (by omega)) (fun j x hj hx => ?_)
  by_cases c : fre v j = true
  · rw [if_pos c]; exact nr_I hx (sumI hd hi (by omega))
  · rw [if_neg c]; exact hx
theorem X5_nearestTo (hN0 : 2097152 ≤ N) (h : RS B v (mRow m)) {q : Nat} (hd : BD B q v) {l : Int32} (hln : 500 ≤ l.toInt ∧ l.toInt ≤ 600000) :
    ∃ f c, fX5_nearestTo N m l = some (mF m f c, rng (fun i a => if fre v i = true then nrIn v l i a else a) B (-1)) := by
  have hl := h.le
  obtain ⟨f, h1, h2⟩ := X5_look hN0 h
  have hc := fb_ct_le (fre v) B
  have of0 : ∀ k, k < fb_ct (fre v) B → fX5_of N (mF m f (nI (fb_ct (fre v) B))) (f k) 0 = some (sN v (ixf f k)) := fun k hk => by
    obtain ⟨q1, q2, q3, q4⟩ := h2.at hl hk
    rw [q3, of_0 N _ (by omega)]
    exact congrArg some (h.n q1)
  have hin : ∀ k, k < fb_ct (fre v) B → ∀ a, NrI a → lX5_nearestTo_36 N (mF m f (nI (fb_ct (fre v) B))) l (nI k) N a 0 = some (rng (fun j a => nr a (sN v (ixf f k) + sN v (ixf f j)) l) k a) := fun k hk a ha =>
    (for_inv (B := k) (lX5_nearestTo_36 N (mF m f (nI (fb_ct (fre v) B))) l (nI k)) (fun j a => nr a (sN v (ixf f k) + sN v (ixf f j)) l) (fun _ a => NrI a)
      (fun n a _ => by rw [lX5_nearestTo_36, if_pos (Int32.le_refl _)])
      (fun n a i hi ha => by
        have q1 := (h2.at hl hk).1
        have q2 := (h2.at hl (show i < fb_ct (fre v) B by omega)).1
        have hs := sumI hd q1 q2
        refine ⟨?_, nr_I ha hs⟩
        rw [lX5_nearestTo_36, if_neg (nI_ge hi (by omega)), ckI (by omega) (by decide), nI_clamp (by omega), nI_clamp (by omega)]
        show ((fX5_of N (mF m f (nI (fb_ct (fre v) B))) (f k) 0).bind _) = _
        rw [of0 k hk, bsome, ckI (by omega) (by decide)]
        show ((fX5_of N (mF m f (nI (fb_ct (fre v) B))) (f i) 0).bind _) = _
        rw [of0 i (by omega), bsome, X5_nearer N ha hs hln, bsome]) (by omega) a ha).1
  have hk : ∀ k, k < fb_ct (fre v) B → ∀ a, rng (fun j a => nr a (sN v (ixf f k) + sN v (ixf f j)) l) k a = rng (fun j a => if fre v j = true then nr a (sN v (ixf f k) + sN v j) l else a) (ixf f k) a := fun k hk a => by
    obtain ⟨q1, q2, q3, q4⟩ := h2.at hl hk
    have e := rng_free (p := fre v) (g := fun j a => nr a (sN v (ixf f k) + sN v j) l) (idx := ixf f) (a := a) (n := ixf f k) (fun b hb hp => h2.ixx hl (by omega) hp)
    rw [q4] at e
    exact e
  have h3 := for_inv (B := fb_ct (fre v) B) (lX5_nearestTo_8 N (mF m f (nI (fb_ct (fre v) B))) l) (fun k a => nrIn v l (ixf f k) a) (fun _ a => NrI a)
    (fun n a _ => by rw [lX5_nearestTo_8]; exact if_pos (Int32.le_refl _))
    (fun n a i hi ha => by
      obtain ⟨q1, q2, q3, q4⟩ := h2.at hl hi
      have hn := hd.1 _ q1
      refine ⟨?_, nrIn_I hd l q1 ha⟩
      rw [lX5_nearestTo_8]
      show (if nI (fb_ct (fre v) B) ≤ nI i then _ else _) = _
      rw [if_neg (nI_ge hi (by omega)), ckI (by omega) (by decide), nI_clamp (by omega)]
      show ((fX5_of N (mF m f (nI (fb_ct (fre v) B))) (f i) 0).bind _) = _
      rw [of0 i hi, bsome, X5_nearer N ha (by omega) hln, bsome, hin i hi _ (nr_I ha (by omega)), bsome, hk i hi]
      rfl) (n := N) (by omega) (-1) (.inl rfl)
  refine ⟨f, nI (fb_ct (fre v) B), ?_⟩
  unfold fX5_nearestTo
  rw [h1, bsome, h3.1, bsome, rng_free (p := fre v) (g := nrIn v l) (idx := ixf f) (fun b hb hp => h2.ixx hl hb hp)]
end FR
