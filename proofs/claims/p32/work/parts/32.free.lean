/-! the free blocks in a row; the nearest length; different lengths -/
section FR
variable {N B : Nat} {v : VS}
def fre (v : VS) (b : Nat) : Bool := decide (sK v b = -1)
/-- f lists the free blocks under B -/
def FL (v : VS) (B : Nat) (f : Nat → Int32) : Prop := ∀ b, b < B → fre v b = true → f (fb_ct (fre v) b) = nI b
/-- a fold over the free blocks, block by block or place by place -/
theorem rng_free {α : Type} {p : Nat → Bool} {g : Nat → α → α} {idx : Nat → Nat} {a : α} : ∀ {n : Nat}, (∀ b, b < n → p b = true → idx (fb_ct p b) = b) → rng (fun k a => g (idx k) a) (fb_ct p n) a = rng (fun i a => if p i = true then g i a else a) n a
  | 0, _ => rfl
  | n + 1, h => by
    have ih := rng_free (g := g) (a := a) (n := n) (fun b hb hp => h b (by omega) hp)
    show _ = if p n = true then g n (rng _ n a) else rng _ n a
    rw [fb_ct_succ]
    cases c : p n with
    | true =>
      rw [if_pos rfl, if_pos rfl, ← ih]
      show g (idx (fb_ct p n)) _ = _
      rw [h n (by omega) c]
    | false => exact ih
def ixf (f : Nat → Int32) (k : Nat) : Nat := (f k).toNatClampNeg
theorem FL.ixx {f : Nat → Int32} (h : FL v B f) (hl : B ≤ 20) {b : Nat} (hb : b < B) (hp : fre v b = true) : ixf f (fb_ct (fre v) b) = b := by
  unfold ixf
  rw [h b hb hp, nI_clamp (by omega)]
theorem FL.at {f : Nat → Int32} (h : FL v B f) (hl : B ≤ 20) {k : Nat} (hk : k < fb_ct (fre v) B) : ixf f k < B ∧ fre v (ixf f k) = true ∧ f k = nI (ixf f k) ∧ fb_ct (fre v) (ixf f k) = k := by
  obtain ⟨b, h1, h2, h3⟩ := fb_ct_kth hk
  have h4 := h.ixx hl h1 h2
  rw [h3] at h4
  rw [h4]
  have h5 := h b h1 h2
  rw [h3] at h5
  exact ⟨h1, h2, h5, h3⟩
def nr (f o l : Int32) : Int32 := if f = -1 then o else if jabs (f - l) - jabs (o - l) = 0 then jmin f o else if jabs (f - l) - jabs (o - l) ≤ 0 then f else o
theorem X0_nearer (N : Nat) (f o l : Int32) : fX0_nearer N f o l = some (nr f o l) := by
  unfold fX0_nearer nr
  (repeat' split) <;> rfl
def NrI (a : Int32) : Prop := a = -1 ∨ (500 ≤ a.toInt ∧ a.toInt ≤ 200000)
theorem nr_I {f o l : Int32} (hf : NrI f) (ho : 500 ≤ o.toInt ∧ o.toInt ≤ 200000) : NrI (nr f o l) := by
  unfold nr jmin
  (repeat' split) <;> first | exact hf | exact .inr ho
theorem sumI {q : Nat} (hd : BD B q v) {i j : Nat} (hi : i < B) (hj : j < B) : 500 ≤ (sN v i + sN v j).toInt ∧ (sN v i + sN v j).toInt ≤ 200000 := by
  have h1 := hd.1 i hi
  have h2 := hd.1 j hj
  have e : (sN v i + sN v j).toInt = (sN v i).toInt + (sN v j).toInt := fb_addI (by omega) (by omega)
  omega
def nrIn (v : VS) (l : Int32) (one : Nat) (a : Int32) : Int32 := rng (fun j a => if fre v j = true then nr a (sN v one + sN v j) l else a) one (nr a (sN v one) l)
theorem X0_nearestTo (hN0 : 2097152 ≤ N) (hB : sB v = nI B) (hl : B ≤ 20) (l : Int32) : fX0_nearestTo N v l = some (rng (fun i a => if fre v i = true then nrIn v l i a else a) B (-1)) := by
  have hin : ∀ one, one < B → ∀ a, lX0_nearestTo_35 N v l (nI one) N a 0 = some (rng (fun j a => if fre v j = true then nr a (sN v one + sN v j) l else a) one a) := fun one ho a =>
    for_pure (B := one) (lX0_nearestTo_35 N v l (nI one)) (fun j a => if fre v j = true then nr a (sN v one + sN v j) l else a)
      (fun n a => by rw [lX0_nearestTo_35, if_pos (Int32.le_refl _)])
      (fun n a i hi => by
        rw [lX0_nearestTo_35, if_neg (nI_ge hi (by omega)), X3_isFree N v (by omega), bsome, ckI (by omega) (by decide), ckI (by omega) (by decide), nI_clamp (by omega), nI_clamp (by omega), X0_nearer, bsome]
        show (if fre v i = true then _ else _) = _
        by_cases c : fre v i = true
        · rw [if_pos c, if_pos c]
        · rw [if_neg c, if_neg c]) (by omega) a
  have h1 := for_pure (B := B) (lX0_nearestTo_4 N v l) (fun i a => if fre v i = true then nrIn v l i a else a)
    (fun n a => by rw [lX0_nearestTo_4, hB, if_pos (Int32.le_refl _)])
    (fun n a i hi => by
      rw [lX0_nearestTo_4, hB, if_neg (nI_ge hi (by omega)), X3_isFree N v (by omega), bsome, ckI (by omega) (by decide), nI_clamp (by omega), X0_nearer, bsome, hin i hi, bsome]
      show (if fre v i = true then _ else _) = _
      by_cases c : fre v i = true
      · rw [if_pos c, if_pos c]; rfl
      · rw [if_neg c, if_neg c]) (n := N) (by omega) (-1)
  unfold fX0_nearestTo
  rw [h1]
  rfl
theorem rng_inv {α : Type} (I : α → Prop) {g : Nat → α → α} {a : α} : ∀ {n : Nat}, I a → (∀ i x, i < n → I x → I (g i x)) → I (rng g n a)
  | 0, h, _ => h
  | n + 1, h, hs => hs n _ (by omega) (rng_inv I h (fun i x hi => hs i x (by omega)))
theorem nrIn_I {q : Nat} (hd : BD B q v) (l : Int32) {i : Nat} (hi : i < B) {a : Int32} (ha : NrI a) : NrI (nrIn v l i a) := by
  have h1 := hd.1 i hi
  refine rng_inv NrI (nr_I ha (by omega)) (fun j x hj hx => ?_)
  by_cases c : fre v j = true
  · rw [if_pos c]; exact nr_I hx (sumI hd hi (by omega))
  · rw [if_neg c]; exact hx
end FR
