/-! sets of blocks, one block more; the old way's loop -/
theorem or_bit (T b i : Nat) : (T ||| 2 ^ b).testBit i = if i = b then true else T.testBit i := by
  rw [Nat.testBit_or, Nat.testBit_two_pow]
  by_cases c : i = b
  · subst c; simp
  · simp [c, Ne.symm c]
def pop (M : Nat) : Nat := fb_ct (fun i => M.testBit i) 20
theorem pop_or {T b : Nat} (hb : b < 20) (h : T.testBit b = false) : pop (T ||| 2 ^ b) = pop T + 1 := by
  have h1 := fb_ct_upd (fun i => T.testBit i) true hb
  have e : (fun i => (T ||| 2 ^ b).testBit i) = (fun i => if i = b then true else T.testBit i) := funext (fun i => or_bit T b i)
  unfold pop
  rw [e]
  simp only [h] at h1
  simpa using h1
theorem pop_0 : pop 0 = 0 := by decide +kernel
def sumM (v : VS) (B M : Nat) : Int32 := rng (fun i a => if M.testBit i = true then a + sN v i else a) B 0
theorem sumM_or (v : VS) {B T b : Nat} (hb : b < B) (h : T.testBit b = false) : sumM v B (T ||| 2 ^ b) = sumM v B T + sN v b := by
  have key : ∀ n, rng (fun i a => if (T ||| 2 ^ b).testBit i = true then a + sN v i else a) n 0 = if b < n then rng (fun i a => if T.testBit i = true then a + sN v i else a) n 0 + sN v b else rng (fun i a => if T.testBit i = true then a + sN v i else a) n 0 := by
    intro n
    induction n with
    | zero => rw [if_neg (by omega)]; rfl
    | succ n ih =>
      show (if (T ||| 2 ^ b).testBit n = true then rng _ n 0 + sN v n else rng _ n 0) = if b < n + 1 then (if T.testBit n = true then rng _ n 0 + sN v n else rng _ n 0) + sN v b else (if T.testBit n = true then rng _ n 0 + sN v n else rng _ n 0)
      rw [ih, or_bit]
      rcases Nat.lt_trichotomy n b with c | c | c
      · rw [if_neg (show ¬ n = b by omega), if_neg (show ¬ b < n by omega), if_neg (show ¬ b < n + 1 by omega)]
      · subst c
        rw [if_pos rfl, if_pos rfl, if_neg (show ¬ n < n by omega), if_pos (show n < n + 1 by omega), h]
        rfl
      · rw [if_neg (show ¬ n = b by omega), if_pos c, if_pos (show b < n + 1 by omega)]
        by_cases q : T.testBit n = true
        · rw [if_pos q, if_pos q, Int32.add_assoc, Int32.add_comm (sN v b), ← Int32.add_assoc]
        · rw [if_neg q, if_neg q]
  have := key B
  rw [if_pos hb] at this
  exact this
theorem sumM_0 (v : VS) (B : Nat) : sumM v B 0 = 0 := by
  unfold sumM
  have : ∀ n, rng (fun i a => if (0 : Nat).testBit i = true then a + sN v i else a) n 0 = 0 := fun n => by
    induction n with
    | zero => rfl
    | succ n ih =>
      show (if (0 : Nat).testBit n = true then _ else _) = _
      rw [Nat.zero_testBit, if_neg (by decide)]
      exact ih
  exact this B
section OX
variable {N B : Nat} {v : VS}
theorem nI_inj2 {a : Nat} (h : a ≤ 600000) : (nI a = 0) ↔ a = 0 := nI_eq (b := 0) (by omega) (by decide)
/-- the old way for a length: the class's answer and the reference's -/
def oldC (N : Nat) (v : VS) (len what : Int32) : Option Int32 := (fX0_takenByOldWay N v len).bind fun r3 => (fX3_nominalOfSet N v r3).bind fun r4 => if what = 2 then some (len - r4) else if len - r4 = 0 then (if what = 0 then (fJ6_bitCount_0f7a4 N r3).bind fun r5 => some r5 else some r3) else some (-1)
end OX
