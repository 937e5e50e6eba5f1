/-! true lengths -/
def tl (n e w : Int32) : Int32 := ((1000 * n) + e) + ((((n * w) / 1000) * 115) / 1000)
theorem i32_as (x y z : Int32) : x + y - z = x + (y - z) := by rw [Int32.sub_eq_add_neg, Int32.sub_eq_add_neg, Int32.add_assoc]
section LE
variable {N B : Nat} {v : VS}
def tlb (v : VS) (p b : Nat) : Int32 := tl (sN v b) (err v b) (nI (coK p (hN v b)))
theorem X3_trueLengthOf (hN0 : 2097152 ≤ N) {q : Nat} (hd : BD B q v) (hb : B ≤ 20) {b : Nat} (hi : b < B) {p : Nat} (hp : p ≤ 1000) : fX3_trueLengthOf N v (nI b) (nI p) = some (tlb v p b) := by
  obtain ⟨h1, h2⟩ := hd.h hi
  unfold fX3_trueLengthOf tlb tl err
  rw [ckI (by omega) (by decide), nI_clamp (by omega), h1, X3_cooled hN0 h2 hp, bsome, ckI (by omega) (by decide), ckI (by omega) (by decide), ckI (by omega) (by decide), ckI (by omega) (by decide), i32_as]
theorem X3_tls_f (hN0 : 2097152 ≤ N) (hB : sB v = nI B) {q : Nat} (hd : BD B q v) (hb : B ≤ 20) {p : Nat} (hp : p ≤ 1000) (s : Int32) :
    lX3_trueLengthOfStack_8 N v s (nI p) N 0 0 0 = some (rng (fun i a => if sK v i = s then a + tlb v p i else a) B 0, nI (hgt v B s)) := by
  have h1 := for_seq (B := B) (fun n (a : Int32 × Int32) i => lX3_trueLengthOfStack_8 N v s (nI p) n a.1 a.2 i) (fun i => (rng (fun i a => if sK v i = s then a + tlb v p i else a) i 0, nI (fb_ct (fun b => decide (sK v b = s)) i))) (rng (fun i a => if sK v i = s then a + tlb v p i else a) B 0, nI (hgt v B s))
    (fun n => by
      show lX3_trueLengthOfStack_8 N v s (nI p) (n + 1) _ _ _ = _
      rw [lX3_trueLengthOfStack_8, hB, if_pos (Int32.le_refl _)]
      rfl)
    (fun n i hi => by
      show lX3_trueLengthOfStack_8 N v s (nI p) (n + 1) _ _ _ = lX3_trueLengthOfStack_8 N v s (nI p) n (if sK v i = s then rng (fun i a => if sK v i = s then a + tlb v p i else a) i 0 + tlb v p i else rng (fun i a => if sK v i = s then a + tlb v p i else a) i 0) (nI (fb_ct (fun b => decide (sK v b = s)) i + if decide (sK v i = s) = true then 1 else 0)) (nI i + 1)
      rw [lX3_trueLengthOfStack_8, hB, if_neg (nI_ge hi (by omega)), ckI (by omega) (by decide), nI_clamp (by omega), X3_trueLengthOf hN0 hd hb hi hp, bsome, nI_1]
      by_cases c : sK v i = s
      · rw [if_pos c, if_pos c, if_pos (decide_eq_true c)]
      · rw [if_neg c, if_neg c, if_neg (by simp [c])]
        rfl) (n := N) 0 (by omega) (by omega)
  exact h1
/-- exactly one block of a stack lies lowest -/
theorem ct_one {q : Nat → Bool} {b n : Nat} (hb : b < n) (h : ∀ k, k < n → q k = decide (k = b)) : fb_ct q n = 1 := by
  have h1 := fb_ct_upd (fun _ => false) true hb
  have h2 : fb_ct (fun _ => false) n = 0 := fb_ct_zero.mpr (fun k _ => rfl)
  rw [h2] at h1
  rw [fb_ct_cong (q := fun k => if k = b then true else false) (fun k hk => by rw [h k hk]; by_cases c : k = b <;> simp [c])]
  simpa using h1
theorem ct_up (hk : SKf B (sK v) (sP v)) (hb : B ≤ 20) {s : Int32} (hs : s ≠ -1) : fb_ct (fun b => decide (sK v b = s) && !decide (sP v b ≤ 0)) B = hgt v B s - 1 := by
  have h1 : fb_ct (fun b => (decide (sK v b = s) && decide (sP v b ≤ 0)) || (decide (sK v b = s) && !decide (sP v b ≤ 0))) B = hgt v B s := fb_ct_cong (fun k _ => by cases decide (sK v k = s) <;> cases decide (sP v k ≤ 0) <;> rfl)
  rw [fb_ct_or (fun k _ q => by cases h : decide (sP v k ≤ 0) <;> simp [h] at q)] at h1
  rcases Nat.eq_zero_or_pos (hgt v B s) with c | c
  · omega
  · obtain ⟨b, hb1, hb2, hb3⟩ := hk.place hs (show 0 < hg (sK v) B s from c) hb
    have h2 : fb_ct (fun b => decide (sK v b = s) && decide (sP v b ≤ 0)) B = 1 := ct_one hb1 (fun k hk1 => by
      by_cases e : k = b
      · subst e; simp [hb2, hb3]; decide
      · have : ¬ (sK v k = s ∧ sP v k ≤ 0) := fun q => e (by
          obtain ⟨p, p1, p2⟩ := hk.2.1 k hk1 (by rw [q.1]; exact hs)
          have hh := hgt_le v B s
          rw [q.1] at p1
          have p3 : p = 0 := by
            have q2 := q.2
            have : p < hgt v B s := p1
            rw [p2, fa_le, nI_toInt (by omega), z0] at q2
            omega
          exact hk.2.2.1 s hs k b hk1 hb1 q.1 hb2 (by rw [p2, p3, hb3]))
        simp [e]
        intro q1
        exact Int32.not_le.mp (fun q2 => this ⟨q1, q2⟩))
    omega
theorem fold_film (v : VS) (p : Nat) (s S : Int32) : ∀ n, rng (fun i a => if sK v i = s then a + (tlb v p i + if sP v i ≤ 0 then 0 else S) else a) n 0 = rng (fun i a => if sK v i = s then a + tlb v p i else a) n 0 + nI (fb_ct (fun b => decide (sK v b = s) && !decide (sP v b ≤ 0)) n) * S
  | 0 => by show (0 : Int32) = 0 + nI 0 * S; rw [show nI 0 = (0 : Int32) from rfl, Int32.zero_mul, Int32.zero_add]
  | n + 1 => by
    have ih := fold_film v p s S n
    show (if sK v n = s then rng _ n 0 + (tlb v p n + if sP v n ≤ 0 then 0 else S) else rng _ n 0) = (if sK v n = s then rng _ n 0 + tlb v p n else rng _ n 0) + nI (fb_ct _ n + if (decide (sK v n = s) && !decide (sP v n ≤ 0)) = true then 1 else 0) * S
    rw [ih]
    by_cases c : sK v n = s
    · rw [if_pos c, if_pos c]
      by_cases c2 : sP v n ≤ 0
      · rw [if_pos c2, if_neg (by simp [c2]), Nat.add_zero, Int32.add_zero, Int32.add_assoc, Int32.add_assoc, Int32.add_comm (nI _ * S)]
      · rw [if_neg c2, if_pos (by simp [c, c2]), ← nI_1, Int32.add_mul, Int32.one_mul, Int32.add_assoc, Int32.add_assoc]
        congr 1
        rw [Int32.add_comm (nI _ * S), Int32.add_assoc, Int32.add_comm S]
    · rw [if_neg c, if_neg c, if_neg (by simp [c]), Nat.add_zero]
end LE
