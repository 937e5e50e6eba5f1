/-! all numbers of the stacks: the class answers as the law's case says -/
theorem rng_none {α : Type} {p : Nat → Bool} {g : Nat → α → α} (a : α) : ∀ n, (∀ b, b < n → p b = false) → rng (fun b a => if p b = true then g b a else a) n a = a
  | 0, _ => rfl
  | n + 1, h => by
    show (if p n = true then g n (rng (fun b a => if p b = true then g b a else a) n a) else rng (fun b a => if p b = true then g b a else a) n a) = a
    rw [h n (by omega), if_neg (by decide)]
    exact rng_none a n (fun b hb => h b (by omega))
theorem rng_pull {α : Type} {g : Nat → α → α} (hcom : ∀ i j a, g i (g j a) = g j (g i a)) {p : Nat → Bool} {t : Nat} (ht : p t = true) (a : α) : ∀ n, rng (fun b a => if p b = true then g b a else a) n a = if t < n then g t (rng (fun b a => if (p b && !decide (b = t)) = true then g b a else a) n a) else rng (fun b a => if (p b && !decide (b = t)) = true then g b a else a) n a
  | 0 => by rw [if_neg (by omega)]; rfl
  | n + 1 => by
    have ih := rng_pull hcom ht a n
    show (if p n = true then g n (rng (fun b a => if p b = true then g b a else a) n a) else rng (fun b a => if p b = true then g b a else a) n a) = if t < n + 1 then g t (if (p n && !decide (n = t)) = true then g n (rng (fun b a => if (p b && !decide (b = t)) = true then g b a else a) n a) else rng (fun b a => if (p b && !decide (b = t)) = true then g b a else a) n a) else (if (p n && !decide (n = t)) = true then g n (rng (fun b a => if (p b && !decide (b = t)) = true then g b a else a) n a) else rng (fun b a => if (p b && !decide (b = t)) = true then g b a else a) n a)
    rw [ih]
    rcases Nat.lt_trichotomy t n with c | c | c
    · have e : decide (n = t) = false := decide_eq_false (by omega)
      rw [if_pos c, if_pos (show t < n + 1 by omega), e]
      cases p n with
      | true =>
        show g n (g t _) = g t (g n _)
        exact hcom n t _
      | false => rfl
    · subst c
      rw [if_neg (show ¬ t < t by omega), if_pos (show t < t + 1 by omega), ht, if_pos rfl, show decide (t = t) = true from decide_eq_true rfl]
      rfl
    · have e : decide (n = t) = false := decide_eq_false (by omega)
      rw [if_neg (show ¬ t < n by omega), if_neg (show ¬ t < n + 1 by omega), e]
      cases p n <;> rfl
theorem rng_perm {α : Type} {g : Nat → α → α} (hcom : ∀ i j a, g i (g j a) = g j (g i a)) {B : Nat} {blk : Nat → Nat} (a : α) : ∀ (m : Nat) (p : Nat → Bool), (∀ k, k < m → blk k < B ∧ p (blk k) = true) → (∀ i j, i < m → j < m → blk i = blk j → i = j) → (∀ b, b < B → p b = true → ∃ k, k < m ∧ blk k = b) → rng (fun k a => g (blk k) a) m a = rng (fun b a => if p b = true then g b a else a) B a
  | 0, p, _, _, h3 => by
    refine (rng_none a B (fun b hb => ?_)).symm
    cases c : p b with
    | false => rfl
    | true =>
      obtain ⟨k, hk, -⟩ := h3 b hb c
      omega
  | m + 1, p, h1, h2, h3 => by
    have ih := rng_perm hcom (B := B) (blk := blk) a m (fun b => p b && !decide (b = blk m)) (fun k hk => ⟨(h1 k (by omega)).1, by
      have e : decide (blk k = blk m) = false := decide_eq_false (fun e => by have := h2 k m (by omega) (by omega) e; omega)
      show (p (blk k) && !decide (blk k = blk m)) = true
      rw [(h1 k (by omega)).2, e]
      rfl⟩) (fun i j hi hj e => h2 i j (by omega) (by omega) e) (fun b hb hp => by
      simp only [Bool.and_eq_true, Bool.not_eq_true', decide_eq_false_iff_not] at hp
      obtain ⟨k, hk, e⟩ := h3 b hb hp.1
      refine ⟨k, ?_, e⟩
      have : k ≠ m := fun z => hp.2 (by rw [← e, z])
      omega)
    show g (blk m) (rng (fun k a => g (blk k) a) m a) = _
    rw [ih, rng_pull hcom (h1 m (by omega)).2 a B, if_pos (h1 m (by omega)).1]
theorem rng_from (p : Nat → Bool) (f : Nat → Int32) (a : Int32) : ∀ n, rng (fun b a => if p b = true then a + f b else a) n a = a + rng (fun b a => if p b = true then a + f b else a) n 0
  | 0 => (i32_z a).symm
  | n + 1 => by
    show (if p n = true then rng (fun b a => if p b = true then a + f b else a) n a + f n else rng (fun b a => if p b = true then a + f b else a) n a) = a + (if p n = true then rng (fun b a => if p b = true then a + f b else a) n 0 + f n else rng (fun b a => if p b = true then a + f b else a) n 0)
    rw [rng_from p f a n]
    cases p n with
    | true => rw [if_pos rfl, if_pos rfl, Int32.add_assoc]
    | false => rfl
abbrev T5 : Type := Int32 × Int32 × Int32 × Int32 × Int32
def g5 (f1 f2 f3 : Nat → Int32) (f4 f5 : Nat → Int32) (b : Nat) (a : T5) : T5 := (a.1 + f1 b, a.2.1 + f2 b, a.2.2.1 + f3 b, a.2.2.2.1 ||| f4 b, jmax a.2.2.2.2 (f5 b))
theorem jmax_I (a b : Int32) : (jmax a b).toInt = if a.toInt < b.toInt then b.toInt else a.toInt := by
  unfold jmax
  by_cases c : a < b
  · rw [if_pos c, if_pos ((fa_lt a b).mp c)]
  · rw [if_neg c, if_neg (fun z => c ((fa_lt a b).mpr z))]
theorem jmax_com (a b c : Int32) : jmax (jmax a b) c = jmax (jmax a c) b := by
  rw [fa_eq, jmax_I, jmax_I, jmax_I, jmax_I]
  (repeat' split) <;> omega
theorem i32_rc (a b c : Int32) : a + b + c = a + c + b := by rw [Int32.add_assoc, Int32.add_comm b c, ← Int32.add_assoc]
theorem i32_ro (a b c : Int32) : a ||| b ||| c = a ||| c ||| b := by rw [Int32.or_assoc, Int32.or_comm b c, ← Int32.or_assoc]
theorem g5_com (f1 f2 f3 f4 f5 : Nat → Int32) (i j : Nat) (a : T5) : g5 f1 f2 f3 f4 f5 i (g5 f1 f2 f3 f4 f5 j a) = g5 f1 f2 f3 f4 f5 j (g5 f1 f2 f3 f4 f5 i a) := by
  unfold g5
  simp only [Prod.mk.injEq]
  exact ⟨i32_rc _ _ _, i32_rc _ _ _, i32_rc _ _ _, i32_ro _ _ _, jmax_com _ _ _⟩
theorem g5_split (p : Nat → Bool) (f1 f2 f3 f4 f5 : Nat → Int32) (a1 a2 a3 a4 a5 : Int32) : ∀ n, rng (fun b a => if p b = true then g5 f1 f2 f3 f4 f5 b a else a) n (a1, a2, a3, a4, a5) =
    (rng (fun b a => if p b = true then a + f1 b else a) n a1, rng (fun b a => if p b = true then a + f2 b else a) n a2, rng (fun b a => if p b = true then a + f3 b else a) n a3, rng (fun b a => if p b = true then a ||| f4 b else a) n a4, rng (fun b a => if p b = true then jmax a (f5 b) else a) n a5)
  | 0 => rfl
  | n + 1 => by
    show (if p n = true then g5 f1 f2 f3 f4 f5 n (rng (fun b a => if p b = true then g5 f1 f2 f3 f4 f5 b a else a) n (a1, a2, a3, a4, a5)) else rng (fun b a => if p b = true then g5 f1 f2 f3 f4 f5 b a else a) n (a1, a2, a3, a4, a5)) = ((if p n = true then rng (fun b a => if p b = true then a + f1 b else a) n a1 + f1 n else rng (fun b a => if p b = true then a + f1 b else a) n a1), (if p n = true then rng (fun b a => if p b = true then a + f2 b else a) n a2 + f2 n else rng (fun b a => if p b = true then a + f2 b else a) n a2), (if p n = true then rng (fun b a => if p b = true then a + f3 b else a) n a3 + f3 n else rng (fun b a => if p b = true then a + f3 b else a) n a3), (if p n = true then rng (fun b a => if p b = true then a ||| f4 b else a) n a4 ||| f4 n else rng (fun b a => if p b = true then a ||| f4 b else a) n a4), (if p n = true then jmax (rng (fun b a => if p b = true then jmax a (f5 b) else a) n a5) (f5 n) else rng (fun b a => if p b = true then jmax a (f5 b) else a) n a5))
    rw [g5_split p f1 f2 f3 f4 f5 a1 a2 a3 a4 a5 n]
    cases p n with
    | true => rfl
    | false => rfl
section SU
variable {N B q : Nat} {v : VS} {z : VV} {tx : VT} {gl ge gw gh gt gn gp : Nat → Int32}
def inS (v : VS) (s : Nat) (b : Nat) : Bool := decide (sK v b = nI s)
/-- what the law finds in a stack: its sum, its length now and then, its set, its grade -/
def stk5 (v : VS) (B s p : Nat) (a2 : Int32) : T5 :=
  (rng (fun b a => if inS v s b = true then a + sN v b else a) B 0, rng (fun b a => if inS v s b = true then a + tlb v 0 b else a) B a2, rng (fun b a => if inS v s b = true then a + tlb v p b else a) B a2, nI (mkb (inS v s) B), rng (fun b a => if inS v s b = true then jmax a (grd (err v b)) else a) B (-1))
theorem L_stk64 (hN0 : 2097152 ≤ N) (h : LI B q v gl ge gw gh gt gn gp) {s p : Nat} (hs : s < 3) (hp : p ≤ 600) (a2 : Int32) : lL_areStacks_64 N v gl ge gw gh gn gp (nI p) (nI s) (nI (hgt v B (nI s))) N 0 a2 a2 0 (-1) 1 = some (stk5 v B s p a2) := by
  have hl := h.le
  have hhl := hgt_le v B (nI s)
  have h6 := h.2.2.1.2.2.2 _ (st_ne hs)
  rw [← hgt_hg] at h6
  obtain ⟨blk, hblk⟩ : ∃ blk : Nat → Nat, blk = fun k => (gp (7 * s + 1 + k)).toNatClampNeg := ⟨_, rfl⟩
  have at_ : ∀ k, k < hgt v B (nI s) → blk k < B ∧ sK v (blk k) = nI s ∧ sP v (blk k) = nI k ∧ gp (7 * s + (k + 1)) = nI (blk k) := fun k hk => by
    obtain ⟨b, b1, b2, b3, b4⟩ := h.2.1.at h.2.2.1 (by omega) hs (show k < hg (sK v) B (nI s) by rw [← hgt_hg]; exact hk)
    have e : blk k = b := by
      rw [hblk]
      show (gp (7 * s + 1 + k)).toNatClampNeg = b
      rw [b4, nI_clamp (by omega)]
    rw [e, show 7 * s + (k + 1) = 7 * s + 1 + k by omega]
    exact ⟨b1, b2, b3, b4⟩
  have hrun : ∀ k j f, j + k = hgt v B (nI s) → k < f → ∀ a : T5, a = rng (fun k a => g5 (sN v) (tlb v 0) (tlb v p) (fun b => nI (2 ^ b)) (fun b => grd (err v b)) (blk k) a) j (0, a2, a2, 0, -1) →
      lL_areStacks_64 N v gl ge gw gh gn gp (nI p) (nI s) (nI (hgt v B (nI s))) f a.1 a.2.1 a.2.2.1 a.2.2.2.1 a.2.2.2.2 (nI (j + 1)) = some (rng (fun k a => g5 (sN v) (tlb v 0) (tlb v p) (fun b => nI (2 ^ b)) (fun b => grd (err v b)) (blk k) a) (hgt v B (nI s)) (0, a2, a2, 0, -1)) := by
    intro k
    induction k with
    | zero =>
      intro j f hj hf a ha
      obtain ⟨f, rfl⟩ : ∃ x, f = x + 1 := ⟨f - 1, by omega⟩
      have e : j = hgt v B (nI s) := by omega
      rw [lL_areStacks_64, if_pos (nI_lt (by omega) (by omega)), ← e, ← ha]
    | succ k ih =>
      intro j f hj hf a ha
      obtain ⟨f, rfl⟩ : ∃ x, f = x + 1 := ⟨f - 1, by omega⟩
      obtain ⟨b1, b2, b3, b4⟩ := at_ j (by omega)
      have hd := h.2.2.2
      obtain ⟨e1, e2⟩ := hd.h b1
      have c8 : ∀ {α : Type} (X : Option α), ck (nI (7 * s + (j + 1))) 21 X = X := fun X => ckI (by omega) (by decide)
      have k8 : (nI (7 * s + (j + 1))).toNatClampNeg = 7 * s + (j + 1) := nI_clamp (by omega)
      have cb : ∀ {α : Type} (X : Option α), ck (nI (blk j)) 10 X = X := fun X => ckI (by omega) (by decide)
      have kb : (nI (blk j)).toNatClampNeg = blk j := nI_clamp (by omega)
      have t0 : tl (gl (blk j)) (ge (blk j) - gw (blk j)) (gh (blk j)) = tlb v 0 (blk j) := by
        rw [h.l b1, h.err b1, h.h b1, e1]
        rfl
      have t1 : tl (gl (blk j)) (ge (blk j) - gw (blk j)) (nI (coK p (hN v (blk j)))) = tlb v p (blk j) := by
        rw [h.l b1, h.err b1]
        rfl
      have hcl : fL_cool N (gh (blk j)) (nI p) = some (nI (coK p (hN v (blk j)))) := by
        rw [h.h b1, e1]
        exact L_cool hN0 e2 (by omega)
      rw [lL_areStacks_64, if_neg (nI_nlt (by omega) (by omega)), nI7b]
      simp only [c8, k8, b4, cb, kb]
      rw [L_length N gl ge gw (by omega), bsome, t0, hcl, bsome, L_length N gl ge gw (by omega), bsome, t1, L_grade N ge gw (by omega), bsome, bsome, h.err b1, h.l b1, sh_1 _ (by omega), nI_1]
      have nx := ih (j + 1) f (by omega) (by omega) (g5 (sN v) (tlb v 0) (tlb v p) (fun b => nI (2 ^ b)) (fun b => grd (err v b)) (blk j) a) (by rw [ha]; rfl)
      rw [← nx]
      show _ = lL_areStacks_64 N v gl ge gw gh gn gp (nI p) (nI s) (nI (hgt v B (nI s))) f (a.1 + sN v (blk j)) (a.2.1 + tlb v 0 (blk j)) (a.2.2.1 + tlb v p (blk j)) (a.2.2.2.1 ||| nI (2 ^ blk j)) (jmax a.2.2.2.2 (grd (err v (blk j)))) (nI (j + 1 + 1))
      unfold jmax
      by_cases c : grd (err v (blk j)) ≤ a.2.2.2.2
      · rw [if_pos c, if_neg (Int32.not_lt.mpr c)]
      · rw [if_neg c, if_pos (Int32.not_le.mp c)]
  have h1 := hrun (hgt v B (nI s)) 0 N (by omega) (by omega) _ rfl
  have h2 := rng_perm (g5_com (sN v) (tlb v 0) (tlb v p) (fun b => nI (2 ^ b)) (fun b => grd (err v b))) (B := B) (blk := blk) (0, a2, a2, 0, -1) (hgt v B (nI s)) (inS v s) (fun k hk => ⟨(at_ k hk).1, decide_eq_true (at_ k hk).2.1⟩)
    (fun i j hi hj e => by
      have a1 := (at_ i hi).2.2.1
      rw [e, (at_ j hj).2.2.1, nI_eq (by omega) (by omega)] at a1
      exact a1.symm)
    (fun b hb hpb => by
      have e := of_decide_eq_true hpb
      obtain ⟨k, k1, k2, k3⟩ := (h.2.1 s hs).2 b hb e
      refine ⟨k, k1, ?_⟩
      rw [hblk]
      show (gp (7 * s + 1 + k)).toNatClampNeg = b
      rw [k3, nI_clamp (by omega)])
  rw [h2, g5_split] at h1
  have e4 : rng (fun b a => if inS v s b = true then a ||| nI (2 ^ b) else a) B 0 = nI (mkb (inS v s) B) := fold_mk (inS v s) B
  rw [e4] at h1
  exact h1
/-- the true length of a stack -/
def tls (v : VS) (B s p : Nat) : Int32 := rng (fun b a => if inS v s b = true then a + tlb v p b else a) B (if hgt v B (nI s) ≤ 1 then 0 else (nI (hgt v B (nI s)) - 1) * sS v 0)
theorem fold_in (v : VS) (s : Nat) (f : Nat → Int32) (a : Int32) (n : Nat) : rng (fun i a => if sK v i = nI s then a + f i else a) n a = rng (fun b a => if inS v s b = true then a + f b else a) n a := by
  refine rng_cong (fun i x _ => ?_)
  unfold inS
  by_cases c : sK v i = nI s <;> simp [c]
theorem c_tls (hN0 : 2097152 ≤ N) (h : LI B q v gl ge gw gh gt gn gp) {s p : Nat} (hp : p ≤ 600) : fX3_trueLengthOfStack N v (nI s) (nI p) = some (tls v B s p) := by
  have hl := h.le
  have hhl := hgt_le v B (nI s)
  unfold fX3_trueLengthOfStack tls
  rw [X3_tls_f hN0 h.b h.2.2.2 (by omega) (by omega), bsome, fold_in v s (tlb v p), rng_from (inS v s) (tlb v p) (if hgt v B (nI s) ≤ 1 then 0 else (nI (hgt v B (nI s)) - 1) * sS v 0)]
  show (if nI (hgt v B (nI s)) = 0 then some 0 else ck 0 4 (some (rng (fun b a => if inS v s b = true then a + tlb v p b else a) B 0 + (nI (hgt v B (nI s)) - 1) * sS v (Int32.toNatClampNeg 0)))) = _
  rw [cs0, cl0]
  by_cases c0 : hgt v B (nI s) = 0
  · rw [c0, if_pos (show nI 0 = (0 : Int32) from rfl), if_pos (by decide), rng_none (p := inS v s) (g := fun b a => a + tlb v p b) 0 B (fun b hb => fb_ct_zero.mp c0 b hb)]
    rfl
  · rw [if_neg (show ¬ nI (hgt v B (nI s)) = (0 : Int32) from nI_ne0 (by omega) (by omega))]
    by_cases c1 : hgt v B (nI s) = 1
    · rw [c1, if_pos (by decide), show (nI 1 - 1) = (0 : Int32) from rfl, Int32.zero_mul, i32_z, Int32.zero_add]
    · rw [if_neg (by omega), Int32.add_comm]
theorem so_0 (hN0 : 2097152 ≤ N) (h : LI B q v gl ge gw gh gt gn gp) {s : Nat} (hs : s < 3) : fX4_stackOf N v (nI s) 0 = some (nI (hgt v B (nI s))) := by
  have hl := h.le
  unfold fX4_stackOf
  rw [ccs N hs, bsome, if_pos rfl, X3_heightOf hN0 h.b (by omega)]
  rfl
theorem c_nom (hN0 : 2097152 ≤ N) (h : LI B q v gl ge gw gh gt gn gp) (s : Nat) : fX3_nominalOfSet N v (nI (mkb (fun b => decide (sK v b = nI s)) B)) = some (rng (fun b a => if inS v s b = true then a + sN v b else a) B 0) := by
  have hl := h.le
  rw [X3_nominalOfSet hN0 h.b (by omega) (Nat.lt_of_lt_of_le (mkb_lt _ B) (Nat.pow_le_pow_right (by decide) (by omega)))]
  congr 1
  refine rng_cong (fun i x hi => ?_)
  rw [mkb_bit, decide_eq_true hi]
  rfl
theorem so_1 (hN0 : 2097152 ≤ N) (h : LI B q v gl ge gw gh gt gn gp) {s : Nat} (hs : s < 3) : fX4_stackOf N v (nI s) 1 = some (rng (fun b a => if inS v s b = true then a + sN v b else a) B 0) := by
  have hl := h.le
  unfold fX4_stackOf
  rw [ccs N hs, bsome, if_neg (by decide), if_pos rfl, X3_blocksIn hN0 h.b (by omega), bsome, c_nom hN0 h s]
  rfl
theorem so_2 (hN0 : 2097152 ≤ N) (h : LI B q v gl ge gw gh gt gn gp) {s : Nat} (hs : s < 3) : fX4_stackOf N v (nI s) 2 = some (tls v B s 0) := by
  have e : fX3_trueLengthOfStack N v (nI s) 0 = some (tls v B s 0) := c_tls (p := 0) hN0 h (by decide)
  unfold fX4_stackOf
  rw [ccs N hs, bsome, if_neg (by decide), if_neg (by decide), if_pos rfl, e]
  rfl
theorem so_3 (hN0 : 2097152 ≤ N) (h : LI B q v gl ge gw gh gt gn gp) {s : Nat} (hs : s < 3) : fX4_stackOf N v (nI s) 3 = some (nI (mkb (inS v s) B)) := by
  have hl := h.le
  unfold fX4_stackOf
  rw [ccs N hs, bsome, if_neg (by decide), if_neg (by decide), if_neg (by decide), if_pos rfl, X3_blocksIn hN0 h.b (by omega)]
  rfl
theorem so_4 (hN0 : 2097152 ≤ N) (h : LI B q v gl ge gw gh gt gn gp) {s : Nat} (hs : s < 3) : fX4_stackOf N v (nI s) 4 = some (if hgt v B (nI s) = 0 then -1 else gp (7 * s + hgt v B (nI s))) := by
  have hl := h.le
  unfold fX4_stackOf
  rw [ccs N hs, bsome, if_neg (by decide), if_neg (by decide), if_neg (by decide), if_neg (by decide), if_pos rfl, X3_heightOf hN0 h.b (by omega), bsome]
  rcases hc : hgt v B (nI s) with _ | k
  · rw [c_top0 hN0 h hs hc]
    rfl
  · rw [nI_pred, c_topk hN0 h hs (by omega), if_neg (by omega), show 7 * s + (k + 1) = 7 * s + 1 + k by omega]
    rfl
theorem so_5 (hN0 : 2097152 ≤ N) (h : LI B q v gl ge gw gh gt gn gp) {s : Nat} (hs : s < 3) : fX4_stackOf N v (nI s) 5 = some (rng (fun b a => if inS v s b = true then jmax a (grd (err v b)) else a) B (-1)) := by
  have hl := h.le
  unfold fX4_stackOf
  rw [ccs N hs, bsome, if_neg (by decide), if_neg (by decide), if_neg (by decide), if_neg (by decide), if_neg (by decide), if_pos rfl, X3_greatestGradeIn hN0 h.b (by omega), bsome]
  congr 1
  refine rng_cong (fun i x _ => ?_)
  unfold inS
  by_cases c : sK v i = nI s <;> simp [c]
theorem so_6 (hN0 : 2097152 ≤ N) (h : LI B q v gl ge gw gh gt gn gp) {s : Nat} (hs : s < 3) : fX4_stackOf N v (nI s) 6 = some (jabs (tls v B s 0 - 1000 * rng (fun b a => if inS v s b = true then a + sN v b else a) B 0)) := by
  have hl := h.le
  have e : fX3_trueLengthOfStack N v (nI s) 0 = some (tls v B s 0) := c_tls (p := 0) hN0 h (by decide)
  unfold fX4_stackOf fX3_sizeOfDifference
  rw [ccs N hs, bsome, if_neg (by decide), if_neg (by decide), if_neg (by decide), if_neg (by decide), if_neg (by decide), if_neg (by decide), if_pos rfl, e, bsome, X3_blocksIn hN0 h.b (by omega), bsome, c_nom hN0 h s]
  rfl
theorem li_p (hN0 : 2097152 ≤ N) (h : LI B q v gl ge gw gh gt gn gp) {s p : Nat} (hs : s < 3) (hp : p ≤ 600) : fX4_lengthIn N v (nI s) (nI p) = some (tls v B s p) := by
  unfold fX4_lengthIn
  rw [ccs N hs, bsome, ccr N (show (0 : Int32) ≤ nI p from nI_le (a := 0) (by omega) (by omega)) (show nI p ≤ 600 from nI_le (b := 600) hp (by decide)), bsome, c_tls hN0 h hp]
  rfl
theorem L_stk64f (hN0 : 2097152 ≤ N) (h : LI B q v gl ge gw gh gt gn gp) {s p : Nat} (hs : s < 3) (hp : p ≤ 600) : lL_areStacks_64 N v gl ge gw gh gn gp (nI p) (nI s) (nI (hgt v B (nI s))) N 0 (if hgt v B (nI s) ≤ 1 then 0 else (nI (hgt v B (nI s)) - 1) * sS v 0) (if hgt v B (nI s) ≤ 1 then 0 else (nI (hgt v B (nI s)) - 1) * sS v 0) 0 (-1) 1 =
    some (rng (fun b a => if inS v s b = true then a + sN v b else a) B 0, tls v B s 0, tls v B s p, nI (mkb (inS v s) B), rng (fun b a => if inS v s b = true then jmax a (grd (err v b)) else a) B (-1)) := L_stk64 hN0 h hs hp _
theorem L_areStacks (hN0 : 2097152 ≤ N) (h : LI B q v gl ge gw gh gt gn gp) {p : Nat} (hp : p ≤ 600) : fL_areStacks N v gl ge gw gh gn gp (nI p) = some true := by
  have hl := h.le
  have h1 := for_seq (B := 3) (fun n (a : Int32) i => lL_areStacks_6 N v gl ge gw gh gn gp (nI p) n a i) (fun _ => 1) 1
    (fun n => by
      show lL_areStacks_6 N v gl ge gw gh gn gp (nI p) (n + 1) 1 (nI 3) = _
      rw [lL_areStacks_6, if_pos (by decide)])
    (fun n s hs => by
      show lL_areStacks_6 N v gl ge gw gh gn gp (nI p) (n + 1) 1 (nI s) = lL_areStacks_6 N v gl ge gw gh gn gp (nI p) n 1 (nI s + 1)
      have hhl := hgt_le v B (nI s)
      have h6 := h.2.2.1.2.2.2 _ (st_ne hs)
      rw [← hgt_hg] at h6
      have c7 : ∀ {α : Type} (X : Option α), ck (nI (7 * s)) 21 X = X := fun X => ckI (by omega) (by decide)
      have k7 : (nI (7 * s)).toNatClampNeg = 7 * s := nI_clamp (by omega)
      have c8 : ∀ {α : Type} (X : Option α), ck (nI (7 * s + hgt v B (nI s))) 21 X = X := fun X => ckI (by omega) (by decide)
      have k8 : (nI (7 * s + hgt v B (nI s))).toNatClampNeg = 7 * s + hgt v B (nI s) := nI_clamp (by omega)
      have ef : ((if nI (hgt v B (nI s)) ≤ (1 : Int32) then some 0 else some ((nI (hgt v B (nI s)) - 1) * sS v 0)) : Option Int32) = some (if hgt v B (nI s) ≤ 1 then 0 else (nI (hgt v B (nI s)) - 1) * sS v 0) := by
        have e1 : (nI (hgt v B (nI s)) ≤ 1) ↔ hgt v B (nI s) ≤ 1 := nI_leI (b := 1) (by omega) (by decide)
        by_cases c : hgt v B (nI s) ≤ 1
        · rw [if_pos (e1.mpr c), if_pos c]
        · rw [if_neg (fun z => c (e1.mp z)), if_neg c]
      have et : ((if nI (hgt v B (nI s)) = (0 : Int32) then some (-1) else some (gp (7 * s + hgt v B (nI s)))) : Option Int32) = some (if hgt v B (nI s) = 0 then -1 else gp (7 * s + hgt v B (nI s))) := by
        have e1 : (nI (hgt v B (nI s)) = 0) ↔ hgt v B (nI s) = 0 := nI_eq (b := 0) (by omega) (by decide)
        by_cases c : hgt v B (nI s) = 0
        · rw [if_pos (e1.mpr c), if_pos c]
        · rw [if_neg (fun z => c (e1.mp z)), if_neg c]
      rw [lL_areStacks_6, if_neg (show ¬ (3 : Int32) ≤ nI s from nI_ge (b := 3) hs (by decide)), if_neg (show ¬ (1 : Int32) = 0 by decide), nI7]
      simp only [c7, k7, h.sh hs, cn0, cl0, nI_add, c8, k8]
      rw [h.n0, ef, bsome, L_stk64f hN0 h hs hp, bsome]
      dsimp only
      rw [so_0 hN0 h hs, bsome, if_pos rfl, so_1 hN0 h hs, bsome, if_pos rfl, so_2 hN0 h hs, bsome, if_pos rfl, so_3 hN0 h hs, bsome, if_pos rfl, so_4 hN0 h hs, bsome, et, bsome, if_pos rfl, so_5 hN0 h hs, bsome, if_pos rfl, so_6 hN0 h hs, bsome, L_size, bsome, if_pos rfl, li_p hN0 h hs hp, bsome, if_pos rfl, show fX4_lengthIn N v (nI s) 0 = some (tls v B s 0) from li_p (p := 0) hN0 h hs (by decide), bsome, if_pos rfl]) (n := N) 0 (by omega) (by omega)
  unfold fL_areStacks
  rw [show (0 : Int32) = nI 0 from rfl, h1, bsome, if_pos rfl]
end SU
