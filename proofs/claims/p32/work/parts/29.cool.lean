/-! cooling -/
def co (n : Nat) : Nat := n - (n + 9) / 10
def coK : Nat → Nat → Nat
  | 0, x => x
  | k + 1, x => coK k (co x)
theorem co_le {n : Nat} : co n ≤ n := by unfold co; omega
theorem co_lt {n : Nat} (h : 0 < n) : co n < n := by unfold co; omega
theorem coK_0 : ∀ k, coK k 0 = 0
  | 0 => rfl
  | k + 1 => coK_0 k
theorem coK_le : ∀ k n, coK k n ≤ n
  | 0, n => Nat.le_refl n
  | k + 1, n => Nat.le_trans (coK_le k (co n)) co_le
theorem coK_s : ∀ k n, coK (k + 1) n = co (coK k n)
  | 0, _ => rfl
  | k + 1, n => coK_s k (co n)
theorem co_n {n : Nat} (h : n ≤ 1000) : nI n - (nI n + 9) / 10 = nI (co n) := by
  rw [show nI n + 9 = nI (n + 9) from nI_add n 9, show nI (n + 9) / 10 = nI ((n + 9) / 10) from nI_div (b := 10) (by omega) (by decide) (by decide), nI_sub (by omega)]
  rfl
section CO
variable {N B : Nat} {v : VS}
theorem X3_cooled (hN : 2097152 ≤ N) {n p : Nat} (h : n ≤ 1000) (hp : p ≤ 1000) : fX3_cooled N (nI n) (nI p) = some (nI (coK p n)) := by
  have key : ∀ k i f x, i + k = p → k < f → x ≤ 1000 → lX3_cooled_4 N (nI p) f (nI x) (nI i) = some (nI (coK k x)) := by
    intro k
    induction k with
    | zero =>
      intro i f x hi hk hx
      obtain ⟨q, rfl⟩ : ∃ q, f = q + 1 := ⟨f - 1, by omega⟩
      have e : i = p := by omega
      subst e
      rw [lX3_cooled_4, if_pos (Int32.le_refl _)]
      rfl
    | succ k ih =>
      intro i f x hi hk hx
      obtain ⟨q, rfl⟩ : ∃ q, f = q + 1 := ⟨f - 1, by omega⟩
      rw [lX3_cooled_4, if_neg (nI_ge (by omega) (by omega))]
      by_cases c : x = 0
      · subst c
        rw [if_pos (by decide), coK_0]
      · rw [if_neg (nI_nle (by omega) (by omega)), co_n hx, nI_1]
        have := co_le (n := x)
        exact ih (i + 1) q (co x) (by omega) (by omega) (by omega)
  unfold fX3_cooled
  have h1 := key p 0 N n (by omega) (by omega) h
  rw [show nI 0 = (0 : Int32) from rfl] at h1
  rw [h1]
  rfl
def hN (v : VS) (b : Nat) : Nat := (sH v b).toNatClampNeg
theorem BD.h {q : Nat} (h : BD B q v) {b : Nat} (hb : b < B) : sH v b = nI (hN v b) ∧ hN v b ≤ 1000 := by
  have h1 := h.2.2.2.1 b hb
  obtain ⟨j, hj, e⟩ := nI_of (x := sH v b) (fun q => by rw [fa_lt, z0] at q; omega)
  have e2 : hN v b = j := by unfold hN; rw [e, nI_clamp hj]
  rw [e2]
  rw [e, nI_toInt hj] at h1
  exact ⟨e, by omega⟩
def rsH (v : VS) (p i : Nat) : VS := uH v (fa_fill (fun b => nI (coK p (hN v b))) (sH v) i)
theorem rsH_in {p i b : Nat} (h : b < i) : sH (rsH v p i) b = nI (coK p (hN v b)) := fa_fill_in (f := fun b => nI (coK p (hN v b))) (g := sH v) h
theorem rsH_out {p i b : Nat} (h : i ≤ b) : sH (rsH v p i) b = sH v b := fa_fill_out (f := fun b => nI (coK p (hN v b))) (g := sH v) h
theorem X3_letPass (hN0 : 2097152 ≤ N) (hB : sB v = nI B) (hb : B ≤ 20) {q : Nat} (hd : BD B q v) {p : Nat} (hp : p ≤ 1000) : fX3_letPass N v (nI p) = some (uM (rsH v p B) (sM v + nI p)) := by
  have h := for_seq (B := B) (lX3_letPass_2 N (nI p)) (fun i => rsH v p i) (rsH v p B) (fun k => by
      rw [lX3_letPass_2, show sB (rsH v p B) = nI B from hB, if_pos (Int32.le_refl _)])
    (fun k i hi => by
      obtain ⟨h1, h2⟩ := hd.h hi
      have e : sH (rsH v p i) i = nI (hN v i) := (rsH_out (Nat.le_refl i)).trans h1
      rw [lX3_letPass_2, if_neg (show ¬ sB (rsH v p i) ≤ nI i from by rw [show sB (rsH v p i) = nI B from hB]; exact nI_ge hi (by omega)), ckI (by omega) (by decide), nI_clamp (by omega), e, X3_cooled hN0 h2 hp, bsome, ckI (by omega) (by decide)]
      have e2 : upd (sH (rsH v p i)) i (nI (coK p (hN v i))) = fa_fill (fun b => nI (coK p (hN v b))) (sH v) (i + 1) := fa_fill_succ (fun b => nI (coK p (hN v b))) (sH v) i
      rw [e2]
      rfl) (n := N) 0 (by omega) (by omega)
  have e : rsH v p 0 = v := by unfold rsH; rw [fa_fill_0]; rfl
  simp only [e] at h
  unfold fX3_letPass
  rw [show (0 : Int32) = nI 0 from rfl, h]
  rfl
theorem BD.rest {q : Nat} (hd : BD B q v) (p : Nat) (x : Int32) : BD B q (uM (rsH v p B) x) := by
  obtain ⟨d1, d2, d3, d4, d5⟩ := hd
  refine ⟨d1, d2, d3, fun b hb => ?_, d5⟩
  show 0 ≤ (fa_fill (fun b => nI (coK p (hN v b))) (sH v) B b).toInt ∧ (fa_fill (fun b => nI (coK p (hN v b))) (sH v) B b).toInt ≤ 1000
  have h2 := (BD.h (⟨d1, d2, d3, d4, d5⟩ : BD B q v) hb).2
  have h3 := coK_le p (hN v b)
  rw [fa_fill_in hb, nI_toInt (by omega)]
  omega
theorem X3_greatest (hN0 : 2097152 ≤ N) (hB : sB v = nI B) (hb : B ≤ 20) (p : Nat) (x : Int32) : fX3_greatestWarmth N (uM (rsH v p B) x) = some (rng (fun i a => jmax a (nI (coK p (hN v i)))) B 0) := by
  rw [X3_greatestWarmth (v := uM (rsH v p B) x) hN0 hB hb]
  refine congrArg some (rng_cong (fun i a hi => ?_))
  exact congrArg (jmax a) (rsH_in hi)
/-! how many minutes until a block is cool enough -/
end CO
