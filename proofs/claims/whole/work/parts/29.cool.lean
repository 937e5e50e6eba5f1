/-! cooling -/
def co (n : Nat) : Nat := n - (n + 9) / 10
def coK : Nat → Nat → Nat
  | 0, x => x
  | k + 1, x => coK k (co x)
theorem co_le {n : Nat} : co n ≤ n := by unfold co; omega
theorem co_lt {n : Nat} (h : 0 < n) : co n < n := by unfold co; omega
theorem coK_0 : ∀ k, coK k 0 = 0
  | 0 => rfl
  | k + 1 => coK_0 k
theorem coK_le : ∀ k n, coK k n ≤ n
  | 0, n => Nat.le_refl n
  | k + 1, n => Nat.le_trans (coK_le k (co n)) co_le
theorem coK_s : ∀ k n, coK (k + 1) n = co (coK k n)
  | 0, _ => rfl
  | k + 1, n => coK_s k (co n)
theorem co_n {n : Nat} (h : n ≤ 1000) : nI n - (nI n + 9) / 10 = nI (co n) := by
  rw [show nI n + 9 = nI (n + 9) from nI_add n 9, show nI (n + 9) / 10 = nI ((n + 9) / 10) from nI_div (b := 10) (by omega) (by decide) (by decide), nI_sub (by omega)]
  rfl
theorem X5_cooled (N : Nat) {n : Nat} (h : n ≤ 1000) : fX5_cooled N (nI n) = some (nI (co n)) := by
  unfold fX5_cooled
  rw [co_n h]
section CO
variable {N B : Nat} {v : VS} {m : VM}
theorem X3_cooled (hN : 2097152 ≤ N) {n p : Nat} (h : n ≤ 1000) (hp : p ≤ 1000) : fX3_cooled N (nI n) (nI p) = some (nI (coK p n)) := by
  have key : ∀ k i f x, i + k = p → k < f → x ≤ 1000 → lX3_cooled_4 N (nI p) f (nI x) (nI i) = some (nI (coK k x)) := by
    intro k
    induction k with
    | zero =>
      intro i f x hi hk hx
      obtain ⟨q, rfl⟩ : ∃ q, f = q + 1 := ⟨f - 1, by omega⟩
      have e : i = p := by omega
      subst e
      rw [lX3_cooled_4, if_pos (Int32.le_refl _)]
      rfl
    | succ k ih =>
      intro i f x hi hk hx
      obtain ⟨q, rfl⟩ : ∃ q, f = q + 1 := ⟨f - 1, by omega⟩
      rw [lX3_cooled_4, if_neg (nI_ge (by omega) (by omega))]
      by_cases c : x = 0
      · subst c
        rw [if_pos (by decide), coK_0]
      · rw [if_neg (nI_nle (by omega) (by omega)), co_n hx, nI_1]
        have := co_le (n := x)
        exact ih (i + 1) q (co x) (by omega) (by omega) (by omega)
  unfold fX3_cooled
  have h1 := key p 0 N n (by omega) (by omega) h
  rw [show nI 0 = (0 : Int32) from rfl] at h1
  rw [h1]
  rfl
def hN (v : VS) (b : Nat) : Nat := (sH v b).toNatClampNeg
theorem BD.h {q : Nat} (h : BD B q v) {b : Nat} (hb : b < B) : sH v b = nI (hN v b) ∧ hN v b ≤ 1000 := by
  have h1 := h.2.2.2.1 b hb
  obtain ⟨j, hj, e⟩ := nI_of (x := sH v b) (fun q => by rw [fa_lt, z0] at q; omega)
  have e2 : hN v b = j := by unfold hN; rw [e, nI_clamp hj]
  rw [e2]
  rw [e, nI_toInt hj] at h1
  exact ⟨e, by omega⟩
def rsH (v : VS) (p i : Nat) : VS := uH v (fa_fill (fun b => nI (coK p (hN v b))) (sH v) i)
theorem rsH_in {p i b : Nat} (h : b < i) : sH (rsH v p i) b = nI (coK p (hN v b)) := fa_fill_in (f := fun b => nI (coK p (hN v b))) (g := sH v) h
theorem rsH_out {p i b : Nat} (h : i ≤ b) : sH (rsH v p i) b = sH v b := fa_fill_out (f := fun b => nI (coK p (hN v b))) (g := sH v) h
theorem X3_letPass (hN0 : 2097152 ≤ N) (hB : sB v = nI B) (hb : B ≤ 20) {q : Nat} (hd : BD B q v) {p : Nat} (hp : p ≤ 1000) : fX3_letPass N v (nI p) = some (uM (rsH v p B) (sM v + nI p)) := by
  have h := for_seq (B := B) (lX3_letPass_2 N (nI p)) (fun i => rsH v p i) (rsH v p B) (fun k => by
      rw [lX3_letPass_2, show sB (rsH v p B) = nI B from hB, if_pos (Int32.le_refl _)])
    (fun k i hi => by
      obtain ⟨h1, h2⟩ := hd.h hi
      have e : sH (rsH v p i) i = nI (hN v i) := (rsH_out (Nat.le_refl i)).trans h1
      rw [lX3_letPass_2, if_neg (show ¬ sB (rsH v p i) ≤ nI i from by rw [show sB (rsH v p i) = nI B from hB]; exact nI_ge hi (by omega)), ckI (by omega) (by decide), nI_clamp (by omega), e, X3_cooled hN0 h2 hp, bsome, ckI (by omega) (by decide)]
      have e2 : upd (sH (rsH v p i)) i (nI (coK p (hN v i))) = fa_fill (fun b => nI (coK p (hN v b))) (sH v) (i + 1) := fa_fill_succ (fun b => nI (coK p (hN v b))) (sH v) i
      rw [e2]
      rfl) (n := N) 0 (by omega) (by omega)
  have e : rsH v p 0 = v := by unfold rsH; rw [fa_fill_0]; rfl
  simp only [e] at h
  unfold fX3_letPass
  rw [show (0 : Int32) = nI 0 from rfl, h]
  rfl
theorem X5_rest18 (hN0 : 2097152 ≤ N) (m : VM) {b : Nat} (hb : b < 20) {x : Nat} (hx : x ≤ 1000) (he : mRow m (9 + 7 * b + 3) = nI x) {p : Nat} (hp : p ≤ 1000) (l2 : Int32) :
    lX5_restNow_18 N (nI p) l2 (nI b) N m 0 = some (mR m (upd (mRow m) (9 + 7 * b + 3) (nI (coK p x)))) := by
  have h := for_seq (B := p) (lX5_restNow_18 N (nI p) l2 (nI b)) (fun i => mR m (upd (mRow m) (9 + 7 * b + 3) (nI (coK i x)))) (mR m (upd (mRow m) (9 + 7 * b + 3) (nI (coK p x)))) (fun k => by
      rw [lX5_restNow_18, if_pos (Int32.le_refl _)])
    (fun k i hi => by
      have hc := coK_le i x
      rw [lX5_restNow_18, if_neg (nI_ge hi (by omega)), of_3 N _ hb, bsome, mRow_mR, pk_us, X5_cooled N (by omega), bsome, put_3 N _ _ hb, bsome, mRmR, mRow_mR, fa_upd_twice, coK_s]) (n := N) 0 (by omega) (by omega)
  have e : mR m (upd (mRow m) (9 + 7 * b + 3) (nI (coK 0 x))) = m := by
    rw [show coK 0 x = x from rfl, ← he, fa_upd_same rfl]
    rfl
  simp only [e] at h
  exact h
theorem X5_restNow (hN0 : 2097152 ≤ N) (h : RS B v (mRow m)) {q : Nat} (hd : BD B q v) {p : Nat} (hp : p ≤ 1000) :
    ∃ r, fX5_restNow N m (nI p) = some (mR m r, rng (fun i a => jmax a (nI (coK p (hN v i)))) B 0) ∧ RS B (uM (rsH v p B) (sM v + nI p)) r := by
  have hl := h.le
  obtain ⟨r, h1, r2, h2, h3⟩ := for_ex (B := B) (fun n (a : VM × Int32) i => lX5_restNow_4 N (nI p) n a.1 a.2 i) (fun i a => ∃ r, a = (mR m r, rng (fun i a => jmax a (nI (coK p (hN v i)))) i 0) ∧ RS B (rsH v p i) r) (fun z => ∃ r, z = (mR m r, rng (fun i a => jmax a (nI (coK p (hN v i)))) B 0) ∧ RS B (rsH v p B) r)
    (fun n a q => by
      obtain ⟨r, rfl, q2⟩ := q
      exact ⟨_, by rw [lX5_restNow_4, ck8, cl8, mRow_mR, q2.r8, if_pos (Int32.le_refl _)], r, rfl, q2⟩)
    (fun n a i hi q => .inl (by
      obtain ⟨r, rfl, q2⟩ := q
      obtain ⟨k1, k2⟩ := hd.h hi
      have e : r (9 + 7 * i + 3) = nI (hN v i) := (q2.h hi).trans ((rsH_out (Nat.le_refl i)).trans k1)
      have q3 := q2.uH (b := i) (nI (coK p (hN v i)))
      have e2 : upd (sH (rsH v p i)) i (nI (coK p (hN v i))) = fa_fill (fun b => nI (coK p (hN v b))) (sH v) (i + 1) := fa_fill_succ (fun b => nI (coK p (hN v b))) (sH v) i
      rw [e2] at q3
      refine ⟨(mR m (upd r (9 + 7 * i + 3) (nI (coK p (hN v i)))), rng (fun i a => jmax a (nI (coK p (hN v i)))) (i + 1) 0), ?_, _, rfl, q3⟩
      show lX5_restNow_4 N (nI p) (n + 1) (mR m r) _ _ = _
      rw [lX5_restNow_4, ck8, cl8, mRow_mR, q2.r8, if_neg (nI_ge hi (by omega)), X5_rest18 hN0 (mR m r) (by omega) k2 e hp, bsome, mRmR, mRow_mR, of_3 N _ (by omega), bsome, bsome, mRow_mR, pk_us]
      show _ = lX5_restNow_4 N (nI p) n _ (jmax (rng _ i 0) (nI (coK p (hN v i)))) _
      unfold jmax
      by_cases c : nI (coK p (hN v i)) ≤ rng (fun i a => if a < nI (coK p (hN v i)) then nI (coK p (hN v i)) else a) i 0
      · rw [if_pos c, if_neg (Int32.not_lt.mpr c)]
      · rw [if_neg c, if_pos (Int32.not_le.mp c)])) (n := N) 0 (by omega) (by omega) (m, 0) ⟨mRow m, rfl, by
        have e : rsH v p 0 = v := by unfold rsH; rw [fa_fill_0]; rfl
        rw [e]; exact h⟩
  subst h2
  refine ⟨upd r2 4 (sM v + nI p), ?_, h3.uM _⟩
  unfold fX5_restNow
  have h4 : lX5_restNow_4 N (nI p) N m 0 0 = some (mR m r2, rng (fun i a => jmax a (nI (coK p (hN v i)))) B 0) := h1
  rw [h4, bsome, ck4, ck4, cl4]
  show some (mR m (upd r2 4 (r2 4 + nI p)), _) = _
  rw [show r2 4 = sM v from h3.r4]
theorem BD.rest {q : Nat} (hd : BD B q v) (p : Nat) (x : Int32) : BD B q (uM (rsH v p B) x) := by
  obtain ⟨d1, d2, d3, d4, d5⟩ := hd
  refine ⟨d1, d2, d3, fun b hb => ?_, d5⟩
  show 0 ≤ (fa_fill (fun b => nI (coK p (hN v b))) (sH v) B b).toInt ∧ (fa_fill (fun b => nI (coK p (hN v b))) (sH v) B b).toInt ≤ 1000
  have h2 := (BD.h (⟨d1, d2, d3, d4, d5⟩ : BD B q v) hb).2
  have h3 := coK_le p (hN v b)
  rw [fa_fill_in hb, nI_toInt (by omega)]
  omega
theorem X3_greatest (hN0 : 2097152 ≤ N) (hB : sB v = nI B) (hb : B ≤ 20) (p : Nat) (x : Int32) : fX3_greatestWarmth N (uM (rsH v p B) x) = some (rng (fun i a => jmax a (nI (coK p (hN v i)))) B 0) := by
  rw [X3_greatestWarmth (v := uM (rsH v p B) x) hN0 hB hb]
  refine congrArg some (rng_cong (fun i a hi => ?_))
  exact congrArg (jmax a) (rsH_in hi)
/-! how many minutes until a block is cool enough -/
theorem cool_same (hN0 : 2097152 ≤ N) {s1 : Int32} (h1 : sS v 1 = s1) (h2 : mRow m 1 = s1) (h0 : 0 ≤ s1.toInt) : ∀ x j f g, x ≤ 1000 → j + x ≤ 1000 → x < f → x < g → ∃ t, lX3_minutesUntilCool_9 N v f (nI x) (nI j) = some t ∧ lX5_coolIn_28 N m g (nI j) (nI x) = some t := by
  intro x
  induction x using Nat.strongRecOn with
  | ind x ih =>
    intro j f g hx hj hf hg
    obtain ⟨f, rfl⟩ : ∃ q, f = q + 1 := ⟨f - 1, by omega⟩
    obtain ⟨g, rfl⟩ : ∃ q, g = q + 1 := ⟨g - 1, by omega⟩
    rw [lX3_minutesUntilCool_9, lX5_coolIn_28, cs1, cl1, h1, ck1, h2]
    by_cases c : nI x ≤ s1
    · rw [if_pos c, if_pos c]
      exact ⟨_, rfl, rfl⟩
    · have hx0 : 0 < x := by
        rw [fa_le, nI_toInt (by omega)] at c
        omega
      have := co_lt hx0
      rw [if_neg c, if_neg c, if_neg (show ¬ (1000 : Int32) ≤ nI j from nI_ge (b := 1000) (by omega) (by decide)), show (1 : Int32) = nI 1 from rfl, X3_cooled hN0 hx (by decide), bsome, X5_cooled N hx, bsome, nI_add]
      exact ih (co x) (by omega) (j + 1) f g (by omega) (by omega) (by omega) (by omega)
end CO
