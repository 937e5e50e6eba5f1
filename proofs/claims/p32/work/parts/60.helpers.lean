/-! the law's own helpers: what they answer -/
theorem nI7 (s : Nat) : 7 * nI s = nI (7 * s) := nI_mul 7 s
theorem nI7b (s j : Nat) : (7 * nI s) + nI j = nI (7 * s + j) := by rw [nI7, nI_add]
theorem nI7c (s j : Nat) : ((7 * nI s) + 1) + nI j = nI (7 * s + 1 + j) := by rw [nI7, nI_1, nI_add]
theorem cn0 {α : Type} {X : Option α} : ck 0 9 X = X := ck_n (k := 0) (by decide) (by decide)
theorem cn1 {α : Type} {X : Option α} : ck 1 9 X = X := ck_n (k := 1) (by decide) (by decide)
theorem cn2 {α : Type} {X : Option α} : ck 2 9 X = X := ck_n (k := 2) (by decide) (by decide)
theorem cn3 {α : Type} {X : Option α} : ck 3 9 X = X := ck_n (k := 3) (by decide) (by decide)
theorem cn4 {α : Type} {X : Option α} : ck 4 9 X = X := ck_n (k := 4) (by decide) (by decide)
theorem cn5 {α : Type} {X : Option α} : ck 5 9 X = X := ck_n (k := 5) (by decide) (by decide)
theorem cn6 {α : Type} {X : Option α} : ck 6 9 X = X := ck_n (k := 6) (by decide) (by decide)
theorem cn7 {α : Type} {X : Option α} : ck 7 9 X = X := ck_n (k := 7) (by decide) (by decide)
theorem cn8 {α : Type} {X : Option α} : ck 8 9 X = X := ck_n (k := 8) (by decide) (by decide)
theorem L_size (N : Nat) (x : Int32) : fL_size N x = some (jabs x) := by
  unfold fL_size jabs
  rw [Int32.zero_sub]
  split <;> rfl
theorem L_grade (N : Nat) (ge gw : Nat → Int32) {b : Nat} (hb : b < 10) : fL_grade N ge gw (nI b) = some (grd (ge b - gw b)) := by
  unfold fL_grade grd
  rw [ckI hb (by decide), ckI hb (by decide), nI_clamp (by omega), L_size, bsome]
  generalize jabs (ge b - gw b) = j
  have e1 : ∀ c : Int32, (c < j) ↔ ¬ j ≤ c := fun c => Int32.not_le.symm
  have m1 : j ≤ 100 → j ≤ 250 := fun h => Int32.le_trans h (by decide)
  have m2 : j ≤ 250 → j ≤ 500 := fun h => Int32.le_trans h (by decide)
  simp only [e1]
  by_cases c1 : j ≤ 100
  · simp [c1, m1 c1, m2 (m1 c1)]
  · by_cases c2 : j ≤ 250
    · simp [c1, c2, m2 c2]
    · by_cases c3 : j ≤ 500
      · simp [c1, c2, c3]
      · simp [c1, c2, c3]
theorem grd_is (e : Int32) : grd e = 0 ∨ grd e = 1 ∨ grd e = 2 ∨ grd e = 3 := by
  unfold grd
  (repeat' split) <;> simp
theorem L_length (N : Nat) (gl ge gw : Nat → Int32) {b : Nat} (hb : b < 10) (w : Int32) : fL_length N gl ge gw (nI b) w = some (tl (gl b) (ge b - gw b) w) := by
  unfold fL_length tl
  rw [ckI hb (by decide), ckI hb (by decide), ckI hb (by decide), ckI hb (by decide), nI_clamp (by omega), i32_as]
theorem nI_ex (x : Int32) : ∃ n, n < 2 ^ 32 ∧ x = nI n := by
  refine ⟨x.toBitVec.toNat, x.toBitVec.isLt, ?_⟩
  apply Int32.toBitVec_inj.mp
  show x.toBitVec = BitVec.ofNat 32 x.toBitVec.toNat
  rw [BitVec.ofNat_toNat, BitVec.setWidth_eq]
theorem cz_n {α : Type} {m : Nat} {X : Option α} (h0 : 0 < m) (hm : m < 2 ^ 31) : cz (nI m) X = X := by
  unfold cz
  rw [if_neg (nI_ne0 h0 hm)]
theorem L_low (N : Nat) (x : Int32) {m : Nat} (h0 : 0 < m) (hm : m < 2 ^ 31) : ∃ k, k < m ∧ fL_low N x (nI m) = some (nI k) := by
  obtain ⟨n, -, rfl⟩ := nI_ex x
  refine ⟨n % 2 ^ 31 % m, Nat.mod_lt _ h0, ?_⟩
  unfold fL_low
  have e : nI n &&& 2147483647 = nI (n % 2 ^ 31) := fa_mask n 31
  rw [e, cz_n h0 hm, remI (Nat.mod_lt _ (by decide)) h0 hm]
theorem rng_hit {α : Type} {c : Nat → Prop} [DecidablePred c] {f : Nat → α} {a : α} {k : Nat} (hk : c k) : ∀ n, (∀ j, j < n → c j → j = k) → rng (fun j x => if c j then f j else x) n a = if k < n then f k else a
  | 0, _ => by rw [if_neg (by omega)]; rfl
  | n + 1, hu => by
    show (if c n then f n else rng (fun j x => if c j then f j else x) n a) = _
    rw [rng_hit hk n (fun j hj => hu j (by omega))]
    by_cases q : c n
    · have e := hu n (by omega) q
      subst e
      rw [if_pos q, if_pos (by omega)]
    · have : n ≠ k := fun e => q (e ▸ hk)
      rw [if_neg q]
      by_cases z : k < n
      · rw [if_pos z, if_pos (by omega)]
      · rw [if_neg z, if_neg (by omega)]
theorem rng_miss {α : Type} {c : Nat → Prop} [DecidablePred c] {f : Nat → α} {a : α} : ∀ n, (∀ j, j < n → ¬ c j) → rng (fun j x => if c j then f j else x) n a = a
  | 0, _ => rfl
  | n + 1, hu => by
    show (if c n then f n else rng (fun j x => if c j then f j else x) n a) = _
    rw [if_neg (hu n (by omega)), rng_miss n (fun j hj => hu j (by omega))]
/-- the law's rows of stacks beside the class's places -/
def PL (B : Nat) (K P gp : Nat → Int32) : Prop := ∀ s, s < 3 → gp (7 * s) = nI (hg K B (nI s)) ∧ ∀ b, b < B → K b = nI s → ∃ k, k < hg K B (nI s) ∧ P b = nI k ∧ gp (7 * s + 1 + k) = nI b
theorem st_ne {s : Nat} (h : s < 3) : nI s ≠ -1 := nI_m1 (by omega)
theorem st_3 {s : Nat} (h : s < 3) : St3 (nI s) := by
  rcases (show s = 0 ∨ s = 1 ∨ s = 2 by omega) with rfl | rfl | rfl
  · exact .inl rfl
  · exact .inr (.inl rfl)
  · exact .inr (.inr rfl)
section WH
variable {N B : Nat} {K P gp : Nat → Int32}
theorem PL.at (hp : PL B K P gp) (hk : SKf B K P) (hB : B ≤ 20) {s j : Nat} (hs : s < 3) (hj : j < hg K B (nI s)) : ∃ b, b < B ∧ K b = nI s ∧ P b = nI j ∧ gp (7 * s + 1 + j) = nI b := by
  obtain ⟨b, h1, h2, h3⟩ := hk.place (st_ne hs) hj hB
  obtain ⟨k, k1, k2, k3⟩ := (hp s hs).2 b h1 h2
  have hl : hg K B (nI s) ≤ B := fb_ct_le _ B
  have e : j = k := (nI_eq (by omega) (by omega)).mp (h3.symm.trans k2)
  subst e
  exact ⟨b, h1, h2, h3, k3⟩
theorem L_where12 (hN0 : 2097152 ≤ N) (hB : B ≤ 10) (hk : SKf B K P) (hp : PL B K P gp) {s i : Nat} (hs : s < 3) (hi : i < B) (a : Int32) : lL_where_12 N gp (nI i) (nI s) N a 0 = some (if K i = nI s then 10 * nI s + P i else a) := by
  have h6 := hk.2.2.2 (nI s) (st_ne hs)
  have h1 := for_pure (B := hg K B (nI s)) (lL_where_12 N gp (nI i) (nI s)) (fun j x => if gp (7 * s + 1 + j) = nI i then 10 * nI s + nI j else x)
    (fun n a => by rw [lL_where_12, nI7, ckI (by omega) (by decide), nI_clamp (by omega), (hp s hs).1, if_pos (Int32.le_refl _)])
    (fun n a j hj => by
      rw [lL_where_12, nI7c, nI7, ckI (by omega) (by decide), nI_clamp (by omega), (hp s hs).1, if_neg (nI_ge hj (by omega)), ckI (by omega) (by decide), nI_clamp (by omega)]
      by_cases c : gp (7 * s + 1 + j) = nI i
      · rw [if_pos c, if_pos c]
      · rw [if_neg c, if_neg c]) (n := N) (by omega) a
  rw [h1]
  congr 1
  by_cases c : K i = nI s
  · obtain ⟨k, k1, k2, k3⟩ := (hp s hs).2 i hi c
    rw [rng_hit (c := fun j => gp (7 * s + 1 + j) = nI i) (k := k) k3 _ (fun j hj q => ?_), if_pos k1, if_pos c, k2]
    obtain ⟨b, b1, b2, b3, b4⟩ := hp.at hk (by omega) hs hj
    have e : b = i := (nI_eq (by omega) (by omega)).mp (b4.symm.trans q)
    subst e
    exact (nI_eq (by omega) (by omega)).mp (b3.symm.trans k2)
  · rw [rng_miss (c := fun j => gp (7 * s + 1 + j) = nI i) _ (fun j hj q => ?_), if_neg c]
    obtain ⟨b, b1, b2, b3, b4⟩ := hp.at hk (by omega) hs hj
    have e : b = i := (nI_eq (by omega) (by omega)).mp (b4.symm.trans q)
    subst e
    exact c b2
/-- where a block is, as the law says it -/
def wh (K P : Nat → Int32) (i : Nat) : Int32 := if K i = -1 then -1 else 10 * K i + P i
theorem L_where (hN0 : 2097152 ≤ N) (hB : B ≤ 10) (hk : SKf B K P) (hp : PL B K P gp) {i : Nat} (hi : i < B) : fL_where N gp (nI i) = some (wh K P i) := by
  have h1 := for_pure (B := 3) (lL_where_4 N gp (nI i)) (fun s a => if K i = nI s then 10 * nI s + P i else a)
    (fun n a => by rw [lL_where_4, if_pos (by decide)])
    (fun n a s hs => by rw [lL_where_4, if_neg (show ¬ (3 : Int32) ≤ nI s from nI_ge (b := 3) hs (by decide)), L_where12 hN0 hB hk hp hs hi, bsome]) (n := N) (by omega) (-1)
  unfold fL_where
  rw [h1, bsome]
  congr 1
  unfold wh
  show (if K i = nI 2 then 10 * nI 2 + P i else if K i = nI 1 then 10 * nI 1 + P i else if K i = nI 0 then 10 * nI 0 + P i else (-1 : Int32)) = _
  rcases hk.1 i hi with e | e | e | e <;> rw [e]
  · rw [if_neg (by decide), if_neg (by decide), if_neg (by decide), if_pos rfl]
  · rw [if_neg (by decide), if_neg (by decide), if_pos (by decide), if_neg (by decide)]
    rfl
  · rw [if_neg (by decide), if_pos (by decide), if_neg (by decide)]
    rfl
  · rw [if_pos (by decide), if_neg (by decide)]
    rfl
theorem wh_at (hB : B ≤ 10) (hk : SKf B K P) {i : Nat} (hi : i < B) (c : K i ≠ -1) : ∃ s p, s < 3 ∧ p < 6 ∧ K i = nI s ∧ P i = nI p ∧ wh K P i = nI (10 * s + p) := by
  obtain ⟨p, p1, p2⟩ := hk.2.1 i hi c
  have h6 := hk.2.2.2 _ c
  have key : ∀ s, K i = nI s → wh K P i = nI (10 * s + p) := fun s e => by
    unfold wh
    rw [if_neg c, e, p2, show 10 * nI s = nI (10 * s) from nI_mul 10 s, nI_add]
  rcases hk.1 i hi with e | e | e | e
  · exact absurd e c
  · exact ⟨0, p, by decide, by omega, e, p2, key 0 e⟩
  · exact ⟨1, p, by decide, by omega, e, p2, key 1 e⟩
  · exact ⟨2, p, by decide, by omega, e, p2, key 2 e⟩
theorem wh_m1 (hB : B ≤ 10) (hk : SKf B K P) {i : Nat} (hi : i < B) : wh K P i = -1 ↔ K i = -1 := by
  constructor
  · intro h
    rcases Classical.em (K i = -1) with c | c
    · exact c
    · obtain ⟨s, p, h1, h2, -, -, e⟩ := wh_at hB hk hi c
      rw [e] at h
      exact absurd h (nI_m1 (by omega))
  · intro h
    unfold wh
    rw [if_pos h]
theorem L_free (hN0 : 2097152 ≤ N) (hB : B ≤ 10) (hk : SKf B K P) (hp : PL B K P gp) {gn : Nat → Int32} (h8 : gn 8 = nI B) : fL_free N gn gp = some (nI (mkb (fun b => decide (K b = -1)) B)) := by
  have h1 := for_pure (B := B) (lL_free_4 N gn gp) (fun i a => if decide (K i = -1) = true then a ||| nI (2 ^ i) else a)
    (fun n a => by rw [lL_free_4, cn8, cl8, h8, if_pos (Int32.le_refl _)])
    (fun n a i hi => by
      rw [lL_free_4, cn8, cl8, h8, if_neg (nI_ge hi (by omega)), L_where hN0 hB hk hp hi, bsome, sh_1 i (by omega)]
      by_cases c : K i = -1
      · rw [if_pos ((wh_m1 hB hk hi).mpr c)]
        simp [c]
      · rw [if_neg (fun q => c ((wh_m1 hB hk hi).mp q)), nI_or0]
        simp [c]) (n := N) (by omega) 0
  unfold fL_free
  rw [h1, bsome, fold_mk (fun b => decide (K b = -1))]
end WH
section HE
variable {N : Nat}
theorem co_law {x : Nat} (h : x ≤ 1000) : (if (nI x - nI x / 10 * 10) ≤ (0 : Int32) then nI x - ((nI x / 10) + 0) else nI x - ((nI x / 10) + 1)) = nI (co x) := by
  rw [show nI x - nI x / 10 * 10 = nI (x % 10) from remI (d := 10) (by omega) (by decide) (by decide), show nI x / 10 = nI (x / 10) from nI_div (b := 10) (by omega) (by decide) (by decide), i32_z, nI_1]
  by_cases c : x % 10 = 0
  · rw [c, if_pos (by decide), nI_sub (by omega)]
    unfold co
    congr 1
    omega
  · rw [if_neg (nI_nle (by omega) (by omega)), nI_sub (by omega)]
    unfold co
    congr 1
    omega
theorem L_cool (hN0 : 2097152 ≤ N) {n p : Nat} (h : n ≤ 1000) (hp : p ≤ 2000) : fL_cool N (nI n) (nI p) = some (nI (coK p n)) := by
  have key : ∀ k i f x, i + k = p → k < f → x ≤ 1000 → lL_cool_4 N (nI p) f (nI x) (nI i) = some (nI (coK k x)) := by
    intro k
    induction k with
    | zero =>
      intro i f x hi hk hx
      obtain ⟨q, rfl⟩ : ∃ q, f = q + 1 := ⟨f - 1, by omega⟩
      have e : i = p := by omega
      subst e
      rw [lL_cool_4, if_pos (Int32.le_refl _)]
      rfl
    | succ k ih =>
      intro i f x hi hk hx
      obtain ⟨q, rfl⟩ : ∃ q, f = q + 1 := ⟨f - 1, by omega⟩
      rw [lL_cool_4, if_neg (nI_ge (by omega) (by omega))]
      by_cases c : x = 0
      · subst c
        rw [if_pos (by decide), coK_0]
      · rw [if_neg (nI_nle (by omega) (by omega)), nI_1]
        have e1 := co_law hx
        have := co_le (n := x)
        by_cases c2 : (nI x - nI x / 10 * 10) ≤ (0 : Int32)
        · rw [if_pos c2] at e1 ⊢
          rw [e1]
          exact ih (i + 1) q (co x) (by omega) (by omega) (by omega)
        · rw [if_neg c2] at e1 ⊢
          rw [e1]
          exact ih (i + 1) q (co x) (by omega) (by omega) (by omega)
  unfold fL_cool
  have h1 := key p 0 N n (by omega) (by omega) h
  rw [show nI 0 = (0 : Int32) from rfl] at h1
  rw [h1]
  rfl
theorem fold_bits (p : Nat → Bool) : ∀ n, rng (fun i a => a + nI (if p i = true then 1 else 0)) n 0 = nI (fb_ct p n)
  | 0 => rfl
  | n + 1 => by
    show rng (fun i a => a + nI (if p i = true then 1 else 0)) n 0 + nI (if p n = true then 1 else 0) = _
    rw [fold_bits p n, nI_add, fb_ct_succ]
theorem L_ones (hN0 : 2097152 ≤ N) {x : Nat} (hx : x < 2 ^ 31) : fL_ones N (nI x) = some (nI (pop x)) := by
  have h1 := for_pure (B := 20) (lL_ones_4 N (nI x)) (fun i a => a + nI (if x.testBit i = true then 1 else 0))
    (fun n a => by rw [lL_ones_4, if_pos (by decide)])
    (fun n a i hi => by rw [lL_ones_4, if_neg (show ¬ (20 : Int32) ≤ nI i from nI_ge (b := 20) hi (by decide)), bit_at hx (by omega)]) (n := N) (by omega) 0
  unfold fL_ones
  rw [h1, bsome, fold_bits (fun i => x.testBit i)]
  rfl
def sumA (gl : Nat → Int32) (x : Nat) : Int32 := rng (fun i a => if x.testBit i = true then a + gl i else a) 10 0
theorem L_sum (hN0 : 2097152 ≤ N) (gl : Nat → Int32) {x : Nat} (hx : x < 2 ^ 31) : fL_sum N gl (nI x) = some (sumA gl x) := by
  have h1 := for_pure (B := 10) (lL_sum_4 N gl (nI x)) (fun i a => if x.testBit i = true then a + gl i else a)
    (fun n a => by rw [lL_sum_4, if_pos (by decide)])
    (fun n a i hi => by
      rw [lL_sum_4, if_neg (show ¬ (10 : Int32) ≤ nI i from nI_ge (b := 10) hi (by decide)), ckI (by omega) (by decide), nI_clamp (by omega), i32_z]
      by_cases c : x.testBit i = true
      · rw [if_pos ((bit_at1 hx (by omega)).mpr c), if_pos c]
      · rw [if_neg (fun q => c ((bit_at1 hx (by omega)).mp q)), if_neg c]) (n := N) (by omega) 0
  unfold fL_sum
  rw [h1, bsome]
  rfl
theorem sumA_M {B M : Nat} {gl : Nat → Int32} {v : VS} (hg : ∀ b, b < B → gl b = sN v b) (hM : ∀ i, M.testBit i = true → i < B) (hB : B ≤ 10) : sumA gl M = sumM v B M := by
  have key : ∀ k, rng (fun i a => if M.testBit i = true then a + gl i else a) (B + k) 0 = sumM v B M := by
    intro k
    induction k with
    | zero => exact rng_cong (fun i x hi => by rw [hg i hi])
    | succ k ih =>
      show (if M.testBit (B + k) = true then rng _ (B + k) 0 + gl (B + k) else rng _ (B + k) 0) = _
      rw [if_neg (fun q => by have := hM _ q; omega)]
      exact ih
  have := key (10 - B)
  rw [show B + (10 - B) = 10 by omega] at this
  exact this
end HE
