/-! the fewest blocks: the law's search through all sets, and the class's -/
section FW
variable {N B q : Nat} {v : VS}
def GoodF (v : VS) (B : Nat) (l : Int32) (M : Nat) : Prop := Sub v B M ∧ 0 < M ∧ pop M ≤ 6 ∧ sumM v B M = l
def FewS (v : VS) (B : Nat) (l r : Int32) : Prop := (r = 0 ∧ ∀ M, ¬ GoodF v B l M) ∨ ∃ M, r = nI M ∧ GoodF v B l M ∧ ∀ W, GoodF v B l W → pop M < pop W ∨ (pop M = pop W ∧ M ≤ W)
theorem sub_lt {M : Nat} (h : Sub v B M) : M < 2 ^ B := Nat.lt_pow_two_of_testBit M (fun i hi => by
  cases c : M.testBit i with
  | false => rfl
  | true => have := (h i c).1; omega)
theorem few_uniq {l r r2 : Int32} (h : FewS v B l r) (h2 : FewS v B l r2) : r = r2 := by
  rcases h with ⟨rfl, h⟩ | ⟨M, rfl, g, h⟩ <;> rcases h2 with ⟨rfl, h2⟩ | ⟨W, rfl, g2, h2⟩
  · rfl
  · exact absurd g2 (h W)
  · exact absurd g (h2 M)
  · have a1 := h W g2
    have a2 := h2 M g
    have : M = W := by omega
    rw [this]
theorem pop_pos {M : Nat} (h : Sub v B M) (hB : B ≤ 20) (h0 : 0 < M) : 1 ≤ pop M := by
  rcases Nat.eq_zero_or_pos (pop M) with c | c
  · have := pop_z (sub_lt h) hB c
    omega
  · exact c
theorem c_few (hN0 : 2097152 ≤ N) (hB : sB v = nI B) (hl : B ≤ 20) (hd : BD B q v) (l : Int32) : ∃ r, fX0_fewestFor N v l = some r ∧ FewS v B l r := by
  have h1 := for_ex (α := Unit) (B := 7) (fun n _ i => lX0_fewestFor_8 N v l (nI (mkb (fre v) B)) n i) (fun i _ => 1 ≤ i ∧ ∀ M, GoodF v B l M → i ≤ pop M)
    (fun u => (u = .inl () ∧ ∀ M, ¬ GoodF v B l M) ∨ ∃ M, u = .inr (nI M) ∧ GoodF v B l M ∧ ∀ W, GoodF v B l W → pop M < pop W ∨ (pop M = pop W ∧ M ≤ W))
    (fun n _ hI => ⟨.inl (), by rw [lX0_fewestFor_8, if_pos (by decide)], .inl ⟨rfl, fun M g => by have := hI.2 M g; have := g.2.2.1; omega⟩⟩)
    (fun n _ i hi hI => by
      obtain ⟨hi1, hI⟩ := hI
      obtain ⟨r, e1, e2⟩ := least hN0 hd hl i 8 20 l hi1 (by omega) (by omega) (by omega)
      rw [show nI 20 = (20 : Int32) from rfl] at e1
      rw [lX0_fewestFor_8, if_neg (show ¬ (6 : Int32) < nI i from nI_nlt (a := 6) (by omega) (by omega)), e1, bsome]
      rcases e2 with ⟨rfl, e3⟩ | ⟨M, e3, e4, rfl⟩
      · rw [if_pos rfl]
        refine .inl ⟨(), rfl, by omega, fun M g => ?_⟩
        have := hI M g
        rcases Nat.eq_or_lt_of_le this with c | c
        · exact absurd ⟨Nat.lt_of_lt_of_le (sub_lt g.1) (Nat.pow_le_pow_right (by decide) hl), g.1, c.symm, g.2.2.2⟩ (e3 M)
        · omega
      · have hM0 : 0 < M := by
          rcases Nat.eq_zero_or_pos M with c | c
          · have := e3.2.2.1
            rw [c, pop_0] at this
            omega
          · exact c
        rw [if_neg (nI_ne0 hM0 (by have := e3.1; omega))]
        refine .inr ⟨_, rfl, .inr ⟨M, rfl, ⟨e3.2.1, hM0, by rw [e3.2.2.1]; omega, e3.2.2.2⟩, fun W g => ?_⟩⟩
        have := hI W g
        rw [e3.2.2.1]
        rcases Nat.eq_or_lt_of_le this with c | c
        · exact .inr ⟨c, e4 W ⟨Nat.lt_of_lt_of_le (sub_lt g.1) (Nat.pow_le_pow_right (by decide) hl), g.1, c.symm, g.2.2.2⟩⟩
        · exact .inl c) (n := N) 1 (by omega) (by omega) () ⟨by omega, fun M g => pop_pos g.1 hl g.2.1⟩
  obtain ⟨u, e1, e2⟩ := h1
  have e0 : fX3_blocksIn N v (-1) = some (nI (mkb (fre v) B)) := X3_blocksIn hN0 hB hl (-1)
  unfold fX0_fewestFor
  rw [e0, bsome, show (1 : Int32) = nI 1 from rfl, e1, bsome]
  rcases e2 with ⟨rfl, e3⟩ | ⟨M, rfl, e3, e4⟩
  · exact ⟨0, rfl, .inl ⟨rfl, e3⟩⟩
  · exact ⟨nI M, rfl, .inr ⟨M, rfl, e3, e4⟩⟩
theorem and_sub (v : VS) (B i : Nat) : i &&& mkb (fre v) B = i ↔ Sub v B i := by
  constructor
  · intro h k hk
    have e := congrArg (fun x => x.testBit k) h
    simp only [Nat.testBit_and, hk, Bool.true_and] at e
    rw [mkb_bit] at e
    simp only [Bool.and_eq_true, decide_eq_true_eq] at e
    exact e
  · intro h
    apply Nat.eq_of_testBit_eq
    intro k
    rw [Nat.testBit_and]
    cases c : i.testBit k with
    | false => rfl
    | true =>
      obtain ⟨h1, h2⟩ := h k c
      rw [mkb_bit]
      simp [h1, h2]
theorem L_few (hN0 : 2097152 ≤ N) (hl : B ≤ 10) {gl : Nat → Int32} (hg : ∀ b, b < B → gl b = sN v b) (l : Int32) : ∃ r, fL_fewest N gl (nI (mkb (fre v) B)) l = some r ∧ FewS v B l r := by
  have hF : mkb (fre v) B < 1024 := Nat.lt_of_lt_of_le (mkb_lt _ B) (Nat.le_trans (Nat.pow_le_pow_right (by decide) hl) (by decide))
  have h1 := for_ex (α := Int32) (B := 1024) (fun n a i => lL_fewest_5 N gl (nI (mkb (fre v) B)) l n a i)
    (fun i a => 1 ≤ i ∧ ((a = 0 ∧ ∀ M, M < i → ¬ GoodF v B l M) ∨ ∃ M, a = nI M ∧ M < i ∧ GoodF v B l M ∧ ∀ W, W < i → GoodF v B l W → pop M < pop W ∨ (pop M = pop W ∧ M ≤ W)))
    (fun r => FewS v B l r)
    (fun n a hI => ⟨a, by rw [lL_fewest_5, if_pos (by decide)], by
      have lt : ∀ M, GoodF v B l M → M < 1024 := fun M g => Nat.lt_of_lt_of_le (sub_lt g.1) (Nat.le_trans (Nat.pow_le_pow_right (by decide) hl) (by decide))
      rcases hI.2 with ⟨rfl, h⟩ | ⟨M, rfl, -, g, h⟩
      · exact .inl ⟨rfl, fun M g => h M (lt M g) g⟩
      · exact .inr ⟨M, rfl, g, fun W w => h W (lt W w) w⟩⟩)
    (fun n a i hi hI => .inl (by
      obtain ⟨hi1, hI⟩ := hI
      have e1 : (nI i &&& nI (mkb (fre v) B) = nI i) ↔ Sub v B i := by
        rw [fa_and, nI_eq (Nat.lt_of_le_of_lt Nat.and_le_left (by omega)) (by omega)]
        exact and_sub v B i
      have e7 : ((7 : Int32) ≤ nI (pop i)) ↔ ¬ pop i ≤ 6 := by
        have : pop i ≤ 20 := fb_ct_le _ 20
        exact (nI_leI (a := 7) (by decide) (by omega)).trans (by omega)
      have eA : ∃ w : Int32, ((if (nI i &&& nI (mkb (fre v) B)) = nI i then ((fL_ones N (nI i)).bind fun r2 => (if (7 : Int32) ≤ r2 then some 0 else ((fL_sum N gl (nI i)).bind fun r3 => (if r3 = l then some 1 else some 0)))) else some 0) : Option Int32) = some w ∧ ((w = 1 ∧ Sub v B i ∧ pop i ≤ 6 ∧ sumM v B i = l) ∨ (w = 0 ∧ ¬ (Sub v B i ∧ pop i ≤ 6 ∧ sumM v B i = l))) := by
        by_cases c1 : Sub v B i
        · rw [if_pos (e1.mpr c1), L_ones hN0 (by omega), bsome]
          by_cases c2 : pop i ≤ 6
          · rw [if_neg (fun z => e7.mp z c2), L_sum hN0 gl (by omega), bsome, sumA_M hg (fun k hk => (c1 k hk).1) hl]
            by_cases c3 : sumM v B i = l
            · exact ⟨1, by rw [if_pos c3], .inl ⟨rfl, c1, c2, c3⟩⟩
            · exact ⟨0, by rw [if_neg c3], .inr ⟨rfl, fun z => c3 z.2.2⟩⟩
          · exact ⟨0, by rw [if_pos (e7.mpr c2)], .inr ⟨rfl, fun z => c2 z.2.1⟩⟩
        · exact ⟨0, by rw [if_neg (fun z => c1 (e1.mp z))], .inr ⟨rfl, fun z => c1 z.1⟩⟩
      obtain ⟨w, eA, hw⟩ := eA
      rw [lL_fewest_5, if_neg (show ¬ (1024 : Int32) ≤ nI i from nI_ge (b := 1024) hi (by decide)), eA, bsome]
      have keep : ¬ GoodF v B l i → (1 ≤ i + 1 ∧ ((a = 0 ∧ ∀ M, M < i + 1 → ¬ GoodF v B l M) ∨ ∃ M, a = nI M ∧ M < i + 1 ∧ GoodF v B l M ∧ ∀ W, W < i + 1 → GoodF v B l W → pop M < pop W ∨ (pop M = pop W ∧ M ≤ W))) := fun hn => by
        refine ⟨by omega, ?_⟩
        rcases hI with ⟨ha, h⟩ | ⟨M, ha, hM, g, h⟩
        · exact .inl ⟨ha, lt_s h hn⟩
        · exact .inr ⟨M, ha, by omega, g, lt_s h (fun z => absurd z hn)⟩
      rcases hw with ⟨rfl, c⟩ | ⟨rfl, c⟩
      · have gi : GoodF v B l i := ⟨c.1, by omega, c.2.1, c.2.2⟩
        rw [if_neg (show ¬ (1 : Int32) = 0 by decide)]
        rcases hI with ⟨ha, h⟩ | ⟨M, ha, hM, g, h⟩
        · rw [if_pos ha]
          exact ⟨nI i, rfl, by omega, .inr ⟨i, rfl, by omega, gi, fun W hW w => by
            rcases Nat.lt_or_ge W i with z | z
            · exact absurd w (h W z)
            · have : W = i := by omega
              subst this
              exact .inr ⟨rfl, Nat.le_refl _⟩⟩⟩
        · subst ha
          have hp1 : pop i ≤ 20 := fb_ct_le _ 20
          have hp2 : pop M ≤ 20 := fb_ct_le _ 20
          rw [if_neg (nI_ne0 g.2.1 (by omega)), L_ones hN0 (by omega), bsome, L_ones hN0 (by omega), bsome]
          by_cases c2 : pop M ≤ pop i
          · rw [if_pos (nI_le c2 (by omega))]
            refine ⟨nI M, rfl, by omega, .inr ⟨M, rfl, by omega, g, lt_s h (fun _ => by omega)⟩⟩
          · rw [if_neg (nI_ge (by omega) (by omega))]
            refine ⟨nI i, rfl, by omega, .inr ⟨i, rfl, by omega, gi, fun W hW w => ?_⟩⟩
            rcases Nat.lt_or_ge W i with z | z
            · have := h W z w
              omega
            · have : W = i := by omega
              subst this
              exact .inr ⟨rfl, Nat.le_refl _⟩
      · rw [if_pos rfl]
        exact ⟨a, rfl, keep (fun g => c ⟨g.1, g.2.2⟩)⟩)) (n := N) 1 (by omega) (by omega) 0 ⟨by omega, .inl ⟨rfl, fun M hM g => by have := g.2.1; omega⟩⟩
  obtain ⟨r, e1, e2⟩ := h1
  refine ⟨r, ?_, e2⟩
  unfold fL_fewest
  rw [show (1 : Int32) = nI 1 from rfl, e1]
  rfl
theorem few_both (hN0 : 2097152 ≤ N) (hB : sB v = nI B) (hl : B ≤ 10) (hd : BD B q v) {gl : Nat → Int32} (hg : ∀ b, b < B → gl b = sN v b) (l : Int32) : ∃ M, M < 1024 ∧ Sub v B M ∧ fL_fewest N gl (nI (mkb (fun b => decide (sK v b = -1)) B)) l = some (nI M) ∧ fX0_fewestFor N v l = some (nI M) := by
  obtain ⟨r, e1, e2⟩ := L_few hN0 hl hg l
  obtain ⟨r2, e3, e4⟩ := c_few hN0 hB (by omega) hd l
  have e := few_uniq e2 e4
  subst e
  have hfr : mkb (fun b => decide (sK v b = -1)) B = mkb (fre v) B := rfl
  rw [hfr]
  rcases e2 with ⟨rfl, -⟩ | ⟨M, rfl, g, -⟩
  · exact ⟨0, by decide, (fun i hi => by
      rw [Nat.zero_testBit] at hi
      cases hi), e1, e3⟩
  · exact ⟨M, Nat.lt_of_lt_of_le (sub_lt g.1) (Nat.le_trans (Nat.pow_le_pow_right (by decide) hl) (by decide)), g.1, e1, e3⟩
end FW
section MK
variable {N B q : Nat} {v : VS} {z : VV} {tx : VT} {gl ge gw gh gt gn gp : Nat → Int32}
theorem mk_none (hB : B ≤ 10) (h8 : gn 8 = nI B) (v0 : VS) (z0 : VV) (a1 a2 : Nat → Int32) (p1 p2 : Int32) (m : Int32) : ∀ k i g, i + k = B → k < g → lL_makes_51 N v0 z0 a1 a2 p1 p2 0 g gw gh gt gn gp m 1 (nI i) = some (gw, gh, gt, gn, gp, m) := by
  intro k
  induction k with
  | zero =>
    intro i g hi hg
    obtain ⟨g, rfl⟩ : ∃ x, g = x + 1 := ⟨g - 1, by omega⟩
    have e : i = B := by omega
    subst e
    rw [lL_makes_51, cn8, cl8, h8, if_pos (Int32.le_refl _)]
  | succ k ih =>
    intro i g hi hg
    obtain ⟨g, rfl⟩ : ∃ x, g = x + 1 := ⟨g - 1, by omega⟩
    have hb : ¬ ((0 : Int32) >>> (nI i &&& 31)) &&& 1 = 1 := fun e => by
      have := (bit_at1 (x := 0) (by decide) (show i < 31 by omega)).mp e
      rw [Nat.zero_testBit] at this
      cases this
    rw [lL_makes_51, cn8, cl8, h8, if_neg (nI_ge (by omega) (by omega)), if_neg (show ¬ (1 : Int32) = 0 by decide), if_neg hb, nI_1]
    exact ih (i + 1) g (by omega) (by omega)
theorem mk_loop (hN0 : 2097152 ≤ N) {M s : Nat} (hs : s < 3) (hM : M < 2 ^ 31) (v0 : VS) (z0 : VV) (p2 : Int32) : ∀ k i v gw gh gt gn gp m q f g, i + k = B → k < f → k < g → q + 20 * k ≤ 900000 → LI B q v gl ge gw gh gt gn gp →
    ∃ v' gw' gh' gt' gn' gp' m' u, lX3_wringSet_5 N (nI s) (nI M) f v m (nI i) = some u ∧ (u = .inl (v', m') ∨ u = .inr (v', m')) ∧ lL_makes_51 N v0 z0 gl ge (nI s) p2 (nI M) g gw gh gt gn gp m 1 (nI i) = some (gw', gh', gt', gn', gp', m') ∧ LI B (q + 20 * k) v' gl ge gw' gh' gt' gn' gp' := by
  intro k
  induction k with
  | zero =>
    intro i v gw gh gt gn gp m q f g hi hf hg hq h
    obtain ⟨f, rfl⟩ : ∃ x, f = x + 1 := ⟨f - 1, by omega⟩
    obtain ⟨g, rfl⟩ : ∃ x, g = x + 1 := ⟨g - 1, by omega⟩
    have e : i = B := by omega
    subst e
    exact ⟨v, gw, gh, gt, gn, gp, m, _, by rw [lX3_wringSet_5, h.b, if_pos (Int32.le_refl _)], .inl rfl, by rw [lL_makes_51, cn8, cl8, h.n8, if_pos (Int32.le_refl _)], h⟩
  | succ k ih =>
    intro i v gw gh gt gn gp m q f g hi hf hg hq h
    have hl := h.le
    obtain ⟨f, rfl⟩ : ∃ x, f = x + 1 := ⟨f - 1, by omega⟩
    obtain ⟨g, rfl⟩ : ∃ x, g = x + 1 := ⟨g - 1, by omega⟩
    rw [lX3_wringSet_5, h.b, if_neg (nI_ge (by omega) (by omega)), lL_makes_51, cn8, cl8, h.n8, if_neg (nI_ge (by omega) (by omega)), if_neg (show ¬ (1 : Int32) = 0 by decide)]
    cases c : M.testBit i with
    | false =>
      rw [if_pos ((bit_at0 hM (by omega)).mpr c), if_neg (fun e => by rw [(bit_at1 hM (by omega)).mp e] at c; cases c), nI_1]
      obtain ⟨v', gw', gh', gt', gn', gp', m', u, e1, e2, e3, e4⟩ := ih (i + 1) v gw gh gt gn gp m q f g (by omega) (by omega) (by omega) (by omega) h
      exact ⟨v', gw', gh', gt', gn', gp', m', u, e1, e2, e3, e4.mono (by omega)⟩
    | true =>
      obtain ⟨gw1, gh1, gt1, gn1, gp1, v1, a1, a2, a3⟩ := L_wrings hN0 (by omega) h hs (show i < B by omega)
      rw [if_neg (fun e => by rw [(bit_at0 hM (by omega)).mp e] at c; cases c), if_pos ((bit_at1 hM (by omega)).mpr c), a1, a2, bsome, bsome]
      by_cases c2 : rsn v B (nI s) i = 0
      · rw [c2]
        simp only [if_true, bsome]
        rw [if_neg (show ¬ (1 : Int32) = 0 by decide), nI_1]
        obtain ⟨v', gw', gh', gt', gn', gp', m', u, e1, e2, e3, e4⟩ := ih (i + 1) v1 gw1 gh1 gt1 gn1 gp1 (m + 1) (q + 20) f g (by omega) (by omega) (by omega) (by omega) a3
        exact ⟨v', gw', gh', gt', gn', gp', m', u, e1, e2, e3, e4.mono (by omega)⟩
      · obtain ⟨g, rfl⟩ : ∃ x, g = x + 1 := ⟨g - 1, by omega⟩
        simp only [if_neg c2, bsome]
        rw [if_pos trivial, i32_z, nI_1]
        refine ⟨v1, gw1, gh1, gt1, gn1, gp1, m, _, rfl, .inr rfl, ?_, a3.mono (by omega)⟩
        rw [lL_makes_51, cn8, cl8, a3.n8]
        by_cases c3 : nI B ≤ nI (i + 1)
        · rw [if_pos c3]
        · rw [if_neg c3, if_pos rfl]
def MKp (q : Nat) (gl ge : Nat → Int32) (X : Option (VS × VV × (Nat → Int32) × (Nat → Int32) × (Nat → Int32) × (Nat → Int32) × (Nat → Int32) × Bool)) : Prop :=
  ∃ B v z gw gh gt gn gp, X = some (v, z, gw, gh, gt, gn, gp, true) ∧ ZV z ∧ LI B q v gl ge gw gh gt gn gp
theorem L_makes (hN0 : 2097152 ≤ N) (hq : q ≤ 800000) (h : LI B q v gl ge gw gh gt gn gp) (hz : ZV z) {s R : Nat} (hs : s < 3) (h1 : 500 ≤ R) (h2 : R ≤ 600000) : MKp (q + 200) gl ge (fL_makes N v z gl ge gw gh gt gn gp (nI s) (nI R)) := by
  have hl := h.le
  have hhl := hgt_le v B (nI s)
  have c7 : ∀ {α : Type} (X : Option α), ck (nI (7 * s)) 21 X = X := fun X => ckI (by omega) (by decide)
  have k7 : (nI (7 * s)).toNatClampNeg = 7 * s := nI_clamp (by omega)
  have hg0 : gp (7 * s) = nI (hgt v B (nI s)) := (h.2.1 s hs).1
  unfold fL_makes
  simp only [nI7, c7, k7, hg0]
  by_cases c : hgt v B (nI s) = 0
  · obtain ⟨M, m1, m2, m3, m4⟩ := few_both hN0 h.b hl h.2.2.2 (fun b hb => h.l hb) (nI R)
    obtain ⟨z', hz', e1⟩ := push_ok N hz v
    rw [c, if_pos (show nI 0 ≤ 0 by decide), L_free hN0 hl h.2.2.1 h.2.1 h.n8, bsome, m3, bsome]
    have e2 : ∀ X, fX4_make N v z (nI s) (nI R) = X ↔ (if nI M = 0 then some (v, z', (-1 : Int32)) else ((fX3_wringSet N v (nI s) (nI M)).bind fun r6 => some (r6.1, z', r6.2))) = X := fun X => by
      unfold fX4_make
      rw [ccs N hs, bsome, ccl N h1 h2, bsome, X3_heightOf hN0 h.b (by omega), bsome, c, if_pos (show nI 0 = (0 : Int32) from rfl), e1, bsome, m4, bsome]
    by_cases c2 : M = 0
    · subst c2
      have e3 := (e2 (some (v, z', -1))).mpr (by rw [if_pos (show nI 0 = (0 : Int32) from rfl)])
      have e4 := mk_none (N := N) (gw := gw) (gh := gh) (gt := gt) (gp := gp) hl h.n8 v z gl ge (nI s) (nI R) 0 B 0 N (by omega) (by omega)
      rw [show nI 0 = (0 : Int32) from rfl] at e4 ⊢
      rw [e4, bsome, e3, bsome, if_pos rfl, bsome, if_pos rfl]
      exact ⟨_, _, _, _, _, _, _, _, rfl, hz', h.mono (by omega)⟩
    · have hne : ¬ nI M = 0 := nI_ne0 (by omega) (by omega)
      obtain ⟨v', gw', gh', gt', gn', gp', m', u, a1, a2, a3, a4⟩ := mk_loop (gl := gl) (ge := ge) hN0 hs (show M < 2 ^ 31 by omega) v z (nI R) B 0 v gw gh gt gn gp 0 q N N (by omega) (by omega) (by omega) (by omega) h
      have e5 : fX3_wringSet N v (nI s) (nI M) = some (v', m') := by
        unfold fX3_wringSet
        rw [show (0 : Int32) = nI 0 from rfl] at a1 ⊢
        rw [a1, bsome]
        rcases a2 with rfl | rfl <;> rfl
      have e3 := (e2 (some (v', z', m'))).mpr (by rw [if_neg hne, e5, bsome])
      rw [show (nI 0 : Int32) = 0 from rfl] at a3
      rw [a3, bsome, e3, bsome, if_neg hne, bsome, if_pos rfl]
      exact ⟨_, _, _, _, _, _, _, _, rfl, hz', a4.mono (by omega)⟩
  · rw [if_neg (nI_nle (by omega) (by omega))]
    have e6 : fX4_stackOf N v (nI s) 0 = some (nI (hgt v B (nI s))) := by
      unfold fX4_stackOf
      rw [ccs N hs, bsome, if_pos rfl, X3_heightOf hN0 h.b (by omega)]
      rfl
    rw [e6, bsome, if_neg (nI_nle (by omega) (by omega))]
    exact ⟨_, _, _, _, _, _, _, _, rfl, hz, h.mono (by omega)⟩
end MK
