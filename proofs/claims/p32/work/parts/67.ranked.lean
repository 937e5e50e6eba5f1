/-! orders by ranks, the different lengths: the class answers as the law's case says -/
section RK
variable {N B q : Nat} {v : VS} {z : VV} {tx : VT} {gl ge gw gh gt gn gp : Nat → Int32}
theorem nbf_B (v : VS) (how : Int32) {b : Nat} (hb : b < B) : nbf v how B b < B := by
  have h1 : nbf v how B b ≤ B := fb_ct_le _ B
  rcases Nat.eq_or_lt_of_le h1 with c | c
  · have h2 := fb_ct_all.mp c b hb
    have h3 := bef_iff.mp h2
    omega
  · exact c
theorem rank_at (v : VS) (how : Int32) {r : Nat} (hr : r < B) : ∃ b, b < B ∧ nbf v how B b = r :=
  fb_onto (f := nbf v how B) (fun i hi => nbf_B v how hi) (fun i j hij hj e => by
    have := nbf_inj v how (by omega) hj e
    omega) hr
theorem c_rank (hN0 : 2097152 ≤ N) (h : LI B q v gl ge gw gh gt gn gp) (hq : q ≤ 1000000) {how : Int32} (hh : How how) (r : Nat) (hr : r ≤ 20) : (∃ b, b < B ∧ nbf v how B b = r ∧ fX4_ranked N v how (nI r) = some (nI b)) ∨ (B ≤ r ∧ fX4_ranked N v how (nI r) = some (-1)) := by
  have hl := h.le
  have h1 := for_find (B := B) (lX0_blockOfRank_2 N v how (nI r)) (fun b => nbf v how B b = r) (.inl ()) (fun b => .inr (nI b))
    (fun n => by rw [lX0_blockOfRank_2, h.b, if_pos (Int32.le_refl _)])
    (fun n i hi c => by rw [lX0_blockOfRank_2, h.b, if_neg (nI_ge hi (by omega)), X0_manyBefore hN0 h.b (by omega) hq h.2.2.2 hh hi, bsome, if_pos (by rw [c])])
    (fun n i hi c => by
      have := nbf_B v how hi
      rw [lX0_blockOfRank_2, h.b, if_neg (nI_ge hi (by omega)), X0_manyBefore hN0 h.b (by omega) hq h.2.2.2 hh hi, bsome, if_neg (fun e => c ((nI_eq (by omega) (by omega)).mp e))]) (n := N) (by omega)
  have hc : fX4_checkRange N how 0 2 = some () := by
    rcases hh with rfl | rfl | rfl
    · exact ccr N (by decide) (by decide)
    · exact ccr N (by decide) (by decide)
    · exact ccr N (by decide) (by decide)
  have hc2 : fX4_checkLeast N (nI r) 0 = some () := by
    unfold fX4_checkLeast
    rw [if_pos (show (0 : Int32) ≤ nI r from nI_le (a := 0) (by omega) (by omega))]
  have ex : ∀ u, lX0_blockOfRank_2 N v how (nI r) N 0 = some u → fX4_ranked N v how (nI r) = Sum.elim (fun (_ : Unit) => some (-1 : Int32)) (fun y => some y) u := fun u e => by
    unfold fX4_ranked fX0_blockOfRank
    rw [hc, bsome, hc2, bsome, e, bsome]
    cases u <;> rfl
  rcases h1 with ⟨b, b1, b2, -, b4⟩ | ⟨b1, b2⟩
  · exact .inl ⟨b, b1, b2, by rw [ex _ b4]; rfl⟩
  · refine .inr ⟨?_, by rw [ex _ b2]; rfl⟩
    rcases Nat.lt_or_ge r B with c | c
    · obtain ⟨b, c1, c2⟩ := rank_at v how c
      exact absurd c2 (b1 b c1)
    · exact c
def kyL (v : VS) (how : Int32) (b : Nat) : Int32 := if how = 0 then 1000000 - sN v b else if how = 1 then sH v b else jabs (err v b)
theorem L_key (h : LI B q v gl ge gw gh gt gn gp) (how : Int32) {b : Nat} (hb : b < B) : fL_key N gl ge gw gh how (nI b) = some (kyL v how b) := by
  have hl := h.le
  have cI : ∀ {α : Type} (X : Option α), ck (nI b) 10 X = X := fun X => ckI (by omega) (by decide)
  have kI : (nI b).toNatClampNeg = b := nI_clamp (by omega)
  unfold fL_key kyL
  simp only [cI, kI]
  rw [h.l hb, h.h hb, h.err hb, L_size, bsome]
  (repeat' split) <;> rfl
theorem kyL_I (h : LI B q v gl ge gw gh gt gn gp) (hq : q ≤ 1000000) {how : Int32} (hh : How how) {b : Nat} (hb : b < B) : (kyL v how b).toInt = (if how = 0 then 1000000 else 0) - kI v how b ∧ (kyL v how b).toInt < 2000000 := by
  have hd := h.2.2.2
  have n1 := hd.1 b hb
  have n2 := hd.2.1 b hb
  have n3 := hd.2.2.1 b hb
  have n4 := hd.2.2.2.1 b hb
  rcases hh with rfl | rfl | rfl
  · have e : ((1000000 : Int32) - sN v b).toInt = 1000000 - (sN v b).toInt := by
      have m : (1000000 : Int32).toInt = 1000000 := by decide +kernel
      rw [fb_subI (by rw [m]; omega) (by rw [m]; omega), m]
    unfold kyL kI
    rw [if_pos rfl, if_pos rfl, if_pos rfl, e]
    omega
  · unfold kyL kI
    rw [if_neg (by decide), if_pos rfl, if_neg (by decide), if_neg (by decide), if_pos rfl]
    omega
  · have e := err_I (by omega) hd hb
    have e2 : (jabs (err v b)).toInt = aI (err v b).toInt := jabs_I (by rw [e]; omega)
    have e3 := aI_le (x := (err v b).toInt) (c := 1000900) (by rw [e]; omega) (by rw [e]; omega)
    unfold kyL kI
    rw [if_neg (by decide), if_neg (by decide), if_neg (by decide), if_neg (by decide), if_neg (by decide), e2]
    omega
theorem L_rank32 (hN0 : 2097152 ≤ N) (h : LI B q v gl ge gw gh gt gn gp) (hq : q ≤ 1000000) {how : Int32} (hh : How how) : lL_areRanked_32 N v gl ge gw gh gn gp how N 2000000 (-1) 1 0 = some 1 := by
  have hl := h.le
  have h1 : ∃ r, lL_areRanked_32 N v gl ge gw gh gn gp how N 2000000 (-1) 1 0 = some r ∧ r = 1 := by
   exact for_ex (α := Int32 × Int32) (B := B) (fun n a i => lL_areRanked_32 N v gl ge gw gh gn gp how n a.1 a.2 1 i)
    (fun i a => (i = 0 ∧ a = (2000000, -1)) ∨ ∃ c, c < B ∧ i = nbf v how B c + 1 ∧ a = (kyL v how c, nI c)) (fun r => r = 1)
    (fun n a _ => ⟨1, by rw [lL_areRanked_32, cn8, cl8, h.n8, if_pos (Int32.le_refl _)], rfl⟩)
    (fun n a i hi hI => .inl (by
      rcases c_rank hN0 h hq hh i (by omega) with ⟨b, b1, b2, b3⟩ | ⟨b1, -⟩
      · have k1 := kyL_I h hq hh b1
        rw [lL_areRanked_32, cn8, cl8, h.n8, if_neg (nI_ge hi (by omega)), if_neg (show ¬ (1 : Int32) = 0 by decide), b3, bsome, if_neg (show ¬ nI b < 0 from nI_nlt (b := 0) (by omega) (by omega)), cn8, if_neg (nI_ge b1 (by omega)), L_key h how b1, bsome, bsome, bsome]
        have key : ((if kyL v how b < a.1 then some () else (if kyL v how b = a.1 then (if nI b ≤ a.2 then none else some ()) else none)) : Option Unit) = some () := by
          rcases hI with ⟨-, rfl⟩ | ⟨c, c1, c2, rfl⟩
          · rw [if_pos ((fa_lt _ _).mpr (by rw [show (2000000 : Int32).toInt = 2000000 from by decide +kernel]; exact k1.2))]
          · have k2 := kyL_I h hq hh c1
            have nb : ¬ bef v how c b = true := fun z => by
              have := nbf_lt v how b1 z
              omega
            have nb2 : ¬ (kI v how b < kI v how c ∨ (kI v how b = kI v how c ∧ b < c)) := fun z => nb (bef_iff.mpr z)
            have bc : b ≠ c := fun z => by rw [z] at b2; omega
            by_cases c3 : kyL v how b < kyL v how c
            · rw [if_pos c3]
            · have c4 : kyL v how b = kyL v how c := by
                rw [fa_lt] at c3
                rw [fa_eq]
                omega
              have c5 := (fa_eq _ _).mp c4
              rw [if_neg c3, if_pos c4, if_neg (nI_ge (by omega) (by omega))]
        rw [key, bsome]
        exact ⟨(kyL v how b, nI b), rfl, .inr ⟨b, b1, by omega, rfl⟩⟩
      · omega)) (n := N) 0 (by omega) (by omega) (2000000, -1) (.inl ⟨rfl, rfl⟩)
  obtain ⟨r, e1, rfl⟩ := h1
  exact e1
/-- the law's search for the next longer length -/
def lbS (v : VS) (l : Int32) (i : Nat) (a : Int32) : Int32 := if fre v i = true then (if sN v i ≤ l then a else if a ≤ sN v i then a else sN v i) else a
theorem L_188 (hN0 : 2097152 ≤ N) (h : LI B q v gl ge gw gh gt gn gp) (l12 l13 : Int32) : lL_areRanked_188 N v gl ge gw gh gn gp (nI (mkb (fun b => decide (sK v b = -1)) B)) l12 l13 N 1000000 0 = some (rng (lbS v l13) B 1000000) := by
  have hl := h.le
  have hF : mkb (fun b => decide (sK v b = -1)) B < 2 ^ 31 := Nat.lt_of_lt_of_le (mkb_lt _ B) (Nat.pow_le_pow_right (by decide) (by omega))
  refine for_pure (B := B) (lL_areRanked_188 N v gl ge gw gh gn gp (nI (mkb (fun b => decide (sK v b = -1)) B)) l12 l13) (lbS v l13)
    (fun n a => by rw [lL_areRanked_188, cn8, cl8, h.n8, if_pos (Int32.le_refl _)])
    (fun n a i hi => by
      have cI : ∀ {α : Type} (X : Option α), ck (nI i) 10 X = X := fun X => ckI (by omega) (by decide)
      have kI : (nI i).toNatClampNeg = i := nI_clamp (by omega)
      have hbit : (mkb (fun b => decide (sK v b = -1)) B).testBit i = fre v i := by
        rw [mkb_bit, decide_eq_true hi]
        rfl
      rw [lL_areRanked_188, cn8, cl8, h.n8, if_neg (nI_ge hi (by omega))]
      simp only [cI, kI]
      rw [h.l hi]
      unfold lbS
      by_cases c : fre v i = true
      · rw [if_pos ((bit_at1 hF (by omega)).mpr (hbit.trans c)), if_pos c]
        (repeat' split) <;> rfl
      · rw [if_neg (fun z => c (hbit.symm.trans ((bit_at1 hF (by omega)).mp z))), if_neg c]) (by omega) _
theorem lb_sa (h : LI B q v gl ge gw gh gt gn gp) (l : Int32) : (rng (lbS v l) B 1000000 = 1000000 ∧ sa v B l = -1) ∨ (rng (lbS v l) B 1000000 = sa v B l ∧ sa v B l ≠ -1 ∧ sa v B l < 1000000) := by
  have hd := h.2.2.2
  refine rng_rel (fun _ (a b : Int32) => (a = 1000000 ∧ b = -1) ∨ (a = b ∧ b ≠ -1 ∧ b < 1000000)) (.inl ⟨rfl, rfl⟩) (fun i x y hi hR => ?_)
  obtain ⟨n1, n2, n3⟩ := hd.n hi
  have m1 : sN v i ≠ -1 := by rw [n1]; exact nI_m1 (by omega)
  have m2 : sN v i < 1000000 := by rw [n1]; exact nI_lt (b := 1000000) (by omega) (by decide)
  unfold lbS saS
  by_cases c : fre v i = true
  · rw [if_pos c, if_pos c]
    by_cases c2 : sN v i ≤ l
    · rw [if_pos c2, if_pos c2]; exact hR
    · rw [if_neg c2, if_neg c2]
      rcases hR with ⟨rfl, rfl⟩ | ⟨rfl, r1, r2⟩
      · rw [if_neg (Int32.not_le.mpr m2), if_pos rfl]
        exact .inr ⟨rfl, m1, m2⟩
      · rw [if_neg r1]
        by_cases c3 : x ≤ sN v i
        · rw [if_pos c3]; exact .inr ⟨rfl, r1, r2⟩
        · rw [if_neg c3]; exact .inr ⟨rfl, m1, m2⟩
  · rw [if_neg c, if_neg c]; exact hR
def prL (v : VS) (B : Nat) : Nat → Int32
  | 0 => 0
  | k + 1 => itL v B k
theorem prL_sa {k : Nat} (hk : ∀ j, j < k → itL v B j ≠ -1) : sa v B (prL v B k) = itL v B k := by
  cases k with
  | zero => rfl
  | succ k =>
    have := hk k (by omega)
    show sa v B (itL v B k) = itL v B (k + 1)
    rw [itL, if_neg this]
theorem c_len (hN0 : 2097152 ≤ N) (h : LI B q v gl ge gw gh gt gn gp) {k : Nat} (hk : k < 20) : fX4_lengths N v (nI k) = some (itL v B k) := by
  have hl := h.le
  have hc : fX4_checkLeast N (nI k) (-1) = some () := by
    unfold fX4_checkLeast
    rw [if_pos ((fa_le _ _).mpr (by rw [m1I, nI_toInt (by omega)]; omega))]
  unfold fX4_lengths
  rw [hc, bsome, if_neg (nI_m1 (by omega)), X0_lor hN0 h.b (by omega) hk]
  rfl
theorem L_171 (hN0 : 2097152 ≤ N) (h : LI B q v gl ge gw gh gt gn gp) {t : Nat} (ht : itL v B t = -1) (hj : ∀ j, j < t → itL v B j ≠ -1) (ht2 : t < 20) : lL_areRanked_171 N v gl ge gw gh gn gp (nI (mkb (fun b => decide (sK v b = -1)) B)) N 1 0 0 1 = some (1, nI t) := by
  have key : ∀ d k f, k + d = t → d + 1 < f → lL_areRanked_171 N v gl ge gw gh gn gp (nI (mkb (fun b => decide (sK v b = -1)) B)) f 1 (nI k) (prL v B k) 1 = some (1, nI t) := by
    intro d
    induction d with
    | zero =>
      intro k f hk hf
      obtain ⟨f, rfl⟩ : ∃ x, f = x + 1 := ⟨f - 1, by omega⟩
      obtain ⟨f, rfl⟩ : ∃ x, f = x + 1 := ⟨f - 1, by omega⟩
      have e : k = t := by omega
      subst e
      have e1 := prL_sa hj
      rcases lb_sa h (prL v B k) with ⟨a1, a2⟩ | ⟨a1, a2, a3⟩
      · rw [lL_areRanked_171, if_neg (show ¬ (1 : Int32) = 0 by decide), if_neg (show ¬ (1 : Int32) = 0 by decide), L_188 hN0 h, bsome, a1, if_pos (Int32.le_refl _), bsome, c_len hN0 h ht2, bsome, if_pos rfl, bsome, if_pos ht, if_pos rfl, i32_z, lL_areRanked_171, if_pos rfl]
      · exact absurd (e1.trans ht) a2
    | succ d ih =>
      intro k f hk hf
      obtain ⟨f, rfl⟩ : ∃ x, f = x + 1 := ⟨f - 1, by omega⟩
      have e1 := prL_sa (v := v) (B := B) (k := k) (fun j hj2 => hj j (by omega))
      have e2 := hj k (by omega)
      rcases lb_sa h (prL v B k) with ⟨a1, a2⟩ | ⟨a1, a2, a3⟩
      · exact absurd (e1.symm.trans a2) e2
      · rw [e1] at a1 a3
        rw [lL_areRanked_171, if_neg (show ¬ (1 : Int32) = 0 by decide), if_neg (show ¬ (1 : Int32) = 0 by decide), L_188 hN0 h, bsome, a1, if_neg (Int32.not_le.mpr a3), bsome, c_len hN0 h (by omega), bsome, if_neg (show ¬ (1 : Int32) = 0 by decide), bsome, if_pos rfl, if_neg (show ¬ (1 : Int32) = 0 by decide), nI_1]
        exact ih (k + 1) f (by omega) (by omega)
  exact key t 0 N (by omega) (by omega)
theorem L_areRanked (hN0 : 2097152 ≤ N) (h : LI B q v gl ge gw gh gt gn gp) (hq : q ≤ 1000000) {how : Int32} (hh : How how) : fL_areRanked N v gl ge gw gh gn gp how = some true := by
  have hl := h.le
  obtain ⟨t, t1, t2, t3, t4⟩ := X0_diff hN0 h.b (show B ≤ 20 by omega)
  have ht : t ≤ B := by
    rcases Nat.lt_or_ge B t with c | c
    · exact absurd (itL_end v B (Nat.le_refl B)) (t3 B c)
    · exact c
  have e1 : fX4_ranked N v how (nI B) = some (-1) := by
    rcases c_rank hN0 h hq hh B (by omega) with ⟨b, b1, b2, -⟩ | ⟨-, b2⟩
    · have := nbf_B v how b1
      omega
    · exact b2
  have e2 : fX4_lengths N v (-1) = some (nI t) := by
    unfold fX4_lengths fX4_checkLeast
    rw [if_pos (Int32.le_refl _), bsome, if_pos rfl, t1]
    rfl
  unfold fL_areRanked
  rw [cn8, cl8, h.n8, e1, bsome, if_pos rfl, L_rank32 hN0 h hq hh, bsome, L_free hN0 hl h.2.2.1 h.2.1 h.n8, bsome, L_171 hN0 h t2 t3 (by omega), bsome, if_neg (show ¬ (1 : Int32) = 0 by decide), e2, bsome, if_pos rfl]
end RK
