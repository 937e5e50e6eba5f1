/-! side by side: settings, stacks, undo, snapshots -/
section SIN
variable {N q : Nat} {v : VS} {z : VV} {tx : VT} {n0 n1 : Option VS} {m : VM}
theorem sim_wring (hN0 : 2097152 ≤ N) (hq : q ≤ 900000) (h : SM q v z tx n0 n1 m) (p1 p2 : Int32) : RsA q (q + 400) v z tx n0 n1 [(3, 1)] (fX4_wring N v z p1 p2) (fX5_wring N m p1 p2) := by
  obtain ⟨B, h1, h2, h3⟩ := h.1
  have hl := h1.le
  unfold fX4_wring fX5_wring
  rw [cstk, bsome, isStk, bsome, cblk N h1.b hl, bsome, th0, isB5 N h1, bsome, fls, bsome]
  by_cases c1 : 0 ≤ p1 ∧ p1 ≤ 2
  · rw [if_pos c1, ser, if_pos (decide_eq_true c1)]
    by_cases c2 : 0 ≤ p2.toInt ∧ p2.toInt < B
    · rw [if_pos c2, ser, if_pos (decide_eq_true c2)]
      obtain ⟨b, hb, rfl⟩ := blk c2
      obtain ⟨z', n, e1, e2, e3⟩ := sm_push hN0 h
      obtain ⟨v2, r, o1, o2, o3, o4, o5⟩ := wring_same (m := mS1 m n) hN0 h1 h2 (stk3 c1) hb
      rw [e1, bsome, o1, bsome, e2, bsome, o2, bsome]
      exact .inr ⟨_, z', _, _, rfl, rfl, rfl, e3 (q + 400) _ _ (by omega) ⟨B, o3, o4, (h3.rub (by omega) o5).mono (by omega)⟩⟩
    · rw [if_neg c2, sel, if_neg (fun z => c2 (of_decide_eq_true z))]
      exact .inl ⟨3, 1, _, _, by decide, rfl, rfl, rfl, h.th 1⟩
  · rw [if_neg c1, sel, if_neg (fun z => c1 (of_decide_eq_true z))]
    exact .inl ⟨3, 1, _, _, by decide, rfl, rfl, rfl, h.th 1⟩
theorem sim_takeOff (hN0 : 2097152 ≤ N) (hq : q ≤ 900000) (h : SM q v z tx n0 n1 m) (p1 : Int32) : RsA q (q + 400) v z tx n0 n1 [(3, 1), (2, 2)] (fX4_takeOff N v z p1) (fX5_takeOff N m p1) := by
  obtain ⟨B, h1, h2, h3⟩ := h.1
  have hl := h1.le
  have h5 : fX5_height N (mTh m 0) p1 = some (nI (hgt v B p1)) := X5_height (m := mTh m 0) hN0 h1 p1
  have hh := hgt_le v B p1
  unfold fX4_takeOff fX5_takeOff
  rw [cstk, bsome, isStk, bsome, X3_heightOf hN0 h1.b hl, bsome, th0, h5, bsome, fls, fls, bsome, bsome]
  by_cases c1 : 0 ≤ p1 ∧ p1 ≤ 2
  · rw [if_pos c1, ser, if_pos (decide_eq_true c1)]
    rcases Nat.eq_zero_or_pos (hgt v B p1) with c | c
    · rw [c, if_pos (show nI 0 = (0 : Int32) from rfl), if_pos (show nI 0 = (0 : Int32) from rfl)]
      exact .inl ⟨2, 2, _, _, by decide, rfl, rfl, rfl, h.th 2⟩
    · rw [if_neg (nI_ne0 c (by omega)), if_neg (nI_ne0 c (by omega))]
      obtain ⟨k, hk⟩ : ∃ k, hgt v B p1 = k + 1 := ⟨hgt v B p1 - 1, by omega⟩
      obtain ⟨z', n, e1, e2, e3⟩ := sm_push hN0 h
      obtain ⟨v2, r, b, o1, o2, o3, o4, o5, o6⟩ := off_same (m := mS1 m n) hN0 h1 h2 (stk3 c1) hk
      rw [e1, bsome, o2, bsome, e2, bsome, o3, bsome]
      exact .inr ⟨_, z', _, _, rfl, rfl, rfl, e3 (q + 400) _ _ (by omega) ⟨B, o4, o5, (h3.rub (by omega) o6).mono (by omega)⟩⟩
  · rw [if_neg c1, sel, if_neg (fun z => c1 (of_decide_eq_true z))]
    exact .inl ⟨3, 1, _, _, by decide, rfl, rfl, rfl, h.th 1⟩
theorem set_bd {B : Nat} (hd : BD B q v) {j : Nat} (hj : j < 4) {x : Int32} (h0 : 0 ≤ x) (hx : x ≤ stM j) : BD B q (uS v (upd (sS v) j x)) := by
  obtain ⟨d1, d2, d3, d4, d5, d6, d7, d8⟩ := hd
  rw [fa_le, z0] at h0
  rcases (show j = 0 ∨ j = 1 ∨ j = 2 ∨ j = 3 by omega) with rfl | rfl | rfl | rfl
  · have e : (stM 0).toInt = 60 := by decide +kernel
    rw [fa_le, e] at hx
    exact ⟨d1, d2, d3, d4, ⟨h0, hx⟩, d6, d7, d8⟩
  · have e : (stM 1).toInt = 1000 := by decide +kernel
    rw [fa_le, e] at hx
    exact ⟨d1, d2, d3, d4, d5, ⟨h0, hx⟩, d7, d8⟩
  · have e : (stM 2).toInt = 20 := by decide +kernel
    rw [fa_le, e] at hx
    exact ⟨d1, d2, d3, d4, d5, d6, ⟨h0, hx⟩, d8⟩
  · have e : (stM 3).toInt = 200 := by decide +kernel
    rw [fa_le, e] at hx
    exact ⟨d1, d2, d3, d4, d5, d6, d7, ⟨h0, hx⟩⟩
theorem rg3 {x : Int32} (h : 0 ≤ x ∧ x ≤ 3) : ∃ j, j < 4 ∧ x = nI j := by
  rw [fa_le, fa_le, z0, show (3 : Int32).toInt = 3 from by decide +kernel] at h
  obtain ⟨j, hj, rfl⟩ := nI_of (x := x) (fun q => by rw [fa_lt, z0] at q; omega)
  rw [nI_toInt hj] at h
  exact ⟨j, by omega, rfl⟩
theorem maySet (N : Nat) {j : Nat} (hj : j < 4) (x : Int32) : fX5_maySet N (nI j) x = some (decide (0 ≤ x ∧ x ≤ stM j)) := by
  unfold fX5_maySet
  rw [in_n, in_n, in_n, in_n, bsome, bsome, bsome, bsome]
  rcases (show j = 0 ∨ j = 1 ∨ j = 2 ∨ j = 3 by omega) with rfl | rfl | rfl | rfl <;> rfl
theorem ckr {α : Type} {i : Nat} {X : Option α} (h : i < 149) : ck (nI i) 149 X = X := ck_n h (by decide)
theorem sim_set (hN0 : 2097152 ≤ N) (h : SM q v z tx n0 n1 m) (p1 p2 : Int32) : RsA q q v z tx n0 n1 [(3, 1), (1, 2)] (fX4_set N v z p1 p2) (fX5_set N m p1 p2) := by
  obtain ⟨B, h1, h2, h3⟩ := h.1
  unfold fX4_set fX5_set
  rw [cset, bsome, in_n, bsome, th0, fls, fls, bsome, bsome]
  by_cases c1 : 0 ≤ p1 ∧ p1 ≤ 3
  · rw [if_pos c1, ser, if_pos (decide_eq_true c1)]
    obtain ⟨j, hj, rfl⟩ := rg3 c1
    rw [ckI hj (by decide), nI_clamp (by omega), cr, bsome, maySet N hj, bsome]
    by_cases c2 : 0 ≤ p2 ∧ p2 ≤ stM j
    · obtain ⟨z', n, e1, e2, e3⟩ := sm_push hN0 h
      rw [if_pos c2, ser, if_pos (decide_eq_true c2), e1, bsome, ckI hj (by decide), ckI hj (by decide), e2, bsome, ckr (by omega), ckr (by omega)]
      refine .inr ⟨_, z', _, _, rfl, ?_, rfl, e3 q _ _ (Nat.le_refl q) ⟨B, h1.uS hj p2, h2, set_bd h3 hj c2.1 c2.2⟩⟩
      show some (mR (mS1 m n) (upd (mRow m) j p2), mRow m j) = _
      rw [← h1.2.1 j hj]
    · rw [if_neg c2, sel, if_neg (fun z => c2 (of_decide_eq_true z))]
      exact .inl ⟨1, 2, _, _, by decide, rfl, rfl, rfl, h.th 2⟩
  · rw [if_neg c1, sel, if_neg (fun z => c1 (of_decide_eq_true z))]
    exact .inl ⟨3, 1, _, _, by decide, rfl, rfl, rfl, h.th 1⟩
theorem make_loop (hN0 : 2097152 ≤ N) {B M : Nat} (hl : B ≤ 20) {s : Int32} (hs : St3 s) (hM : M < 2 ^ 31) : ∀ k i v m q t f g, i + k = B → k + 1 < f → k + 2 < g → q + 20 * k ≤ 900000 → RS B v (mRow m) → SKf B (sK v) (sP v) → BD B q v →
    ∃ u v2 r2 x, lX3_wringSet_5 N s (nI M) f v t (nI i) = some u ∧ (u = .inl (v2, x) ∨ u = .inr (v2, x)) ∧ lX5_makeNow_21 N s (nI M) g m t 1 (nI i) = some (mR m r2, x) ∧ RS B v2 r2 ∧ SKf B (sK v2) (sP v2) ∧ BD B (q + 20 * k) v2 := by
  intro k
  induction k with
  | zero =>
    intro i v m q t f g hi hf hg hq h1 h2 h3
    obtain ⟨f, rfl⟩ : ∃ x, f = x + 1 := ⟨f - 1, by omega⟩
    obtain ⟨g, rfl⟩ : ∃ x, g = x + 1 := ⟨g - 1, by omega⟩
    have e : i = B := by omega
    subst e
    rw [lX3_wringSet_5, h1.b, if_pos (Int32.le_refl _), lX5_makeNow_21, ck8, cl8, h1.r8, if_pos (Int32.le_refl _)]
    exact ⟨_, v, mRow m, t, rfl, .inl rfl, rfl, h1, h2, h3⟩
  | succ k ih =>
    intro i v m q t f g hi hf hg hq h1 h2 h3
    obtain ⟨f, rfl⟩ : ∃ x, f = x + 1 := ⟨f - 1, by omega⟩
    obtain ⟨g, rfl⟩ : ∃ x, g = x + 1 := ⟨g - 1, by omega⟩
    have hiB : i < B := by omega
    rw [lX3_wringSet_5, h1.b, if_neg (nI_ge hiB (by omega)), lX5_makeNow_21, ck8, cl8, h1.r8, if_neg (nI_ge hiB (by omega)), if_neg (show ¬ (1 : Int32) = 0 by decide)]
    cases c : M.testBit i with
    | false =>
      rw [if_pos ((bit_at0 hM (by omega)).mpr c), if_neg (fun z => by rw [(bit_at1 hM (by omega)).mp z] at c; cases c), nI_1]
      obtain ⟨u, v2, r2, x, i1, i2, i3, i4, i5, i6⟩ := ih (i + 1) v m q t f g (by omega) (by omega) (by omega) (by omega) h1 h2 h3
      exact ⟨u, v2, r2, x, i1, i2, i3, i4, i5, i6.mono (by omega)⟩
    | true =>
      obtain ⟨v', r, o1, o2, o3, o4, o5⟩ := wring_same (m := m) hN0 h1 h2 hs hiB
      have hb := h3.rub (by omega) o5
      rw [if_neg (fun z => by rw [(bit_at0 hM (by omega)).mp z] at c; cases c), if_pos ((bit_at1 hM (by omega)).mpr c), o1, bsome, o2, bsome]
      simp only [d10, d00, if_false, if_true]
      by_cases c2 : rsn v B s i = 0
      · rw [if_pos c2, if_pos c2, nI_1]
        obtain ⟨u, v2, r2, x, i1, i2, i3, i4, i5, i6⟩ := ih (i + 1) v' (mR m r) (q + 20) (t + 1) f g (by omega) (by omega) (by omega) (by omega) o3 o4 hb
        exact ⟨u, v2, r2, x, i1, i2, i3, i4, i5, i6.mono (by omega)⟩
      · rw [if_neg c2, if_neg c2]
        obtain ⟨g, rfl⟩ : ∃ x, g = x + 1 := ⟨g - 1, by omega⟩
        refine ⟨_, v', r, t, rfl, .inr rfl, ?_, o3, o4, hb.mono (by omega)⟩
        rw [lX5_makeNow_21, ck8, cl8, Int32.add_zero, if_pos (show (0 : Int32) = 0 from rfl)]
        split <;> rfl
theorem sim_make (hN0 : 2097152 ≤ N) (hq : q ≤ 800000) (h : SM q v z tx n0 n1 m) (p1 p2 : Int32) : RsA q (q + 400) v z tx n0 n1 [(3, 1), (1, 2), (2, 3)] (fX4_make N v z p1 p2) (fX5_make N m p1 p2) := by
  obtain ⟨B, h1, h2, h3⟩ := h.1
  have hl := h1.le
  have h5 : fX5_height N (mTh m 0) p1 = some (nI (hgt v B p1)) := X5_height (m := mTh m 0) hN0 h1 p1
  have hh := hgt_le v B p1
  unfold fX4_make fX5_make
  rw [cstk, bsome, isStk, bsome, clen, bsome, isLen, bsome, X3_heightOf hN0 h1.b hl, bsome, th0, h5, bsome, fls, fls, fls, bsome, bsome, bsome]
  by_cases c1 : 0 ≤ p1 ∧ p1 ≤ 2
  · rw [if_pos c1, ser, if_pos (decide_eq_true c1)]
    by_cases c2 : 500 ≤ p2 ∧ p2 ≤ 600000
    · rw [if_pos c2, ser, if_pos (decide_eq_true c2)]
      rcases Nat.eq_zero_or_pos (hgt v B p1) with c | c
      · obtain ⟨z', n, e1, e2, e3⟩ := sm_push hN0 h
        obtain ⟨r, f, cc, f1, f2, f3⟩ := few_same (m := mS1 m n) hN0 h1 h3 p2
        rw [c, if_pos (show nI 0 = (0 : Int32) from rfl), if_pos (show nI 0 ≤ (0 : Int32) by decide), e1, bsome, f1, bsome, e2, bsome]
        unfold fX5_makeNow
        rw [f2, bsome]
        rcases f3 with rfl | ⟨M, rfl, m1, m2, m3, m4⟩
        · rw [if_pos rfl, if_pos rfl]
          exact .inr ⟨_, z', _, _, rfl, rfl, rfl, e3 (q + 400) v (mRow m) (by omega) (h.1.mono (by omega))⟩
        · have hne : ¬ nI M = 0 := nI_ne0 m1 (by omega)
          obtain ⟨u, v2, r2, x, i1, i2, i3, i4, i5, i6⟩ := make_loop hN0 hl (M := M) (stk3 c1) (by omega) B 0 v (mF (mS1 m n) f cc) q 0 N N (by omega) (by omega) (by omega) (by omega) h1 h2 h3
          have ec : fX3_wringSet N v p1 (nI M) = some (v2, x) := by
            unfold fX3_wringSet
            rw [show lX3_wringSet_5 N p1 (nI M) N v 0 0 = some u from i1]
            rcases i2 with rfl | rfl <;> rfl
          have em : lX5_makeNow_21 N p1 (nI M) N (mF (mS1 m n) f cc) 0 1 0 = some (mR (mF (mS1 m n) f cc) r2, x) := i3
          rw [if_neg hne, ec, bsome, if_neg (show ¬ (mF (mS1 m n) f cc, nI M).2 = 0 from hne), em, bsome]
          exact .inr ⟨_, z', _, _, rfl, rfl, rfl, e3 (q + 400) v2 r2 (by omega) ⟨B, i4, i5, i6.mono (by omega)⟩⟩
      · rw [if_neg (nI_ne0 c (by omega)), if_neg (nI_nle c (by omega))]
        exact .inl ⟨2, 3, _, _, by decide, rfl, rfl, rfl, h.th 3⟩
    · rw [if_neg c2, sel, if_neg (fun z => c2 (of_decide_eq_true z))]
      exact .inl ⟨1, 2, _, _, by decide, rfl, rfl, rfl, h.th 2⟩
  · rw [if_neg c1, sel, if_neg (fun z => c1 (of_decide_eq_true z))]
    exact .inl ⟨3, 1, _, _, by decide, rfl, rfl, rfl, h.th 1⟩
theorem sim_undo (hN0 : 2097152 ≤ N) (h : SM q v z tx n0 n1 m) : RsA q q v z tx n0 n1 [(2, 1)] (fX4_undo N v z) (fX5_undo N m) := by
  obtain ⟨h1, ⟨n, ⟨k1, k2, k3⟩, h3⟩, h4, h5⟩ := h
  unfold fX4_undo fX5_undo
  rw [k2, th0, fls, bsome, h3]
  rcases Nat.eq_zero_or_pos n with c | c
  · subst c
    rw [if_pos (show nI 0 = (0 : Int32) from rfl), if_pos (show nI 0 = (0 : Int32) from rfl)]
    exact .inl ⟨2, 1, _, _, by decide, rfl, rfl, rfl, h1, ⟨0, ⟨k1, k2, k3⟩, h3⟩, h4, h5⟩
  · obtain ⟨n, rfl⟩ : ∃ x, n = x + 1 := ⟨n - 1, by omega⟩
    rw [if_neg (nI_ne0 c (by omega)), if_neg (nI_ne0 c (by omega)), popInto_n N (by omega) k2, bsome, nI_pred]
    have hu := X5_undo_30 (m := mSv (mTh m 0) (mSav m) (nI n)) hN0 (n := n) (by omega) rfl
    show RsA q q v z tx n0 n1 _ _ ((lX5_undo_30 N N (mSv (mTh m 0) (mSav m) (nI n)) 0).bind _)
    rw [hu, bsome]
    refine .inr ⟨_, vLess z n, _, _, rfl, rfl, rfl, ?_, ⟨n, ⟨by omega, rfl, fun j hj => ?_⟩, rfl⟩, h4, h5⟩
    · exact ((k3 n (by omega)).cong (fun i hi => by
        show fb_put (mRow m) (fun i => mSav m (149 * n + i)) 0 149 i = mSav m (149 * n + i)
        rw [fb_put_in (by omega) (by omega)]
        rfl)).cpy v
    · exact k3 j (by omega)
theorem snp_keep (hN0 : 2097152 ≤ N) (m : VM) {s : Nat} (hs : s < 2) : lX5_keep_22 N (nI s) N m 0 = some (mSp m (fb_put (mSnp m) (mRow m) (149 * s) 149)) := by
  have h := for_seq (B := 149) (lX5_keep_22 N (nI s)) (fun i => mSp m (fb_put (mSnp m) (mRow m) (149 * s) i)) (mSp m (fb_put (mSnp m) (mRow m) (149 * s) 149)) (fun k => by rw [lX5_keep_22, if_pos (by decide)])
    (fun k i hi => by
      rw [lX5_keep_22, if_neg (show ¬ (149 : Int32) ≤ nI i from nI_ge (b := 149) hi (by decide)), ix149, ckr hi, ckI (by omega) (by decide), nI_clamp (by omega), nI_clamp (by omega)]
      have e : upd (fb_put (mSnp m) (mRow m) (149 * s) i) (149 * s + i) (mRow m i) = fb_put (mSnp m) (mRow m) (149 * s) (i + 1) := fb_put_succ _ _ _ _
      rw [← e]
      rfl) (n := N) 0 (by decide) (by omega)
  have e : mSp m (fb_put (mSnp m) (mRow m) (149 * s) 0) = m := by rw [fb_put_0]; rfl
  simp only [e] at h
  exact h
theorem snp_back (hN0 : 2097152 ≤ N) (m : VM) {s : Nat} (hs : s < 2) : lX5_goBack_41 N (nI s) N m 0 = some (mR m (fb_put (mRow m) (fun i => mSnp m (149 * s + i)) 0 149)) := by
  have h := for_seq (B := 149) (lX5_goBack_41 N (nI s)) (fun i => mR m (fb_put (mRow m) (fun i => mSnp m (149 * s + i)) 0 i)) (mR m (fb_put (mRow m) (fun i => mSnp m (149 * s + i)) 0 149)) (fun k => by rw [lX5_goBack_41, if_pos (by decide)])
    (fun k i hi => by
      rw [lX5_goBack_41, if_neg (show ¬ (149 : Int32) ≤ nI i from nI_ge (b := 149) hi (by decide)), ix149, ckI (by omega) (by decide), ckr hi, nI_clamp (by omega), nI_clamp (by omega)]
      have e : upd (fb_put (mRow m) (fun i => mSnp m (149 * s + i)) 0 i) i (mSnp m (149 * s + i)) = fb_put (mRow m) (fun i => mSnp m (149 * s + i)) 0 (i + 1) := by
        have q := fb_put_succ (mRow m) (fun i => mSnp m (149 * s + i)) 0 i
        rw [Nat.zero_add] at q
        exact q
      rw [← e]
      rfl) (n := N) 0 (by decide) (by omega)
  have e : mR m (fb_put (mRow m) (fun i => mSnp m (149 * s + i)) 0 0) = m := by rw [fb_put_0]; rfl
  simp only [e] at h
  exact h
theorem rg1 {x : Int32} (h : 0 ≤ x ∧ x ≤ 1) : x = 0 ∨ x = 1 := by
  rw [fa_le, fa_le, z0, show (1 : Int32).toInt = 1 from by decide +kernel] at h
  obtain ⟨j, hj, rfl⟩ := nI_of (x := x) (fun q => by rw [fa_lt, z0] at q; omega)
  rw [nI_toInt hj] at h
  rcases (show j = 0 ∨ j = 1 by omega) with rfl | rfl
  · exact .inl rfl
  · exact .inr rfl
theorem nar1 : vp_nar .boolean 1 = 1 := by decide +kernel
def RsK (q : Nat) (v : VS) (z : VV) (tx : VT) (n0 n1 : Option VS) (X : Option (Nat ⊕ (Option VS × Option VS × Int32))) (Y : Option (VM × Int32)) : Prop :=
  (∃ m' b, X = some (.inl 1) ∧ Y = some (m', b) ∧ mThr m' = nI 1 ∧ SM q v z tx n0 n1 m') ∨ ∃ a0 a1 x m', X = some (.inr (a0, a1, x)) ∧ Y = some (m', x) ∧ mThr m' = 0 ∧ SM q v z tx a0 a1 m'
theorem sim_keep (hN0 : 2097152 ≤ N) (h : SM q v z tx n0 n1 m) (p1 : Int32) : RsK q v z tx n0 n1 (fX4_keep N v n0 n1 p1) (fX5_keep N m p1) := by
  have h' := h
  obtain ⟨h1, h2, h3, h4, h5⟩ := h
  obtain ⟨B, g1, g2, g3⟩ := h1
  unfold fX4_keep fX5_keep
  rw [cr, bsome, in_n, bsome, th0, fls, bsome]
  by_cases c1 : 0 ≤ p1 ∧ p1 ≤ 1
  · rw [if_pos c1, ser, if_pos (decide_eq_true c1), X3_copyFrom, X3_copyFrom, bsome, bsome]
    rcases rg1 c1 with rfl | rfl
    · have hk := snp_keep hN0 (mTh m 0) (s := 0) (by decide)
      rw [if_pos rfl, show (0 : Int32) = nI 0 from rfl, show lX5_keep_22 N (nI 0) N (mTh m (nI 0)) (nI 0) = _ from hk, bsome, ckI (by decide) (by decide), ck8, cl8, nI_clamp (by decide)]
      refine .inr ⟨_, n1, _, mKe (mSp (mTh m 0) (fb_put (mSnp m) (mRow m) (149 * 0) 149)) (upd (mKep m) 0 (vp_nar .boolean 1)), rfl, ?_, rfl, h'.1, h2, h3, ⟨?_, ?_⟩, ?_⟩
      · show some (_, mRow m 8) = some (_, sB v)
        rw [g1.r8, g1.b]
        rfl
      · show ¬ upd (mKep m) 0 (vp_nar .boolean 1) 0 = 0
        rw [pk_us, nar1]; decide
      · exact (h'.1.cong (fun i hi => by
          show fb_put (mSnp m) (mRow m) (149 * 0) 149 i = mRow m i
          rw [fb_put_in (by omega) (by omega)]; rfl)).cpy _
      · show SN1 q n1 (upd (mKep m) 0 (vp_nar .boolean 1) 1) (fun i => fb_put (mSnp m) (mRow m) (149 * 0) 149 (149 + i))
        rw [pk_un (by decide)]
        have e : (fun i => fb_put (mSnp m) (mRow m) (149 * 0) 149 (149 + i)) = fun i => mSnp m (149 + i) := funext (fun i => fb_put_out (by omega))
        rw [e]
        exact h5
    · have hk := snp_keep hN0 (mTh m 0) (s := 1) (by decide)
      rw [if_neg (show ¬ (1 : Int32) = 0 by decide), show (0 : Int32) = nI 0 from rfl, show lX5_keep_22 N 1 N (mTh m (nI 0)) (nI 0) = _ from hk, bsome, show (1 : Int32) = nI 1 from rfl, ckI (by decide) (by decide), ck8, cl8, nI_clamp (by decide)]
      refine .inr ⟨n0, _, _, mKe (mSp (mTh m 0) (fb_put (mSnp m) (mRow m) (149 * 1) 149)) (upd (mKep m) 1 (vp_nar .boolean 1)), rfl, ?_, rfl, h'.1, h2, h3, ?_, ⟨?_, ?_⟩⟩
      · show some (_, mRow m 8) = some (_, sB v)
        rw [g1.r8, g1.b]
        rfl
      · show SN1 q n0 (upd (mKep m) 1 (vp_nar .boolean 1) 0) (fb_put (mSnp m) (mRow m) (149 * 1) 149)
        rw [pk_un (by decide)]
        cases n0 with
        | none => exact h4
        | some s => exact ⟨h4.1, h4.2.cong (fun i hi => fb_put_out (by omega))⟩
      · show ¬ upd (mKep m) 1 (vp_nar .boolean 1) 1 = 0
        rw [pk_us, nar1]; decide
      · exact (h'.1.cong (fun i hi => by
          show fb_put (mSnp m) (mRow m) (149 * 1) 149 (149 + i) = mRow m i
          rw [fb_put_in (by omega) (by omega)]
          exact congrArg (mRow m) (by omega))).cpy _
  · rw [if_neg c1, sel, if_neg (fun z => c1 (of_decide_eq_true z))]
    exact .inl ⟨_, _, rfl, rfl, rfl, h'.th 1⟩
theorem sim_goBack (hN0 : 2097152 ≤ N) (h : SM q v z tx n0 n1 m) (p1 : Int32) : RsA q q v z tx n0 n1 [(1, 1), (2, 2)] (fX4_goBack N v z n0 n1 p1) (fX5_goBack N m p1) := by
  have h' := h
  obtain ⟨h1, h2, h3, h4, h5⟩ := h
  unfold fX4_goBack fX5_goBack
  rw [cr, bsome, in_n, bsome, th0, fls, fls, bsome, bsome]
  by_cases c1 : 0 ≤ p1 ∧ p1 ≤ 1
  · rw [if_pos c1, ser, if_pos (decide_eq_true c1)]
    obtain ⟨z', n, e1, e2, e3⟩ := sm_push hN0 h'
    have fin : ∀ s : Nat, s < 2 → ∀ (o : Option VS), SN1 q o (mKep m s) (fun i => mSnp m (149 * s + i)) →
        RsA q q v z tx n0 n1 [(1, 1), (2, 2)] (match o with | none => some (.inl 2) | some s => (fX2_push N v z).bind fun z' => (fX3_copyFrom N v s).bind fun c => some (.inr (c, z', sB c))) (ck (nI s) 2 (if mKep m (nI s).toNatClampNeg = 0 then some (mTh m 2, 0) else (fX5_save N (mTh m 0)).bind fun r2 => (lX5_goBack_41 N (nI s) N r2 0).bind fun r3 => ck 8 149 (some (r3, mRow r3 (Int32.toNatClampNeg 8))))) := fun s hs o ho => by
      rw [ckI hs (by decide), nI_clamp (by omega)]
      cases o with
      | none =>
        rw [if_pos (show mKep m s = 0 from ho)]
        exact .inl ⟨2, 2, _, _, by decide, rfl, rfl, rfl, h'.th 2⟩
      | some w =>
        obtain ⟨k1, k2⟩ := ho
        have hb := snp_back hN0 (mS1 m n) hs
        have hc : SS q (cpy v w) (fb_put (mRow m) (fun i => mSnp m (149 * s + i)) 0 149) := (k2.cong (fun i hi => by
          show fb_put (mRow m) (fun i => mSnp m (149 * s + i)) 0 149 i = mSnp m (149 * s + i)
          rw [fb_put_in (by omega) (by omega)]; rfl)).cpy v
        obtain ⟨B, b1, b2, b3⟩ := hc
        rw [if_neg k1, e2, bsome, hb, bsome, ck8, cl8]
        refine .inr ⟨cpy v w, z', _, _, ?_, rfl, rfl, e3 q _ _ (Nat.le_refl q) ⟨B, b1, b2, b3⟩⟩
        show ((fX2_push N v z).bind fun z' => (fX3_copyFrom N v w).bind fun c => some (Sum.inr (c, z', sB c))) = (_ : Option (Nat ⊕ (VS × VV × Int32)))
        rw [e1, bsome, X3_copyFrom, bsome]
        have e8 : fb_put (mRow m) (fun i => mSnp m (149 * s + i)) 0 149 8 = sB (cpy v w) := by rw [b1.r8, b1.b]
        rw [← e8]
        rfl
    rcases rg1 c1 with rfl | rfl
    · exact fin 0 (by decide) n0 (by
        have e : (fun i => mSnp m (149 * 0 + i)) = mSnp m := funext (fun i => congrArg (mSnp m) (by omega))
        rw [e]; exact h4)
    · exact fin 1 (by decide) n1 h5
  · rw [if_neg c1, sel, if_neg (fun z => c1 (of_decide_eq_true z))]
    exact .inl ⟨1, 1, _, _, by decide, rfl, rfl, rfl, h'.th 1⟩
end SIN
