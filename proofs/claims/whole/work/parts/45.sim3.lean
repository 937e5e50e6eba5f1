/-! side by side: the buffer, and the questions -/
section SIT
variable {N q : Nat} {v : VS} {z : VV} {tx : VT} {n0 n1 : Option VS} {m : VM}
def RsT (q : Nat) (v : VS) (z : VV) (tx : VT) (n0 n1 : Option VS) (X : Option (Nat ⊕ (VT × Int32))) (Y : Option (VM × Int32)) : Prop :=
  (∃ e k m' b, (e, k) ∈ [(1, 1), (2, 2)] ∧ X = some (.inl e) ∧ Y = some (m', b) ∧ mThr m' = nI k ∧ SM q v z tx n0 n1 m') ∨ ∃ t x m', X = some (.inr (t, x)) ∧ Y = some (m', x) ∧ mThr m' = 0 ∧ SM q v z t n0 n1 m'
theorem sim_append (h : SM q v z tx n0 n1 m) (p1 : Int32) : RsT q v z tx n0 n1 (fX4_append N tx p1) (fX5_append N m p1) := by
  obtain ⟨h1, h2, ⟨L, l1, l2, l3, l4⟩, h5⟩ := h
  have h' : SM q v z tx n0 n1 m := ⟨h1, h2, ⟨L, l1, l2, l3, l4⟩, h5⟩
  unfold fX4_append fX5_append
  rw [cr, bsome, in_n, bsome, th0, fls, fls, bsome, bsome, l2, l3]
  by_cases c1 : 33 ≤ p1 ∧ p1 ≤ 126
  · rw [if_pos c1, ser, if_pos (decide_eq_true c1)]
    by_cases c2 : L = 60
    · subst c2
      rw [if_neg (show ¬ nI 60 < (60 : Int32) by decide), if_pos (show nI 60 = (60 : Int32) from rfl)]
      exact .inl ⟨2, 2, _, _, by decide, rfl, rfl, rfl, h'.th 2⟩
    · have c3 : ¬ nI L = 60 := fun z => c2 ((nI_eq (b := 60) (by omega) (by decide)).mp z)
      rw [if_pos (show nI L < 60 from nI_lt (b := 60) (by omega) (by decide)), if_neg c3]
      unfold fX1_addSign
      rw [l2, if_neg (show ¬ (60 : Int32) ≤ nI L from nI_ge (b := 60) (by omega) (by decide)), ck60 (by omega), ck60 (by omega), bsome, nI_1]
      refine .inr ⟨_, nI (L + 1), _, rfl, rfl, rfl, h1, h2, ⟨L + 1, by omega, rfl, rfl, fun i hi => ?_⟩, h5⟩
      show upd (tC tx) (nI L).toNatClampNeg p1 i = upd (mBuf m) (nI L).toNatClampNeg p1 i
      rw [nI_clamp (by omega)]
      rcases Nat.decEq i L with c | c
      · rw [pk_un c, pk_un c]; exact l4 i (by omega)
      · subst c; rw [pk_us, pk_us]
  · rw [if_neg c1, sel, if_neg (fun z => c1 (of_decide_eq_true z))]
    exact .inl ⟨1, 1, _, _, by decide, rfl, rfl, rfl, h'.th 1⟩
def mCl (m : VM) : VM := (mRow m, mSav m, mSvn m, mSnp m, mKep m, 0, mFre m, mFrn m, mBuf m, 0, mSpt m, mNum m, mOrd m, mLet m, mFst m, mSnd m, mTok m, mLft m)
theorem sim_clear (h : SM q v z tx n0 n1 m) : ∃ t x m', fX4_clearBuffer N tx = some (t, x) ∧ fX5_clearBuffer N m = some (m', x) ∧ SM q v z t n0 n1 m' := by
  obtain ⟨h1, h2, ⟨L, l1, l2, l3, l4⟩, h5⟩ := h
  refine ⟨_, tL tx, mCl m, rfl, ?_, h1, h2, ⟨0, by omega, rfl, rfl, fun i hi => by omega⟩, h5⟩
  unfold fX5_clearBuffer
  rw [l2, ← l3]
  rfl
theorem TXr.reg (h : TXr tx m) {t : VT} {m2 : VM} (h1 : tC t = tC tx) (h2 : tL t = tL tx) (h3 : mBuf m2 = mBuf m) (h4 : mLen m2 = mLen m) : TXr t m2 := by
  obtain ⟨L, l1, l2, l3, l4⟩ := h
  exact ⟨L, l1, h2.trans l2, h4.trans l3, fun i hi => by rw [h1, h3]; exact l4 i hi⟩
theorem sim_first (hN0 : 2097152 ≤ N) (h : SM q v z tx n0 n1 m) : ∃ t x m', fX4_firstError N tx = some (t, x) ∧ fX5_firstError N m = some (m', x) ∧ SM q v z t n0 n1 m' := by
  obtain ⟨h1, h2, ⟨L, l1, l2, l3, l4⟩, h5⟩ := h
  obtain ⟨tx2, A2, n, o, le, fi, se, res, e1, e2, e3, e4, e5, e6, e7, e8⟩ := read_same (m := mTh m 0) hN0 l1 l2 l3 l4
  refine ⟨tx2, nI A2, mPr (mTh m 0) (nI A2) n o le fi se, ?_, ?_, h1, h2, TXr.reg ⟨L, l1, l2, l3, l4⟩ e3 e4 rfl rfl, h5⟩
  · unfold fX4_firstError
    rw [e1, bsome, show tA (tx2, res).1 = nI A2 from e5]
  · unfold fX5_firstError
    rw [th0, e2, bsome]
    cases res with
    | true =>
      obtain ⟨w, -⟩ := e8 rfl
      show some (mPr (mTh m 0) (nI A2) n o le fi se, mLen m) = _
      rw [l3, w]
    | false => rfl
def RsE (q q2 : Nat) (v : VS) (z : VV) (tx : VT) (n0 n1 : Option VS) (X : Option ((Nat × VT) ⊕ (VS × VT × VV × Int32))) (Y : Option (VM × Int32)) : Prop :=
  (∃ t m' b, X = some (.inl (1, t)) ∧ Y = some (m', b) ∧ mThr m' = nI 1 ∧ SM q v z t n0 n1 m') ∨ ∃ v' t z' x m', X = some (.inr (v', t, z', x)) ∧ Y = some (m', x) ∧ mThr m' = 0 ∧ SM q2 v' z' t n0 n1 m'
theorem sim_execute (hN0 : 2097152 ≤ N) (hq : q ≤ 800000) (h : SM q v z tx n0 n1 m) : RsE q (q + 400) v z tx n0 n1 (fX4_execute N v tx z) (fX5_execute N m) := by
  obtain ⟨h1, ⟨k, h2, h3⟩, ⟨L, l1, l2, l3, l4⟩, h5⟩ := h
  have hT : TXr tx m := ⟨L, l1, l2, l3, l4⟩
  obtain ⟨tx2, A2, n, o, le, fi, se, res, e1, e2, e3, e4, e5, e6, e7, e8⟩ := read_same (m := mTh m 0) hN0 l1 l2 l3 l4
  unfold fX4_execute fX5_execute
  rw [e1, bsome, th0, e2, bsome]
  cases res with
  | false =>
    simp only [Bool.false_eq_true, if_false]
    exact .inl ⟨tx2, _, _, rfl, rfl, rfl, h1, ⟨k, h2, h3⟩, hT.reg e3 e4 rfl rfl, h5⟩
  | true =>
    obtain ⟨w1, K, w2, w3, w4, w5⟩ := e8 rfl
    obtain ⟨z', p1, p2, p3⟩ := push_same (m := mPr (mTh m 0) (nI A2) n o le fi se) hN0 h2 h3 h1
    rw [if_pos rfl, if_pos rfl, p1, bsome, p2, bsome]
    obtain ⟨v2, tx3, r2, x, i1, i2, i3, i4, i5⟩ := exec hN0 z' (c0 := mBuf m) l1 (n := K) 0 0 q v (tSA tx2 (nI 0)) (mSv (mPr (mTh m 0) (nI A2) n o le fi se) (savS (mPr (mTh m 0) (nI A2) n o le fi se) k) (nI (min k 5 + 1))) N N w5 (by omega) h1 (fun j hj => by show tC tx2 j = _; rw [e3]; exact l4 j hj) (e4.trans l2) rfl rfl rfl rfl w4 (by omega) (by omega) (by omega)
    have i1' : lX4_execute_41 N z' N v (tSA tx2 0) 0 = some (v2, tx3, nI x) := i1
    have i2' : lX5_execute_24 N N (mSv (mPr (mTh m 0) (nI A2) n o le fi se) (savS (mPr (mTh m 0) (nI A2) n o le fi se) k) (nI (min k 5 + 1))) 0 = _ := i2
    show RsE q (q + 400) v z tx n0 n1 ((lX4_execute_41 N z' N v (tSA tx2 0) 0).bind _) _
    rw [i1', bsome, i2', bsome]
    refine .inr ⟨v2, _, z', nI x, mCl (mR (mSv (mPr (mTh m 0) (nI A2) n o le fi se) (savS (mPr (mTh m 0) (nI A2) n o le fi se) k) (nI (min k 5 + 1))) r2), rfl, rfl, rfl, i3.mono (by omega), ⟨min k 5 + 1, p3.mono (by omega), rfl⟩, ⟨0, by omega, rfl, rfl, fun i hi => by omega⟩, h5.1.mono (by omega), h5.2.mono (by omega)⟩
/-- questions: the class's state stays, the reference's but for what it notes -/
def RsQ (q : Nat) (v : VS) (z : VV) (tx : VT) (n0 n1 : Option VS) (cs : List (Nat × Nat)) (X : Option (Nat ⊕ Int32)) (Y : Option (VM × Int32)) : Prop :=
  (∃ e k m' b, (e, k) ∈ cs ∧ X = some (.inl e) ∧ Y = some (m', b) ∧ mThr m' = nI k ∧ SM q v z tx n0 n1 m') ∨ ∃ x m', X = some (.inr x) ∧ Y = some (m', x) ∧ mThr m' = 0 ∧ SM q v z tx n0 n1 m'
theorem rg8 {x : Int32} {a : Nat} {b : Int32} (hb : b = nI a) (ha : a < 2 ^ 31) (h : 0 ≤ x ∧ x ≤ b) : ∃ j, j ≤ a ∧ x = nI j := by
  subst hb
  rw [fa_le, fa_le, z0, nI_toInt ha] at h
  obtain ⟨j, hj, rfl⟩ := nI_of (x := x) (fun q => by rw [fa_lt, z0] at q; omega)
  rw [nI_toInt hj] at h
  exact ⟨j, by omega, rfl⟩
theorem rgn {x : Int32} {a : Nat} {b : Int32} (hb : b = nI a) (ha : a < 2 ^ 31) {j : Nat} (hj : j ≤ a) : 0 ≤ nI j ∧ nI j ≤ b := by
  subst hb
  exact ⟨nI_pos' (by omega), nI_le hj ha⟩
theorem sim_blockOf (hN0 : 2097152 ≤ N) (h : SM q v z tx n0 n1 m) (p1 p2 : Int32) : RsQ q v z tx n0 n1 [(3, 1), (1, 2)] (fX4_blockOf N v p1 p2) (fX5_blockOf N m p1 p2) := by
  obtain ⟨B, h1, h2, h3⟩ := h.1
  have hl := h1.le
  unfold fX4_blockOf fX5_blockOf
  rw [cblk N h1.b hl, bsome, th0, isB5 N h1, bsome, fls, fls, bsome, bsome, in_n, bsome]
  by_cases c1 : 0 ≤ p1.toInt ∧ p1.toInt < B
  · rw [if_pos c1, ser, if_pos (decide_eq_true c1)]
    obtain ⟨b, hb, rfl⟩ := blk c1
    have r1 : RS B v (mRow (mTh m 0)) := h1
    have hb20 : b < 20 := by omega
    obtain ⟨k1, k2⟩ := h3.h hb
    have ok : ∀ (w : Int32) (X : Option (Nat ⊕ Int32)) (Y : Option Int32) (x : Int32), X = some (.inr x) → Y = some x → RsQ q v z tx n0 n1 [(3, 1), (1, 2)] X (Y.bind fun r => some (mTh m 0, r)) := fun w X Y x hX hY => .inr ⟨x, mTh m 0, hX, by rw [hY]; rfl, rfl, h.th 0⟩
    by_cases c2 : 0 ≤ p2 ∧ p2 ≤ 8
    · rw [if_pos (decide_eq_true c2)]
      obtain ⟨j, hj, rfl⟩ := rg8 (a := 8) rfl (by decide) c2
      unfold fX5_ofBlock
      rcases (show j = 0 ∨ j = 1 ∨ j = 2 ∨ j = 3 ∨ j = 4 ∨ j = 5 ∨ j = 6 ∨ j = 7 ∨ j = 8 by omega) with rfl | rfl | rfl | rfl | rfl | rfl | rfl | rfl | rfl
      · refine ok 0 _ _ (sN v b) (by rw [if_pos (show nI 0 = 0 from rfl), ckI hb20 (by decide), nI_clamp (by omega)]) ?_
        rw [if_pos (show nI 0 = 0 from rfl), of_0 N _ hb20, bsome, r1.n hb]
      · refine ok 0 _ _ (err v b + 10000) (by rw [if_neg (show ¬ nI 1 = 0 by decide), if_pos (show nI 1 = 1 from rfl), X3_errorOf N v hb20, bsome]) ?_
        rw [if_neg (show ¬ nI 1 = 0 by decide), if_pos (show nI 1 = 1 from rfl), X5_error r1 hb, bsome]
      · refine ok 0 _ _ (sW v b) (by rw [if_neg (show ¬ nI 2 = 0 by decide), if_neg (show ¬ nI 2 = 1 by decide), if_pos (show nI 2 = 2 from rfl), ckI hb20 (by decide), nI_clamp (by omega)]) ?_
        rw [if_neg (show ¬ nI 2 = 0 by decide), if_neg (show ¬ nI 2 = 1 by decide), if_pos (show nI 2 = 2 from rfl), of_2 N _ hb20, bsome, r1.w hb]
      · refine ok 0 _ _ (sH v b) (by rw [if_neg (show ¬ nI 3 = 0 by decide), if_neg (show ¬ nI 3 = 1 by decide), if_neg (show ¬ nI 3 = 2 by decide), if_pos (show nI 3 = 3 from rfl), ckI hb20 (by decide), nI_clamp (by omega)]) ?_
        rw [if_neg (show ¬ nI 3 = 0 by decide), if_neg (show ¬ nI 3 = 1 by decide), if_neg (show ¬ nI 3 = 2 by decide), if_pos (show nI 3 = 3 from rfl), of_3 N _ hb20, bsome, r1.h hb]
      · refine ok 0 _ _ (grd (err v b)) (by rw [if_neg (show ¬ nI 4 = 0 by decide), if_neg (show ¬ nI 4 = 1 by decide), if_neg (show ¬ nI 4 = 2 by decide), if_neg (show ¬ nI 4 = 3 by decide), if_pos (show nI 4 = 4 from rfl), X3_gradeOf N v hb20, bsome]) ?_
        rw [if_neg (show ¬ nI 4 = 0 by decide), if_neg (show ¬ nI 4 = 1 by decide), if_neg (show ¬ nI 4 = 2 by decide), if_neg (show ¬ nI 4 = 3 by decide), if_pos (show nI 4 = 4 from rfl), X5_grade r1 hb, bsome]
      · refine ok 0 _ _ (tlb v 0 b) (by rw [if_neg (show ¬ nI 5 = 0 by decide), if_neg (show ¬ nI 5 = 1 by decide), if_neg (show ¬ nI 5 = 2 by decide), if_neg (show ¬ nI 5 = 3 by decide), if_neg (show ¬ nI 5 = 4 by decide), if_pos (show nI 5 = 5 from rfl), show (0 : Int32) = nI 0 from rfl, X3_trueLengthOf hN0 h3 hl hb (by decide), bsome]) ?_
        rw [if_neg (show ¬ nI 5 = 0 by decide), if_neg (show ¬ nI 5 = 1 by decide), if_neg (show ¬ nI 5 = 2 by decide), if_neg (show ¬ nI 5 = 3 by decide), if_neg (show ¬ nI 5 = 4 by decide), if_pos (show nI 5 = 5 from rfl), of_3 N _ hb20, bsome, r1.h hb, k1, X5_trueLength r1 hb, bsome]
        rfl
      · refine ok 0 _ _ (sK v b) (by rw [if_neg (show ¬ nI 6 = 0 by decide), if_neg (show ¬ nI 6 = 1 by decide), if_neg (show ¬ nI 6 = 2 by decide), if_neg (show ¬ nI 6 = 3 by decide), if_neg (show ¬ nI 6 = 4 by decide), if_neg (show ¬ nI 6 = 5 by decide), if_pos (show nI 6 = 6 from rfl), ckI hb20 (by decide), nI_clamp (by omega)]) ?_
        rw [if_neg (show ¬ nI 6 = 0 by decide), if_neg (show ¬ nI 6 = 1 by decide), if_neg (show ¬ nI 6 = 2 by decide), if_neg (show ¬ nI 6 = 3 by decide), if_neg (show ¬ nI 6 = 4 by decide), if_neg (show ¬ nI 6 = 5 by decide), if_pos (show nI 6 = 6 from rfl), of_4 N _ hb20, bsome, r1.k hb]
      · refine ok 0 _ _ (sP v b) (by rw [if_neg (show ¬ nI 7 = 0 by decide), if_neg (show ¬ nI 7 = 1 by decide), if_neg (show ¬ nI 7 = 2 by decide), if_neg (show ¬ nI 7 = 3 by decide), if_neg (show ¬ nI 7 = 4 by decide), if_neg (show ¬ nI 7 = 5 by decide), if_neg (show ¬ nI 7 = 6 by decide), if_pos (show nI 7 = 7 from rfl), ckI hb20 (by decide), nI_clamp (by omega)]) ?_
        rw [if_neg (show ¬ nI 7 = 0 by decide), if_neg (show ¬ nI 7 = 1 by decide), if_neg (show ¬ nI 7 = 2 by decide), if_neg (show ¬ nI 7 = 3 by decide), if_neg (show ¬ nI 7 = 4 by decide), if_neg (show ¬ nI 7 = 5 by decide), if_neg (show ¬ nI 7 = 6 by decide), if_pos (show nI 7 = 7 from rfl), of_5 N _ hb20, bsome, r1.p hb]
      · refine ok 0 _ _ (sT v b) (by rw [if_neg (show ¬ nI 8 = 0 by decide), if_neg (show ¬ nI 8 = 1 by decide), if_neg (show ¬ nI 8 = 2 by decide), if_neg (show ¬ nI 8 = 3 by decide), if_neg (show ¬ nI 8 = 4 by decide), if_neg (show ¬ nI 8 = 5 by decide), if_neg (show ¬ nI 8 = 6 by decide), if_neg (show ¬ nI 8 = 7 by decide), if_pos (show nI 8 = 8 from rfl), ckI hb20 (by decide), nI_clamp (by omega)]) ?_
        rw [if_neg (show ¬ nI 8 = 0 by decide), if_neg (show ¬ nI 8 = 1 by decide), if_neg (show ¬ nI 8 = 2 by decide), if_neg (show ¬ nI 8 = 3 by decide), if_neg (show ¬ nI 8 = 4 by decide), if_neg (show ¬ nI 8 = 5 by decide), if_neg (show ¬ nI 8 = 6 by decide), if_neg (show ¬ nI 8 = 7 by decide), of_6 N _ hb20, bsome, r1.t hb]
    · rw [if_neg (fun z => c2 (of_decide_eq_true z))]
      have nn : ∀ j, j ≤ 8 → ¬ p2 = nI j := fun j hj e => c2 (by rw [e]; exact rgn (x := 0) (a := 8) rfl (by decide) hj)
      rw [if_neg (show ¬ p2 = 0 from nn 0 (by decide)), if_neg (show ¬ p2 = 1 from nn 1 (by decide)), if_neg (show ¬ p2 = 2 from nn 2 (by decide)), if_neg (show ¬ p2 = 3 from nn 3 (by decide)), if_neg (show ¬ p2 = 4 from nn 4 (by decide)), if_neg (show ¬ p2 = 5 from nn 5 (by decide)), if_neg (show ¬ p2 = 6 from nn 6 (by decide)), if_neg (show ¬ p2 = 7 from nn 7 (by decide)), if_neg (show ¬ p2 = 8 from nn 8 (by decide))]
      exact .inl ⟨1, 2, _, _, by decide, rfl, rfl, rfl, h.th 2⟩
  · rw [if_neg c1, sel, if_neg (fun z => c1 (of_decide_eq_true z))]
    exact .inl ⟨3, 1, _, _, by decide, rfl, rfl, rfl, h.th 1⟩
end SIT
