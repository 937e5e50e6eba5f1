/-! class and reference side by side: calls that change the state -/
theorem th0 (m : VM) : (mRow m, mSav m, mSvn m, mSnp m, mKep m, 0, mFre m, mFrn m, mBuf m, mLen m, mSpt m, mNum m, mOrd m, mLet m, mFst m, mSnd m, mTok m, mLft m) = mTh m 0 := rfl
theorem fls (N : Nat) (m : VM) (p : Int32) : fX5_fails N m p = some (mTh m p, 0) := rfl
theorem thth (m : VM) (a b : Int32) : mTh (mTh m a) b = mTh m b := rfl
theorem sel {α β γ : Type} (f : α → γ) (g : β → γ) (a : α) : Sum.elim f g (.inl a) = f a := rfl
theorem ser {α β γ : Type} (f : α → γ) (g : β → γ) (b : β) : Sum.elim f g (.inr b) = g b := rfl
def TXr (tx : VT) (m : VM) : Prop := ∃ L, L ≤ 60 ∧ tL tx = nI L ∧ mLen m = nI L ∧ ∀ i, i < L → tC tx i = mBuf m i
def SN1 (q : Nat) (s : Option VS) (k : Int32) (r : Nat → Int32) : Prop := match s with
  | none => k = 0
  | some x => k ≠ 0 ∧ SS q x r
theorem SN1.mono {q q2 : Nat} (h : q ≤ q2) : ∀ {s : Option VS} {k : Int32} {r : Nat → Int32}, SN1 q s k r → SN1 q2 s k r
  | none, _, _, hs => hs
  | some _, _, _, hs => ⟨hs.1, hs.2.mono h⟩
def SNr (q : Nat) (n0 n1 : Option VS) (m : VM) : Prop := SN1 q n0 (mKep m 0) (mSnp m) ∧ SN1 q n1 (mKep m 1) (fun i => mSnp m (149 + i))
/-- the class's object and the reference's, after calls that let the wear be at most q -/
def SM (q : Nat) (v : VS) (z : VV) (tx : VT) (n0 n1 : Option VS) (m : VM) : Prop := SS q v (mRow m) ∧ (∃ n, RV q n z (mSav m) ∧ mSvn m = nI n) ∧ TXr tx m ∧ SNr q n0 n1 m
theorem RV.mono {q q2 n : Nat} {z : VV} {s : Nat → Int32} (h : q ≤ q2) (hz : RV q n z s) : RV q2 n z s := ⟨hz.1, hz.2.1, fun j hj => (hz.2.2 j hj).mono h⟩
theorem SM.mono {q q2 : Nat} {v : VS} {z : VV} {tx : VT} {n0 n1 : Option VS} {m : VM} (h : q ≤ q2) (hs : SM q v z tx n0 n1 m) : SM q2 v z tx n0 n1 m :=
  ⟨hs.1.mono h, hs.2.1.elim (fun n hn => ⟨n, hn.1.mono h, hn.2⟩), hs.2.2.1, hs.2.2.2.1.mono h, hs.2.2.2.2.mono h⟩
theorem SM.th {q : Nat} {v : VS} {z : VV} {tx : VT} {n0 n1 : Option VS} {m : VM} (h : SM q v z tx n0 n1 m) (t : Int32) : SM q v z tx n0 n1 (mTh m t) := h
def mS1 (m : VM) (n : Nat) : VM := mSv (mTh m 0) (savS (mTh m 0) n) (nI (min n 5 + 1))
section SIM
variable {N q : Nat} {v : VS} {z : VV} {tx : VT} {n0 n1 : Option VS} {m : VM}
theorem sm_push (hN0 : 2097152 ≤ N) (h : SM q v z tx n0 n1 m) : ∃ z' n, fX2_push N v z = some z' ∧ fX5_save N (mTh m 0) = some (mS1 m n) ∧ ∀ q2 v' r, q ≤ q2 → SS q2 v' r → SM q2 v' z' tx n0 n1 (mR (mS1 m n) r) := by
  obtain ⟨h1, ⟨n, h2, h3⟩, h4, h5⟩ := h
  obtain ⟨z', e1, e2, e3⟩ := push_same (m := mTh m 0) hN0 h2 h3 h1
  exact ⟨z', n, e1, e2, fun q2 v' r hq hs => ⟨hs, ⟨min n 5 + 1, e3.mono hq, rfl⟩, h4, h5.1.mono hq, h5.2.mono hq⟩⟩
/-- both throw, at the places that the lists name; or both answer, alike -/
def RsA (q q2 : Nat) (v : VS) (z : VV) (tx : VT) (n0 n1 : Option VS) (cs : List (Nat × Nat)) (X : Option (Nat ⊕ (VS × VV × Int32))) (Y : Option (VM × Int32)) : Prop :=
  (∃ e k m' b, (e, k) ∈ cs ∧ X = some (.inl e) ∧ Y = some (m', b) ∧ mThr m' = nI k ∧ SM q v z tx n0 n1 m') ∨ ∃ v' z' x m', X = some (.inr (v', z', x)) ∧ Y = some (m', x) ∧ mThr m' = 0 ∧ SM q2 v' z' tx n0 n1 m'
theorem cr (N : Nat) (x a b : Int32) : fX4_checkRange N x a b = some (if a ≤ x ∧ x ≤ b then .inr () else .inl 1) := by
  unfold fX4_checkRange
  by_cases c : x < a
  · rw [if_pos c, if_neg (fun q => absurd c (Int32.not_lt.mpr q.1))]
  · rw [if_neg c]
    by_cases c2 : x ≤ b
    · rw [if_pos c2, if_pos ⟨Int32.not_lt.mp c, c2⟩]
    · rw [if_neg c2, if_neg (fun q => c2 q.2)]
theorem cblk {B : Nat} (N : Nat) (hB : sB v = nI B) (hl : B ≤ 20) (x : Int32) : fX4_checkBlock N v x = some (if 0 ≤ x.toInt ∧ x.toInt < B then .inr () else .inl 3) := by
  unfold fX4_checkBlock
  rw [X3_hasBlock N hB hl, bsome]
  by_cases c : 0 ≤ x.toInt ∧ x.toInt < B
  · rw [if_pos (decide_eq_true c), if_pos c]
  · rw [if_neg (fun z => c (of_decide_eq_true z)), if_neg c]
theorem cfree (N : Nat) (v : VS) {b : Nat} (hb : b < 20) : fX4_checkFree N v (nI b) = some (if sK v b = -1 then .inr () else .inl 2) := by
  unfold fX4_checkFree
  rw [X3_isFree N v hb, bsome]
  by_cases c : sK v b = -1
  · rw [if_pos (decide_eq_true c), if_pos c]
  · rw [if_neg (fun z => c (of_decide_eq_true z)), if_neg c]
theorem cstk (N : Nat) (x : Int32) : fX4_checkStack N x = some (if 0 ≤ x ∧ x ≤ 2 then .inr () else .inl 3) := by
  unfold fX4_checkStack
  have e : (x < 3) ↔ x ≤ 2 := by
    rw [fa_lt, fa_le, show (3 : Int32).toInt = 3 from by decide +kernel, show (2 : Int32).toInt = 2 from by decide +kernel]; omega
  by_cases c : x < 0
  · rw [if_pos c, if_neg (fun q => absurd c (Int32.not_lt.mpr q.1))]
  · rw [if_neg c]
    by_cases c2 : x < 3
    · rw [if_pos c2, if_pos ⟨Int32.not_lt.mp c, e.mp c2⟩]
    · rw [if_neg c2, if_neg (fun q => c2 (e.mpr q.2))]
theorem cset (N : Nat) (x : Int32) : fX4_checkSetting N x = some (if 0 ≤ x ∧ x ≤ 3 then .inr () else .inl 3) := by
  unfold fX4_checkSetting
  have e : (x < 4) ↔ x ≤ 3 := by
    rw [fa_lt, fa_le, show (4 : Int32).toInt = 4 from by decide +kernel, show (3 : Int32).toInt = 3 from by decide +kernel]; omega
  by_cases c : x < 0
  · rw [if_pos c, if_neg (fun q => absurd c (Int32.not_lt.mpr q.1))]
  · rw [if_neg c]
    by_cases c2 : x < 4
    · rw [if_pos c2, if_pos ⟨Int32.not_lt.mp c, e.mp c2⟩]
    · rw [if_neg c2, if_neg (fun q => c2 (e.mpr q.2))]
theorem clen (N : Nat) (x : Int32) : fX4_checkLength N x = some (if 500 ≤ x ∧ x ≤ 600000 then .inr () else .inl 1) := by
  unfold fX4_checkLength
  rw [cr, bsome]
  split <;> rfl
theorem stk3 {x : Int32} (h : 0 ≤ x ∧ x ≤ 2) : St3 x := by
  rw [fa_le, fa_le, z0, show (2 : Int32).toInt = 2 from by decide +kernel] at h
  obtain ⟨j, hj, rfl⟩ := nI_of (x := x) (fun q => by rw [fa_lt, z0] at q; omega)
  rw [nI_toInt hj] at h
  rcases (show j = 0 ∨ j = 1 ∨ j = 2 by omega) with rfl | rfl | rfl
  · exact .inl rfl
  · exact .inr (.inl rfl)
  · exact .inr (.inr rfl)
theorem isStk (N : Nat) (x : Int32) : fX5_isStack N x = some (decide (0 ≤ x ∧ x ≤ 2)) := by
  unfold fX5_isStack
  rw [in_n]
  rfl
theorem isLen (N : Nat) (x : Int32) : fX5_isLength N x = some (decide (500 ≤ x ∧ x ≤ 600000)) := by
  unfold fX5_isLength
  rw [in_n]
  rfl
theorem isB5 (N : Nat) {B : Nat} (h : RS B v (mRow m)) (t x : Int32) : fX5_isBlock N (mTh m t) x = some (decide (0 ≤ x.toInt ∧ x.toInt < B)) := X5_isBlock (m := mTh m t) N h.r8 h.le x
theorem sim_block (hN0 : 2097152 ≤ N) (h : SM q v z tx n0 n1 m) (p1 p2 : Int32) : RsA q q v z tx n0 n1 [(1, 1), (2, 2)] (fX4_block N v z p1 p2) (fX5_block N m p1 p2) := by
  obtain ⟨B, h1, h2, h3⟩ := h.1
  have hl := h1.le
  unfold fX4_block fX5_block
  rw [cr, cr, in_n, in_n, bsome, bsome, bsome, bsome, th0, ck8, cl8, h1.r8, X3_isFull N h1.b hl, bsome, fls, fls, bsome, bsome]
  by_cases c1 : 500 ≤ p1 ∧ p1 ≤ 100000
  · rw [if_pos c1, ser, if_pos (decide_eq_true c1)]
    by_cases c2 : -900 ≤ p2 ∧ p2 ≤ 900
    · rw [if_pos c2, ser, if_pos (decide_eq_true c2)]
      by_cases c3 : B = 20
      · subst c3
        rw [if_pos (decide_eq_true rfl), if_pos (show nI 20 = (20 : Int32) from rfl)]
        exact .inl ⟨2, 2, _, _, by decide, rfl, rfl, rfl, h.th 2⟩
      · obtain ⟨z', n, e1, e2, e3⟩ := sm_push hN0 h
        rw [if_neg (fun z => c3 (of_decide_eq_true z)), e1, bsome, X3_addBlock N h1.b (by omega), bsome, if_neg (show ¬ nI B = 20 from fun z => c3 ((nI_eq (b := 20) (by omega) (by decide)).mp z)), e2, bsome, X5_addBlock (m := mS1 m n) hN0 h1.r8 (by omega), bsome]
        refine .inr ⟨_, z', _, _, rfl, rfl, rfl, e3 q _ _ (Nat.le_refl q) ⟨B + 1, h1.add (by omega) _ _, h2.add, h3.add ?_ ?_⟩⟩
        · rw [fa_le, fa_le, show (500 : Int32).toInt = 500 from by decide +kernel, show (100000 : Int32).toInt = 100000 from by decide +kernel] at c1; exact c1
        · rw [fa_le, fa_le, m900, show (900 : Int32).toInt = 900 from by decide +kernel] at c2; exact c2
    · rw [if_neg c2, sel, if_neg (fun z => c2 (of_decide_eq_true z))]
      exact .inl ⟨1, 1, _, _, by decide, rfl, rfl, rfl, h.th 1⟩
  · rw [if_neg c1, sel, if_neg (fun z => c1 (of_decide_eq_true z))]
    exact .inl ⟨1, 1, _, _, by decide, rfl, rfl, rfl, h.th 1⟩
theorem sim_discard (hN0 : 2097152 ≤ N) (h : SM q v z tx n0 n1 m) (p1 : Int32) : RsA q q v z tx n0 n1 [(3, 1), (2, 2)] (fX4_discard N v z p1) (fX5_discard N m p1) := by
  obtain ⟨B, h1, h2, h3⟩ := h.1
  have hl := h1.le
  unfold fX4_discard fX5_discard
  rw [cblk N h1.b hl, bsome, th0, isB5 N h1, bsome, fls, fls, bsome, bsome]
  by_cases c1 : 0 ≤ p1.toInt ∧ p1.toInt < B
  · rw [if_pos c1, ser, if_pos (decide_eq_true c1)]
    obtain ⟨b, hb, rfl⟩ := blk c1
    have hf5 : fX5_isFree N (mTh m 0) (nI b) = some (decide (sK v b = -1)) := X5_isFree (m := mTh m 0) h1 hb
    rw [cfree N v (by omega), bsome, hf5, bsome]
    by_cases c2 : sK v b = -1
    · obtain ⟨z', n, e1, e2, e3⟩ := sm_push hN0 h
      have hr8 : mRow (mS1 m n) 8 = nI B := h1.r8
      have e4 : nI B - 1 = nI (B - 1) := nI_sub (b := 1) (by omega)
      have hg := X5_gap hN0 hl hb (mRow m) (mS1 m n)
      have hz := X5_zero hN0 hl (by omega : 0 < B) (mR (mS1 m n) (fb_put (upd (mRow m) 8 (nI (B - 1))) (fun k => mRow m (9 + 7 * b + 7 + k)) (9 + 7 * b) (7 * (B - 1 - b))))
      have h98 : 9 + (7 * nI (B - 1)) = nI (9 + 7 * (B - 1)) := by
        show nI 9 + (nI 7 * nI (B - 1)) = _
        rw [nI_mul, nI_add]
      have h99 : 9 + (7 * nI b) = nI (9 + 7 * b) := by
        show nI 9 + (nI 7 * nI b) = _
        rw [nI_mul, nI_add]
      rw [if_pos c2, ser, if_pos (decide_eq_true c2), e1, bsome, X3_removeBlock hN0 h1.b hl hb, bsome, e2, bsome, ck8, ck8, ck8, cl8, hr8, e4, pk_us, h98, h99]
      show RsA q q v z tx n0 n1 _ _ ((lX5_discard_70 N (nI (9 + 7 * (B - 1))) N (mR (mS1 m n) (upd (mRow m) 8 (nI (B - 1)))) (nI (9 + 7 * b))).bind _)
      rw [hg, bsome, hz, bsome, ck8, mRmR]
      refine .inr ⟨_, z', _, _, rfl, ?_, rfl, e3 q _ _ (Nat.le_refl q) ⟨B - 1, h1.rm hb, h2.rm hb c2, h3.rm hb⟩⟩
      show some (_, rowRm (mRow m) B b 8) = some (_, nI (B - 1))
      rw [(h1.rm hb).r8]
      rfl
    · rw [if_neg c2, sel, if_neg (fun z => c2 (of_decide_eq_true z))]
      exact .inl ⟨2, 2, _, _, by decide, rfl, rfl, rfl, h.th 2⟩
  · rw [if_neg c1, sel, if_neg (fun z => c1 (of_decide_eq_true z))]
    exact .inl ⟨3, 1, _, _, by decide, rfl, rfl, rfl, h.th 1⟩
theorem sim_calibrate (hN0 : 2097152 ≤ N) (hq : q ≤ 900000) (h : SM q v z tx n0 n1 m) (p1 : Int32) : RsA q q v z tx n0 n1 [(3, 1), (2, 2)] (fX4_calibrate N v z p1) (fX5_calibrate N m p1) := by
  obtain ⟨B, h1, h2, h3⟩ := h.1
  have hl := h1.le
  unfold fX4_calibrate fX5_calibrate
  rw [cblk N h1.b hl, bsome, th0, isB5 N h1, bsome, fls, fls, bsome, bsome]
  by_cases c1 : 0 ≤ p1.toInt ∧ p1.toInt < B
  · rw [if_pos c1, ser, if_pos (decide_eq_true c1)]
    obtain ⟨b, hb, rfl⟩ := blk c1
    have hf5 : fX5_isFree N (mTh m 0) (nI b) = some (decide (sK v b = -1)) := X5_isFree (m := mTh m 0) h1 hb
    rw [cfree N v (by omega), bsome, hf5, bsome]
    by_cases c2 : sK v b = -1
    · obtain ⟨z', n, e1, e2, e3⟩ := sm_push hN0 h
      have hr : RS B v (mRow (mS1 m n)) := h1
      have hE := X5_error (N := N) hr hb
      have hD := h1.uD (b := b) (jmax (err v b) (-900))
      have hW := hD.uW (b := b) 0
      have hG : fX5_grade N (mR (mS1 m n) (upd (upd (mRow m) (9 + 7 * b + 1) (jmax (err v b) (-900))) (9 + 7 * b + 2) 0)) (nI b) = some (grd (err (calS v b) b)) := X5_grade (m := mR (mS1 m n) (upd (upd (mRow m) (9 + 7 * b + 1) (jmax (err v b) (-900))) (9 + 7 * b + 2) 0)) (v := calS v b) hW hb
      rw [if_pos c2, ser, if_pos (decide_eq_true c2), e1, bsome, X3_calib N v (by omega), bsome, X3_gradeOf N _ (by omega), bsome, e2, bsome, hE, bsome, bsome, put_1 N _ _ (by omega), put_1 N _ _ (by omega), bsome, bsome, put_2 N _ _ (by omega), put_2 N _ _ (by omega), bsome, bsome]
      have fin : ∀ Y, Y = some (mR (mS1 m n) (upd (upd (mRow m) (9 + 7 * b + 1) (jmax (err v b) (-900))) (9 + 7 * b + 2) 0), grd (err (calS v b) b)) → RsA q q v z tx n0 n1 [(3, 1), (2, 2)] (some (.inr (calS v b, z', grd (err (calS v b) b)))) Y := fun Y hY => .inr ⟨_, z', _, _, rfl, hY, rfl, e3 q _ _ (Nat.le_refl q) ⟨B, hW, h2, h3.cal (by omega) hb⟩⟩
      refine fin _ ?_
      by_cases c3 : -900 ≤ err v b
      · have ej : jmax (err v b) (-900) = err v b := if_neg (Int32.not_lt.mpr c3)
        rw [ej] at hG ⊢
        rw [if_pos c3]
        show ((fX5_grade N (mR (mS1 m n) (upd (upd (mRow m) (9 + 7 * b + 1) (err v b)) (9 + 7 * b + 2) 0)) (nI b)).bind _) = _
        rw [hG]
        rfl
      · have ej : jmax (err v b) (-900) = -900 := if_pos (Int32.not_le.mp c3)
        rw [ej] at hG ⊢
        rw [if_neg c3]
        show ((fX5_grade N (mR (mS1 m n) (upd (upd (mRow m) (9 + 7 * b + 1) (-900)) (9 + 7 * b + 2) 0)) (nI b)).bind _) = _
        rw [hG]
        rfl
    · rw [if_neg c2, sel, if_neg (fun z => c2 (of_decide_eq_true z))]
      exact .inl ⟨2, 2, _, _, by decide, rfl, rfl, rfl, h.th 2⟩
  · rw [if_neg c1, sel, if_neg (fun z => c1 (of_decide_eq_true z))]
    exact .inl ⟨3, 1, _, _, by decide, rfl, rfl, rfl, h.th 1⟩
theorem rg60 {x : Int32} (h : 1 ≤ x ∧ x ≤ 60) : ∃ s, 1 ≤ s ∧ s ≤ 60 ∧ x = nI s := by
  rw [fa_le, fa_le, show (1 : Int32).toInt = 1 from by decide +kernel, show (60 : Int32).toInt = 60 from by decide +kernel] at h
  obtain ⟨j, hj, rfl⟩ := nI_of (x := x) (fun q => by rw [fa_lt, z0] at q; omega)
  rw [nI_toInt hj] at h
  exact ⟨j, by omega, by omega, rfl⟩
theorem sim_hold (hN0 : 2097152 ≤ N) (h : SM q v z tx n0 n1 m) (p1 p2 : Int32) : RsA q q v z tx n0 n1 [(3, 1), (1, 2)] (fX4_hold N v z p1 p2) (fX5_hold N m p1 p2) := by
  obtain ⟨B, h1, h2, h3⟩ := h.1
  have hl := h1.le
  unfold fX4_hold fX5_hold
  rw [cblk N h1.b hl, bsome, th0, isB5 N h1, bsome, fls, fls, bsome, bsome, cr, bsome, in_n, bsome]
  by_cases c1 : 0 ≤ p1.toInt ∧ p1.toInt < B
  · rw [if_pos c1, ser, if_pos (decide_eq_true c1)]
    obtain ⟨b, hb, rfl⟩ := blk c1
    by_cases c2 : 1 ≤ p2 ∧ p2 ≤ 60
    · obtain ⟨z', n, e1, e2, e3⟩ := sm_push hN0 h
      obtain ⟨s, s1, s2, rfl⟩ := rg60 c2
      obtain ⟨r, o1, o2, o3, o4, o5⟩ := hold_same (N := N) (m := mS1 m n) h1 h3 hb s2
      rw [if_pos c2, ser, if_pos (decide_eq_true c2), e1, bsome, o1, bsome, ckI (by omega) (by decide), nI_clamp (by omega), e2, bsome, o2, bsome]
      refine .inr ⟨_, z', _, _, rfl, ?_, rfl, e3 q _ _ (Nat.le_refl q) ⟨B, o3, h2, o4⟩⟩
      show some (_, hot (sH v b) (nI (5 * s))) = some (_, upd (sH v) b (hot (sH v b) (nI (5 * s))) b)
      rw [pk_us]
    · rw [if_neg c2, sel, if_neg (fun z => c2 (of_decide_eq_true z))]
      exact .inl ⟨1, 2, _, _, by decide, rfl, rfl, rfl, h.th 2⟩
  · rw [if_neg c1, sel, if_neg (fun z => c1 (of_decide_eq_true z))]
    exact .inl ⟨3, 1, _, _, by decide, rfl, rfl, rfl, h.th 1⟩
theorem sim_rest (hN0 : 2097152 ≤ N) (h : SM q v z tx n0 n1 m) (p1 : Int32) : RsA q q v z tx n0 n1 [(1, 1)] (fX4_rest N v z p1) (fX5_rest N m p1) := by
  obtain ⟨B, h1, h2, h3⟩ := h.1
  have hl := h1.le
  unfold fX4_rest fX5_rest
  rw [cr, bsome, in_n, bsome, th0, fls, bsome]
  by_cases c2 : 1 ≤ p1 ∧ p1 ≤ 60
  · obtain ⟨z', n, e1, e2, e3⟩ := sm_push hN0 h
    obtain ⟨s, s1, s2, rfl⟩ := rg60 c2
    obtain ⟨r, o1, o2⟩ := X5_restNow (m := mS1 m n) hN0 h1 h3 (p := s) (by omega)
    rw [if_pos c2, ser, if_pos (decide_eq_true c2), e1, bsome, X3_letPass hN0 h1.b hl h3 (by omega), bsome, X3_greatest hN0 h1.b hl, bsome, e2, bsome, o1, bsome]
    exact .inr ⟨_, z', _, _, rfl, rfl, rfl, e3 q _ _ (Nat.le_refl q) ⟨B, o2, h2, h3.rest s _⟩⟩
  · rw [if_neg c2, sel, if_neg (fun z => c2 (of_decide_eq_true z))]
    exact .inl ⟨1, 1, _, _, by decide, rfl, rfl, rfl, h.th 1⟩
end SIM
