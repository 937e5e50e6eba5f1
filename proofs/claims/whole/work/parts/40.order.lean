/-! one order -/
def mPr (m : VM) (s n o : Int32) (le fi se : Nat → Int32) : VM := (mRow m, mSav m, mSvn m, mSnp m, mKep m, mThr m, mFre m, mFrn m, mBuf m, mLen m, s, n, o, le, fi, se, mTok m, mLft m)
def Ent (c f e s1 s2 : Int32) : Prop :=
  (c = 98 ∧ ∃ n, 500 ≤ n ∧ n ≤ 100000 ∧ f = nI n ∧ s2 = nI n) ∨ (c = 117 ∧ ∃ n, n ≤ 2 ∧ f = nI n ∧ s2 = nI n) ∨ (c = 114 ∧ ∃ n, 1 ≤ n ∧ n ≤ 60 ∧ f = nI n ∧ s2 = nI n) ∨
  (c = 119 ∧ ∃ n b, n ≤ 2 ∧ b ≤ 19 ∧ f = nI n ∧ s1 = nI n ∧ e = nI b ∧ s2 = nI b) ∨ (c = 104 ∧ ∃ n s, n ≤ 19 ∧ 1 ≤ s ∧ s ≤ 60 ∧ f = nI n ∧ s1 = nI n ∧ e = nI s ∧ s2 = nI s)
/-- what reading an order does: at A, with k orders read before -/
def OR (tx : VT) (m : VM) (A L k : Nat) (X : Option (VT × Bool)) (Y : Option (VM × Bool)) : Prop :=
  ∃ A2 ok tx2 le fi se n o, A ≤ A2 ∧ A2 ≤ L ∧ X = some (tx2, ok) ∧ Y = some (mPr m (nI A2) n o le fi se, ok) ∧ tC tx2 = tC tx ∧ tL tx2 = tL tx ∧ tA tx2 = nI A2 ∧
    (∀ j, j ≠ k → le j = mLet m j ∧ fi j = mFst m j ∧ se j = mSnd m j) ∧ (ok = true → A + 2 ≤ A2 ∧ o = nI (k + 1) ∧ le k = tR tx2 ∧ Ent (tR tx2) (tF tx2) (tE tx2) (fi k) (se k)) ∧ (ok = false → o = nI k)
theorem ck24 {α : Type} {i : Nat} {X : Option α} (h : i < 24) : ck (nI i) 24 X = X := ck_n h (by decide)
section OD
variable {N : Nat} {tx : VT} {m : VM} {A L k : Nat}
theorem rfirst (hN0 : 2097152 ≤ N) {a g : Nat} (hlg : LG a g) (h : PT tx m A L) :
    ∃ A2 y x ok, A ≤ A2 ∧ A2 ≤ L ∧ fX1_readFirst N tx (nI a) (nI g) = some (tSF (tSA tx (nI A2)) x, ok) ∧ fX1_readSecond N tx (nI a) (nI g) = some (tSE (tSA tx (nI A2)) x, ok) ∧ fX5_reads N m (nI a) (nI g) = some (mSN m (nI A2) y, ok) ∧ (ok = true → A < A2 ∧ ∃ n, x = nI n ∧ y = nI n ∧ a ≤ n ∧ n ≤ g) := by
  have hg : g ≤ 100000 := by rcases hlg with ⟨rfl, rfl⟩ | ⟨rfl, rfl⟩ | ⟨rfl, rfl⟩ | ⟨rfl, rfl⟩ <;> omega
  obtain ⟨A2, y, x, ok, e1, e2, e3, e4, e5, e6⟩ := num_same hN0 hlg h
  refine ⟨A2, y, x, ok, e1, e2, ?_, ?_, e4, e5⟩
  · unfold fX1_readFirst
    rw [e3, bsome]
    show (if x = -1 then _ else _) = _
    cases ok with
    | true =>
      obtain ⟨-, n, rfl, -, -, hn⟩ := e5 rfl
      rw [if_neg (nI_m1 (by omega))]
      rfl
    | false =>
      rw [if_pos (e6 rfl)]
      rfl
  · unfold fX1_readSecond
    rw [e3, bsome]
    show (if x = -1 then _ else _) = _
    cases ok with
    | true =>
      obtain ⟨-, n, rfl, -, -, hn⟩ := e5 rfl
      rw [if_neg (nI_m1 (by omega))]
      rfl
    | false =>
      rw [if_pos (e6 rfl)]
      rfl
theorem PT.reg (h : PT tx m A L) {tx2 : VT} {m2 : VM} (h1 : tC tx2 = tC tx) (h2 : tL tx2 = tL tx) (h3 : tA tx2 = tA tx) (h4 : mBuf m2 = mBuf m) (h5 : mLen m2 = mLen m) (h6 : mSpt m2 = mSpt m) : PT tx2 m2 A L := by
  obtain ⟨q1, q2, q3, q4, q5, q6, q7⟩ := h
  exact ⟨q1, q2, h2.trans q3, h5.trans q4, h3.trans q5, h6.trans q6, fun i hi => by rw [h1, h4]; exact q7 i hi⟩
/-- an order of one number -/
def cOne (N : Nat) (tx : VT) (c a g : Int32) : Option (VT × Bool) := (fX1_readSign N tx c).bind fun r2 => if r2.2 = true then (fX1_readFirst N r2.1 a g).bind fun r3 => if r3.2 = true then some (r3.1, true) else some (r3.1, false) else some (r2.1, false)
def mEnd (c : Int32) (r1 : VM × Bool) : Option (VM × Bool) := if r1.2 = true then ck (mOrd r1.1) 24 (ck (mOrd r1.1) 24 (some (mPr r1.1 (mSpt r1.1) (mNum r1.1) (mOrd r1.1 + 1) (upd (mLet r1.1) (mOrd r1.1).toNatClampNeg c) (mFst r1.1) (upd (mSnd r1.1) (mOrd r1.1).toNatClampNeg (mNum r1.1)), true))) else some (r1.1, false)
theorem sgn_at {c : Int32} (hA : A < L) (hc : tC tx A = c) : sgn tx A L c = true := decide_eq_true ⟨hA, hc⟩
theorem one_same (hN0 : 2097152 ≤ N) {a g : Nat} (hlg : LG a g) (h : PT tx m A L) (ho : mOrd m = nI k) (hk : k < 24) (hA : A < L) {c : Int32} (hc : tC tx A = c) (hr : tR tx = c)
    (hE : ∀ n e s1, a ≤ n → n ≤ g → Ent c (nI n) e s1 (nI n)) : OR tx m A L k (cOne N tx c (nI a) (nI g)) ((fX5_reads N (mSN m (nI A + 1) (mNum m)) (nI a) (nI g)).bind fun r1 => mEnd c (r1.1, r1.2)) := by
  have h2 : PT (tSA tx (nI (A + 1))) (mSN m (nI (A + 1)) (mNum m)) (A + 1) L := h.adv (by omega) _
  obtain ⟨A2, y, x, ok, e1, e2, e3, -, e4, e5⟩ := rfirst hN0 hlg h2
  unfold cOne
  rw [X1_readSign N h, bsome, sgn_at hA hc, if_pos rfl, if_pos rfl, e3, bsome, nI_1, e4, bsome]
  cases ok with
  | true =>
    obtain ⟨z1, n, rfl, rfl, z2, z3⟩ := e5 rfl
    refine ⟨A2, true, _, upd (mLet m) k c, mFst m, upd (mSnd m) k (nI n), nI n, nI (k + 1), by omega, e2, rfl, ?_, rfl, rfl, rfl, fun j hj => ⟨pk_un hj, rfl, pk_un hj⟩, fun _ => ⟨by omega, rfl, pk_us.trans hr.symm, ?_⟩, fun z => by cases z⟩
    · unfold mEnd
      rw [if_pos rfl]
      show ck (mOrd m) 24 (ck (mOrd m) 24 (some (mPr m (nI A2) (nI n) (mOrd m + 1) (upd (mLet m) (mOrd m).toNatClampNeg c) (mFst m) (upd (mSnd m) (mOrd m).toNatClampNeg (nI n)), true))) = _
      rw [ho, ck24 hk, ck24 hk, nI_clamp (by omega), nI_1]
    · rw [pk_us, show tR (tSF (tSA (tSA tx (nI (A + 1))) (nI A2)) (nI n)) = c from hr]
      exact hE n _ _ z2 z3
  | false =>
    refine ⟨A2, false, _, mLet m, mFst m, mSnd m, y, mOrd m, by omega, e2, rfl, rfl, rfl, rfl, rfl, fun j hj => ⟨rfl, rfl, rfl⟩, fun z => (by cases z), fun _ => ho⟩
/-- an order of two numbers -/
def cTwo (N : Nat) (tx : VT) (c a g s a2 g2 : Int32) : Option (VT × Bool) := (fX1_readSign N tx c).bind fun r4 => if r4.2 = true then (fX1_readFirst N r4.1 a g).bind fun r5 => if r5.2 = true then (fX1_readSign N r5.1 s).bind fun r6 => if r6.2 = true then (fX1_readSecond N r6.1 a2 g2).bind fun r7 => if r7.2 = true then some (r7.1, true) else some (r7.1, false) else some (r6.1, false) else some (r5.1, false) else some (r4.1, false)
def mTwo (N : Nat) (m : VM) (a g s a2 g2 : Int32) : Option (VM × Bool) := (fX5_reads N m a g).bind fun r2 => if r2.2 = true then ck (mOrd r2.1) 24 ((fX5_takes N (mPr r2.1 (mSpt r2.1) (mNum r2.1) (mOrd r2.1) (mLet r2.1) (upd (mFst r2.1) (mOrd r2.1).toNatClampNeg (mNum r2.1)) (mSnd r2.1)) s).bind fun r3 => if r3.2 = true then (fX5_reads N r3.1 a2 g2).bind fun r4 => if r4.2 = true then some (r4.1, true) else some (r4.1, false) else some (r3.1, false)) else some (r2.1, false)
theorem two_same (hN0 : 2097152 ≤ N) {a g a2 g2 : Nat} {s : Int32} (hlg : LG a g) (hlg2 : LG a2 g2) (h : PT tx m A L) (ho : mOrd m = nI k) (hk : k < 24) (hA : A < L) {c : Int32} (hc : tC tx A = c) (hr : tR tx = c)
    (hE : ∀ n b, a ≤ n → n ≤ g → a2 ≤ b → b ≤ g2 → Ent c (nI n) (nI b) (nI n) (nI b)) : OR tx m A L k (cTwo N tx c (nI a) (nI g) s (nI a2) (nI g2)) ((mTwo N (mSN m (nI A + 1) (mNum m)) (nI a) (nI g) s (nI a2) (nI g2)).bind fun r1 => mEnd c r1) := by
  have h2 : PT (tSA tx (nI (A + 1))) (mSN m (nI (A + 1)) (mNum m)) (A + 1) L := h.adv (by omega) _
  obtain ⟨A2, y, x, ok, e1, e2, e3, -, e4, e5⟩ := rfirst hN0 hlg h2
  unfold cTwo mTwo
  rw [X1_readSign N h, bsome, sgn_at hA hc, if_pos rfl, if_pos rfl, e3, bsome, nI_1, e4, bsome]
  cases ok with
  | false =>
    exact ⟨A2, false, _, mLet m, mFst m, mSnd m, y, mOrd m, by omega, e2, rfl, rfl, rfl, rfl, rfl, fun j hj => ⟨rfl, rfl, rfl⟩, fun z => (by cases z), fun _ => ho⟩
  | true =>
    obtain ⟨z1, n, rfl, rfl, z2, z3⟩ := e5 rfl
    rw [if_pos rfl, if_pos rfl]
    have h3 : PT (tSF (tSA tx (nI A2)) (nI n)) (mPr m (nI A2) (nI n) (nI k) (mLet m) (upd (mFst m) k (nI n)) (mSnd m)) A2 L := (h.adv e2 (nI n)).reg rfl rfl rfl rfl rfl rfl
    have et := X5_takes N h3 s
    have es := X1_readSign N h3 s
    show OR tx m A L k ((fX1_readSign N (tSF (tSA tx (nI A2)) (nI n)) s).bind _) ((ck (mOrd m) 24 ((fX5_takes N (mPr m (nI A2) (nI n) (mOrd m) (mLet m) (upd (mFst m) (mOrd m).toNatClampNeg (nI n)) (mSnd m)) s).bind _)).bind _)
    rw [ho, ck24 hk, nI_clamp (by omega), et, bsome, es, bsome]
    cases cs : sgn (tSF (tSA tx (nI A2)) (nI n)) A2 L s with
    | false =>
      exact ⟨A2, false, _, mLet m, upd (mFst m) k (nI n), mSnd m, nI n, nI k, by omega, e2, rfl, rfl, rfl, rfl, rfl, fun j hj => ⟨rfl, pk_un hj, rfl⟩, fun z => (by cases z), fun _ => rfl⟩
    | true =>
      have hA2 : A2 < L := (of_decide_eq_true cs).1
      rw [if_pos rfl, if_pos rfl, if_pos rfl]
      have h4 : PT (tSA (tSF (tSA tx (nI A2)) (nI n)) (nI (A2 + 1))) (mSN (mPr m (nI A2) (nI n) (nI k) (mLet m) (upd (mFst m) k (nI n)) (mSnd m)) (nI (A2 + 1)) (nI n)) (A2 + 1) L := h3.adv (by omega) (nI n)
      obtain ⟨A3, y2, x2, ok2, i1, i2, -, i3, i4, i5⟩ := rfirst hN0 hlg2 h4
      show OR tx m A L k ((fX1_readSecond N (tSA (tSF (tSA tx (nI A2)) (nI n)) (nI (A2 + 1))) (nI a2) (nI g2)).bind _) (((fX5_reads N (mSN (mPr m (nI A2) (nI n) (nI k) (mLet m) (upd (mFst m) k (nI n)) (mSnd m)) (nI (A2 + 1)) (nI n)) (nI a2) (nI g2)).bind _).bind _)
      rw [i3, bsome, i4, bsome]
      cases ok2 with
      | false =>
        exact ⟨A3, false, _, mLet m, upd (mFst m) k (nI n), mSnd m, y2, nI k, by omega, i2, rfl, rfl, rfl, rfl, rfl, fun j hj => ⟨rfl, pk_un hj, rfl⟩, fun z => (by cases z), fun _ => rfl⟩
      | true =>
        obtain ⟨w1, b, rfl, rfl, w2, w3⟩ := i5 rfl
        refine ⟨A3, true, _, upd (mLet m) k c, upd (mFst m) k (nI n), upd (mSnd m) k (nI b), nI b, nI (k + 1), by omega, i2, rfl, ?_, rfl, rfl, rfl, fun j hj => ⟨pk_un hj, pk_un hj, pk_un hj⟩, fun _ => ⟨by omega, rfl, pk_us.trans hr.symm, ?_⟩, fun z => (by cases z)⟩
        · rw [if_pos rfl, bsome]
          unfold mEnd
          rw [if_pos rfl]
          show ck (nI k) 24 (ck (nI k) 24 (some (mPr m (nI A3) (nI b) (nI k + 1) (upd (mLet m) (nI k).toNatClampNeg c) (upd (mFst m) k (nI n)) (upd (mSnd m) (nI k).toNatClampNeg (nI b)), true))) = _
          rw [ck24 hk, ck24 hk, nI_clamp (by omega), nI_1]
        · rw [pk_us, pk_us]
          show Ent (tR tx) (nI n) (nI b) (nI n) (nI b)
          rw [hr]
          exact hE n b z2 z3 w2 w3
theorem j60 (N : Nat) (m : VM) (c : Int32) : jX5_readOrder_60 N m c 1 = (fX5_readNumbers N (mSN m (mSpt m + 1) (mNum m)) c).bind fun r2 => mEnd c r2 := by
  unfold jX5_readOrder_60
  rw [if_neg (by decide), if_neg (by decide)]
  rfl
theorem bb {α β γ : Type} (x : Option (α × β)) (f : α × β → Option γ) : ((x.bind fun r1 => some (r1.1, r1.2)).bind fun r2 => f r2) = x.bind fun r1 => f (r1.1, r1.2) := by cases x <;> rfl
theorem rn98 (N : Nat) (m : VM) : fX5_readNumbers N m 98 = (fX5_reads N m 500 100000).bind fun r1 => some (r1.1, r1.2) := by
  unfold fX5_readNumbers; rw [if_pos rfl]
theorem rn104 (N : Nat) (m : VM) : fX5_readNumbers N m 104 = mTwo N m 0 19 44 1 60 := by
  unfold fX5_readNumbers; rw [if_neg (by decide), if_pos rfl]; rfl
theorem rn114 (N : Nat) (m : VM) : fX5_readNumbers N m 114 = (fX5_reads N m 1 60).bind fun r1 => some (r1.1, r1.2) := by
  unfold fX5_readNumbers; rw [if_neg (by decide), if_neg (by decide), if_pos rfl]
theorem rn117 (N : Nat) (m : VM) : fX5_readNumbers N m 117 = (fX5_reads N m 0 2).bind fun r1 => some (r1.1, r1.2) := by
  unfold fX5_readNumbers; rw [if_neg (by decide), if_neg (by decide), if_neg (by decide), if_pos rfl]
theorem rn119 (N : Nat) (m : VM) : fX5_readNumbers N m 119 = mTwo N m 0 2 43 0 19 := by
  unfold fX5_readNumbers; rw [if_neg (by decide), if_neg (by decide), if_neg (by decide), if_neg (by decide), if_pos rfl]; rfl
theorem order_same (hN0 : 2097152 ≤ N) (h : PT tx m A L) (ho : mOrd m = nI k) (hk : k < 24) : OR tx m A L k (fX1_readOrder N tx) (fX5_readOrder N m) := by
  have h0 := h
  obtain ⟨h1, h2, h3, h4, h5, h6, h7⟩ := h
  have no : ∀ tx2 : VT, tC tx2 = tC tx → tL tx2 = tL tx → tA tx2 = tA tx → OR tx m A L k (some (tx2, false)) (some (mSN m (mSpt m + 0) (mNum m), false)) := fun tx2 t1 t2 t3 =>
    ⟨A, false, tx2, mLet m, mFst m, mSnd m, mNum m, mOrd m, Nat.le_refl A, h1, rfl, by rw [h6, Int32.add_zero]; rfl, t1, t2, t3.trans h5, fun j hj => ⟨rfl, rfl, rfl⟩, fun z => (by cases z), fun _ => ho⟩
  unfold fX1_readOrder fX5_readOrder
  rw [X1_atEnd N h0, bsome, h4, h6]
  by_cases cA : A = L
  · rw [if_pos (decide_eq_true cA), if_pos (nI_le (by omega) (by omega))]
    have e : jX5_readOrder_24 N m 0 = some (mSN m (mSpt m + 0) (mNum m), false) := by
      unfold jX5_readOrder_24 jX5_readOrder_60
      rfl
    rw [e]
    exact no tx rfl rfl rfl
  · have hA : A < L := by omega
    have hbuf := h7 A hA
    rw [if_neg (fun z => cA (of_decide_eq_true z)), if_neg (nI_ge hA (by omega)), h5, ck60 (by omega), ck60 (by omega), nI_clamp (by omega), ← hbuf]
    generalize hc : tC tx A = c
    have hq : ((tC tx, tL tx, nI A, c, tF tx, tE tx) : VT) = tSR tx c := by rw [← h5]; rfl
    rw [hq]
    have hp : PT (tSR tx c) m A L := h0.reg rfl rfl rfl rfl rfl rfl
    unfold jX5_readOrder_24
    have or2 : ∀ X Y, OR (tSR tx c) m A L k X Y → OR tx m A L k X Y := fun X Y q => q
    by_cases c1 : c = 98
    · rw [if_pos c1, if_pos c1, j60, h6]
      subst c1
      rw [rn98, bb]
      exact or2 _ _ (one_same hN0 (a := 500) (g := 100000) (.inl ⟨rfl, rfl⟩) hp ho hk hA hc rfl (fun n e s1 q1 q2 => .inl ⟨rfl, n, q1, q2, rfl, rfl⟩))
    rw [if_neg c1, if_neg c1]
    by_cases c2 : c = 104
    · have d1 : ¬ c = 119 := by rw [c2]; decide
      have d2 : ¬ c = 117 := by rw [c2]; decide
      rw [if_pos c2, if_neg d1, if_neg d2, if_pos c2, j60, h6]
      subst c2
      rw [rn104]
      exact or2 _ _ (two_same hN0 (a := 0) (g := 19) (s := 44) (a2 := 1) (g2 := 60) (.inr (.inr (.inl ⟨rfl, rfl⟩))) (.inr (.inr (.inr ⟨rfl, rfl⟩))) hp ho hk hA hc rfl (fun n b q1 q2 q3 q4 => .inr (.inr (.inr (.inr ⟨rfl, n, b, q2, q3, q4, rfl, rfl, rfl, rfl⟩)))))
    rw [if_neg c2]
    by_cases c3 : c = 114
    · have d1 : ¬ c = 119 := by rw [c3]; decide
      have d2 : ¬ c = 117 := by rw [c3]; decide
      rw [if_pos c3, if_neg d1, if_neg d2, if_neg c2, if_pos c3, j60, h6]
      subst c3
      rw [rn114, bb]
      exact or2 _ _ (one_same hN0 (a := 1) (g := 60) (.inr (.inr (.inr ⟨rfl, rfl⟩))) hp ho hk hA hc rfl (fun n e s1 q1 q2 => .inr (.inr (.inl ⟨rfl, n, q1, q2, rfl, rfl⟩))))
    rw [if_neg c3]
    by_cases c4 : c = 117
    · have d1 : ¬ c = 119 := by rw [c4]; decide
      rw [if_pos c4, if_neg d1, if_pos c4, j60, h6]
      subst c4
      rw [rn117, bb]
      exact or2 _ _ (one_same hN0 (a := 0) (g := 2) (.inr (.inl ⟨rfl, rfl⟩)) hp ho hk hA hc rfl (fun n e s1 q1 q2 => .inr (.inl ⟨rfl, n, q2, rfl, rfl⟩)))
    rw [if_neg c4]
    by_cases c5 : c = 119
    · rw [if_pos c5, if_pos c5, j60, h6]
      subst c5
      rw [rn119]
      exact or2 _ _ (two_same hN0 (a := 0) (g := 2) (s := 43) (a2 := 0) (g2 := 19) (.inr (.inl ⟨rfl, rfl⟩)) (.inr (.inr (.inl ⟨rfl, rfl⟩))) hp ho hk hA hc rfl (fun n b q1 q2 q3 q4 => .inr (.inr (.inr (.inl ⟨rfl, n, b, q2, q4, rfl, rfl, rfl, rfl⟩)))))
    rw [if_neg c5, if_neg c5, if_neg c4, if_neg c2, if_neg c3]
    have e : jX5_readOrder_60 N m c 0 = some (mSN m (mSpt m + 0) (mNum m), false) := rfl
    rw [e]
    exact no (tSR tx c) rfl rfl rfl
end OD
