/-! a whole order text: reading and carrying out -/
/-- the class reads this order wherever it begins to read here -/
def OrdAt (N : Nat) (c0 : Nat → Int32) (L A A2 : Nat) (c s1 s2 : Int32) : Prop :=
  A + 2 ≤ A2 ∧ A2 ≤ L ∧ ∀ tx : VT, (∀ i, i < L → tC tx i = c0 i) → tL tx = nI L → tA tx = nI A →
    ∃ tx2, fX1_readOrder N tx = some (tx2, true) ∧ tC tx2 = tC tx ∧ tL tx2 = tL tx ∧ tA tx2 = nI A2 ∧ tR tx2 = c ∧ Ent c (tF tx2) (tE tx2) s1 s2
def Trc (N : Nat) (c0 : Nat → Int32) (L : Nat) (le fi se : Nat → Int32) : Nat → Nat → Nat → Prop
  | 0, _, _ => False
  | n + 1, A, i => ∃ A2, OrdAt N c0 L A A2 (le i) (fi i) (se i) ∧ ((n = 0 ∧ A2 = L) ∨ (0 < n ∧ A2 < L ∧ c0 A2 = 59 ∧ Trc N c0 L le fi se n (A2 + 1) (i + 1)))
section TR
variable {N : Nat} {tx : VT} {m : VM} {A L k : Nat}
theorem Trc.cong {c0 le fi se le2 fi2 se2 : Nat → Int32} : ∀ n A i, (∀ j, i ≤ j → le2 j = le j ∧ fi2 j = fi j ∧ se2 j = se j) → Trc N c0 L le fi se n A i → Trc N c0 L le2 fi2 se2 n A i
  | 0, _, _, _, h => h.elim
  | n + 1, A, i, e, h => by
    obtain ⟨A2, h1, h2⟩ := h
    refine ⟨A2, by rw [(e i (Nat.le_refl i)).1, (e i (Nat.le_refl i)).2.1, (e i (Nat.le_refl i)).2.2]; exact h1, ?_⟩
    rcases h2 with h2 | ⟨h3, h4, h5, h6⟩
    · exact .inl h2
    · exact .inr ⟨h3, h4, h5, Trc.cong n _ _ (fun j hj => e j (by omega)) h6⟩
theorem ord_at (hN0 : 2097152 ≤ N) (h : PT tx m A L) (ho : mOrd m = nI k) (hk : k < 24) {A2 : Nat} {n o : Int32} {le fi se : Nat → Int32} {tx2 : VT} (h1 : fX1_readOrder N tx = some (tx2, true)) (h2 : fX5_readOrder N m = some (mPr m (nI A2) n o le fi se, true)) (hA2 : A2 ≤ L) (h3 : A + 2 ≤ A2) :
    OrdAt N (mBuf m) L A A2 (le k) (fi k) (se k) := by
  refine ⟨h3, hA2, fun ty q1 q2 q3 => ?_⟩
  have hp : PT ty m A L := ⟨h.1, h.2.1, q2, h.2.2.2.1, q3, h.2.2.2.2.2.1, q1⟩
  obtain ⟨B2, ok, ty2, le', fi', se', n', o', e1, e2, e3, e4, e5, e6, e7, e8, e9, e10⟩ := order_same hN0 hp ho hk
  rw [h2] at e4
  have e11 := Option.some.inj e4
  have e12 : true = ok := congrArg Prod.snd e11
  have e13 := congrArg Prod.fst e11
  have hS : nI A2 = nI B2 := congrArg mSpt e13
  have hL : le = le' := congrArg mLet e13
  have hF : fi = fi' := congrArg mFst e13
  have hS2 : se = se' := congrArg mSnd e13
  subst e12 hL hF hS2
  obtain ⟨z1, z2, z3, z4⟩ := e9 rfl
  refine ⟨ty2, e3, e5, e6, by rw [e7, hS], z3.symm, ?_⟩
  rw [z3]
  exact z4
def rdF (r1 : VT ⊕ VT ⊕ VT ⊕ VT) : Option (VT × Bool) := Sum.elim (fun (t1 : (VT)) => some (t1, false)) (fun (y0 : (VT) ⊕ (VT) ⊕ (VT)) => Sum.elim (fun (t1 : (VT)) => some (t1, false)) (fun (y1 : (VT) ⊕ (VT)) => Sum.elim (fun (t1 : (VT)) => some (t1, true)) (fun (y2 : (VT)) => (fun (t1 : (VT)) => some (t1, false)) y2) y1) y0) r1
def icF (r2 : VM × Int32) : Option (VM × Bool) := if r2.2 = (0 : Int32) then some (r2.1, false) else (if (mSpt r2.1) = (mLen r2.1) then some (r2.1, true) else some (r2.1, false))
theorem icF_0 (m : VM) : icF (m, b2i false) = some (m, false) := if_pos rfl
theorem icF_t {m : VM} (h : mSpt m = mLen m) : icF (m, b2i true) = some (m, true) := (if_neg (show ¬ b2i true = 0 by decide)).trans (if_pos h)
theorem icF_f {m : VM} (h : ¬ mSpt m = mLen m) : icF (m, b2i true) = some (m, false) := (if_neg (show ¬ b2i true = 0 by decide)).trans (if_neg h)
theorem oassoc {α β γ : Type} (x : Option α) (f : α → Option β) (g : β → Option γ) : ((x.bind f).bind g) = x.bind fun y => (f y).bind g := by cases x <;> rfl
/-- the end of a reading of the whole buffer -/
def PA (N : Nat) (tx : VT) (m : VM) (A L i : Nat) (X : Option (VT × Bool)) (Y : Option (VM × Bool)) : Prop :=
  ∃ tx2 A2 n o le fi se res, X = some (tx2, res) ∧ Y = some (mPr m (nI A2) n o le fi se, res) ∧ tC tx2 = tC tx ∧ tL tx2 = tL tx ∧ tA tx2 = nI A2 ∧ A2 ≤ L ∧ (∀ j, j < i → le j = mLet m j ∧ fi j = mFst m j ∧ se j = mSnd m j) ∧
    (res = true → A2 = L ∧ ∃ K, 0 < K ∧ i + K ≤ 20 ∧ o = nI (i + K) ∧ Trc N (mBuf m) L le fi se K A i)
theorem parse (hN0 : 2097152 ≤ N) : ∀ d tx m A i f g, PT tx m A L → L - A ≤ d → mOrd m = nI i → 3 * i ≤ A → d + 1 < f → d + 1 < g →
    PA N tx m A L i ((lX1_readAll_7 N f tx (nI i)).bind rdF) (((fX5_readOrder N m).bind fun r1 => lX5_isComplete_15 N g r1.1 (b2i r1.2)).bind icF) := by
  intro d
  induction d using Nat.strongRecOn with
  | ind d ih =>
    intro tx m A i f g h hd ho h3 hf hg
    obtain ⟨f, rfl⟩ : ∃ x, f = x + 1 := ⟨f - 1, by omega⟩
    obtain ⟨g, rfl⟩ : ∃ x, g = x + 1 := ⟨g - 1, by omega⟩
    have h60 := h.2.1
    have hAL := h.1
    obtain ⟨A2, ok, tx2, le, fi, se, n, o, e1, e2, e3, e4, e5, e6, e7, e8, e9, e10⟩ := order_same hN0 h ho (show i < 24 by omega)
    rw [lX1_readAll_7, if_neg (show ¬ (60 : Int32) ≤ nI i from nI_ge (b := 60) (by omega) (by decide)), e3, bsome, e4, bsome]
    have hp : PT tx2 (mPr m (nI A2) n o le fi se) A2 L := ⟨e2, h.2.1, e6.trans h.2.2.1, h.2.2.2.1, e7, rfl, fun j hj => by rw [e5]; exact h.2.2.2.2.2.2 j hj⟩
    cases ok with
    | false =>
      simp only [Bool.false_eq_true, if_false]
      rw [lX5_isComplete_15, if_pos (show b2i false = 0 from rfl)]
      exact ⟨tx2, A2, n, o, le, fi, se, false, rfl, icF_0 _, e5, e6, e7, e2, fun j hj => e8 j (by omega), fun z => (by cases z)⟩
    | true =>
      obtain ⟨z1, rfl, z3, z4⟩ := e9 rfl
      have hoa := ord_at hN0 h ho (show i < 24 by omega) e3 e4 e2 z1
      have ht := X5_takes N hp 59
      have hs := X1_readSign N hp 59
      rw [if_pos rfl, X1_atEnd N hp, bsome, lX5_isComplete_15, if_neg (show ¬ b2i true = 0 by decide), ht, bsome]
      by_cases c : A2 = L
      · have c2 : sgn tx2 A2 L 59 = false := decide_eq_false (fun z => by omega)
        rw [if_pos (decide_eq_true c), c2]
        refine ⟨tx2, A2, n, nI (i + 1), le, fi, se, true, rfl, ?_, e5, e6, e7, e2, fun j hj => e8 j (by omega), fun _ => ⟨c, 1, by omega, by omega, rfl, A2, hoa, .inl ⟨rfl, c⟩⟩⟩
        exact icF_t (show nI A2 = mLen m by rw [h.2.2.2.1, c])
      · rw [if_neg (fun z => c (of_decide_eq_true z)), hs, bsome]
        cases cs : sgn tx2 A2 L 59 with
        | false =>
          refine ⟨tSA tx2 (nI A2), A2, n, nI (i + 1), le, fi, se, false, rfl, ?_, e5, e6, rfl, e2, fun j hj => e8 j (by omega), fun z => (by cases z)⟩
          exact icF_f (show ¬ nI A2 = mLen m from fun z => by
            rw [h.2.2.2.1] at z
            exact c ((nI_eq (by omega) (by omega)).mp z))
        | true =>
          obtain ⟨q1, q2⟩ := of_decide_eq_true cs
          rw [if_pos rfl, if_pos rfl, if_pos rfl, nI_1]
          have hp2 : PT (tSA tx2 (nI (A2 + 1))) (mSN (mPr m (nI A2) n (nI (i + 1)) le fi se) (nI (A2 + 1)) n) (A2 + 1) L := hp.adv (by omega) n
          obtain ⟨ty, B2, n2, o2, le2, fi2, se2, res, i1, i2, i3, i4, i5, i6, i7, i8⟩ := ih (L - (A2 + 1)) (by omega) (tSA tx2 (nI (A2 + 1))) (mSN (mPr m (nI A2) n (nI (i + 1)) le fi se) (nI (A2 + 1)) n) (A2 + 1) (i + 1) f g hp2 (Nat.le_refl _) rfl (by omega) (by omega) (by omega)
          refine ⟨ty, B2, n2, o2, le2, fi2, se2, res, i1, i2, i3.trans e5, i4.trans e6, i5, i6, fun j hj => ?_, fun z => ?_⟩
          · obtain ⟨w1, w2, w3⟩ := i7 j (by omega)
            obtain ⟨w4, w5, w6⟩ := e8 j (by omega)
            exact ⟨w1.trans w4, w2.trans w5, w3.trans w6⟩
          · obtain ⟨w1, K, w2, w3, w4, w5⟩ := i8 z
            obtain ⟨y1, y2, y3⟩ := i7 i (by omega)
            refine ⟨w1, K + 1, by omega, by omega, by rw [w4]; congr 1; omega, A2, ?_, .inr ⟨w2, q1, ?_, w5⟩⟩
            · rw [y1, y2, y3]; exact hoa
            · exact (hp.2.2.2.2.2.2 A2 q1).symm.trans q2
theorem read_same (hN0 : 2097152 ≤ N) (h0 : L ≤ 60) (h1 : tL tx = nI L) (h2 : mLen m = nI L) (h3 : ∀ i, i < L → tC tx i = mBuf m i) : PA N tx m 0 L 0 (fX1_readAll N tx) (fX5_isComplete N m) := by
  have hp : PT (tSA tx 0) (mPr m 0 (mNum m) 0 (mLet m) (mFst m) (mSnd m)) 0 L := ⟨Nat.zero_le _, h0, h1, h2, rfl, rfl, h3⟩
  have h := parse hN0 L (tSA tx 0) (mPr m 0 (mNum m) 0 (mLet m) (mFst m) (mSnd m)) 0 0 N N hp (by omega) rfl (by omega) (by omega) (by omega)
  obtain ⟨tx2, A2, n, o, le, fi, se, res, e1, e2, e3⟩ := h
  refine ⟨tx2, A2, n, o, le, fi, se, res, e1, ?_, e3⟩
  rw [oassoc] at e2
  exact e2
theorem b2i1 : (b2i true = 0) = False := by simp [b2i]
theorem exec (hN0 : 2097152 ≤ N) (z : VV) {c0 : Nat → Int32} (hL : L ≤ 60) {le fi se : Nat → Int32} : ∀ n A i q v tx m f g, Trc N c0 L le fi se n A i → q + 20 * n ≤ 900000 → SS q v (mRow m) → (∀ j, j < L → tC tx j = c0 j) → tL tx = nI L → tA tx = nI A → mLet m = le → mFst m = fi → mSnd m = se → mOrd m = nI (i + n) → i + n ≤ 20 → n + 1 < f → n + 1 < g →
    ∃ v2 tx2 r2 x, lX4_execute_41 N z f v tx (nI i) = some (v2, tx2, nI x) ∧ lX5_execute_24 N g m (nI i) = some (mR m r2, nI x) ∧ SS (q + 20 * n) v2 r2 ∧ tC tx2 = tC tx ∧ tL tx2 = tL tx := by
  intro n
  induction n with
  | zero => intro A i q v tx m f g h; exact h.elim
  | succ n ih =>
    intro A i q v tx m f g ht hq hs hC hT hA hle hfi hse ho h20 hf hg
    obtain ⟨f, rfl⟩ : ∃ x, f = x + 1 := ⟨f - 1, by omega⟩
    obtain ⟨g, rfl⟩ : ∃ x, g = x + 1 := ⟨g - 1, by omega⟩
    obtain ⟨A2, ⟨o1, o2, o3⟩, t2⟩ := ht
    obtain ⟨tx2, p1, p2, p3, p4, p5, p6⟩ := o3 tx hC hT hA
    obtain ⟨v2, r2, ok, d1, d2, d3⟩ := done_same (N := N) (i := i) hN0 (show q ≤ 900000 by omega) hs (by omega) p6 (by rw [hle]) (by rw [hfi]) (by rw [hse])
    rw [lX4_execute_41, if_neg (show ¬ (60 : Int32) ≤ nI i from nI_ge (b := 60) (by omega) (by decide)), p1, bsome, if_pos rfl, p5, d1, bsome, lX5_execute_24, ho, if_neg (nI_ge (by omega) (by omega)), d2, bsome]
    cases ok with
    | false =>
      simp only [Bool.false_eq_true, if_false]
      exact ⟨v2, tx2, r2, i, rfl, rfl, d3.mono (by omega), p2, p3⟩
    | true =>
      rw [if_pos rfl, if_pos rfl, nI_1]
      have hpt : PT tx2 (mRow m, mSav m, mSvn m, mSnp m, mKep m, mThr m, mFre m, mFrn m, tC tx2, nI L, nI A2, mNum m, mOrd m, mLet m, mFst m, mSnd m, mTok m, mLft m) A2 L := ⟨o2, hL, p3.trans hT, rfl, p4, rfl, fun _ _ => rfl⟩
      rw [X1_readSign N hpt 59, bsome]
      rcases t2 with ⟨rfl, c⟩ | ⟨c1, c2, c3, c4⟩
      · have c2 : sgn tx2 A2 L 59 = false := decide_eq_false (fun z => by omega)
        obtain ⟨f, rfl⟩ : ∃ x, f = x + 1 := ⟨f - 1, by omega⟩
        obtain ⟨g, rfl⟩ : ∃ x, g = x + 1 := ⟨g - 1, by omega⟩
        have hpe : PT (tSA tx2 (nI A2)) (mRow m, mSav m, mSvn m, mSnp m, mKep m, mThr m, mFre m, mFrn m, tC tx2, nI L, nI A2, mNum m, mOrd m, mLet m, mFst m, mSnd m, mTok m, mLft m) A2 L := ⟨o2, hL, p3.trans hT, rfl, rfl, rfl, fun _ _ => rfl⟩
        have hend : fX1_readOrder N (tSA tx2 (nI A2)) = some (tSA tx2 (nI A2), false) := by
          unfold fX1_readOrder
          rw [X1_atEnd N hpe, bsome, if_pos (decide_eq_true c)]
        rw [c2]
        show ∃ v2' tx2' r2' x, lX4_execute_41 N z (f + 1) v2 (tSA tx2 (nI A2)) (nI (i + 1)) = _ ∧ _
        rw [lX4_execute_41, if_neg (show ¬ (60 : Int32) ≤ nI (i + 1) from nI_ge (b := 60) (by omega) (by decide)), hend, bsome, if_neg (show ¬ false = true by decide), lX5_execute_24, if_pos (show mOrd (mR m r2) ≤ nI (i + 1) from by rw [show mOrd (mR m r2) = nI (i + (0 + 1)) from ho]; exact Int32.le_refl _)]
        exact ⟨v2, _, r2, i + 1, rfl, rfl, d3.mono (by omega), p2, p3⟩
      · have c5 : sgn tx2 A2 L 59 = true := decide_eq_true ⟨c2, by rw [p2, hC A2 c2]; exact c3⟩
        rw [c5, if_pos rfl]
        obtain ⟨v3, tx3, r3, x, i1, i2, i3, i4, i5⟩ := ih (A2 + 1) (i + 1) (q + 20) v2 (tSA tx2 (nI (A2 + 1))) (mR m r2) f g c4 (by omega) d3 (fun j hj => by show tC tx2 j = _; rw [p2]; exact hC j hj) (p3.trans hT) rfl hle hfi hse (by show mOrd m = _; rw [ho]; congr 1; omega) (by omega) (by omega) (by omega)
        exact ⟨v3, tx3, r3, x, i1, i2, i3.mono (by omega), i4.trans p2, i5.trans p3⟩
end TR
