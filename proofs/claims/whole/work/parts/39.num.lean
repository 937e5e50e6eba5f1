/-! the order text: signs and numbers -/
def PT (tx : VT) (m : VM) (A L : Nat) : Prop := A ≤ L ∧ L ≤ 60 ∧ tL tx = nI L ∧ mLen m = nI L ∧ tA tx = nI A ∧ mSpt m = nI A ∧ ∀ i, i < L → tC tx i = mBuf m i
def tSA (tx : VT) (a : Int32) : VT := (tC tx, tL tx, a, tR tx, tF tx, tE tx)
def tSF (tx : VT) (a : Int32) : VT := (tC tx, tL tx, tA tx, tR tx, a, tE tx)
def tSE (tx : VT) (a : Int32) : VT := (tC tx, tL tx, tA tx, tR tx, tF tx, a)
def tSR (tx : VT) (a : Int32) : VT := (tC tx, tL tx, tA tx, a, tF tx, tE tx)
def mSN (m : VM) (s n : Int32) : VM := (mRow m, mSav m, mSvn m, mSnp m, mKep m, mThr m, mFre m, mFrn m, mBuf m, mLen m, s, n, mOrd m, mLet m, mFst m, mSnd m, mTok m, mLft m)
theorem ck60 {α : Type} {i : Nat} {X : Option α} (h : i < 60) : ck (nI i) 60 X = X := ck_n h (by decide)
section TN
variable {N : Nat} {tx : VT} {m : VM} {A L : Nat}
theorem PT.adv (h : PT tx m A L) {A2 : Nat} (h2 : A2 ≤ L) (n : Int32) : PT (tSA tx (nI A2)) (mSN m (nI A2) n) A2 L := ⟨h2, h.2.1, h.2.2.1, h.2.2.2.1, rfl, rfl, h.2.2.2.2.2.2⟩
theorem X1_atEnd (N : Nat) (h : PT tx m A L) : fX1_isAtEnd N tx = some (decide (A = L)) := by
  obtain ⟨h1, h2, h3, h4, h5, h6, h7⟩ := h
  unfold fX1_isAtEnd
  rw [h3, h5]
  by_cases c : A = L
  · rw [if_neg (nI_nlt (by omega) (by omega))]; simp [c]
  · rw [if_pos (nI_lt (by omega) (by omega))]; simp [c]
theorem X5_isAt (N : Nat) (h : PT tx m A L) (a b : Int32) : fX5_isAt N m a b = some (decide (A < L ∧ a ≤ tC tx A ∧ tC tx A ≤ b)) := by
  obtain ⟨h1, h2, h3, h4, h5, h6, h7⟩ := h
  unfold fX5_isAt
  rw [h4, h6]
  by_cases c : A < L
  · rw [if_neg (nI_ge c (by omega)), ck60 (by omega), nI_clamp (by omega), ← h7 A c, in_n, bsome]
    by_cases c2 : a ≤ tC tx A ∧ tC tx A ≤ b
    · rw [if_pos (decide_eq_true c2)]; simp [c, c2]
    · rw [if_neg (fun z => c2 (of_decide_eq_true z))]; simp [c2]
  · rw [if_pos (nI_le (by omega) (by omega))]; simp [c]
/-- a sign at this place -/
def sgn (tx : VT) (A L : Nat) (p : Int32) : Bool := decide (A < L ∧ tC tx A = p)
theorem X1_readSign (N : Nat) (h : PT tx m A L) (p : Int32) : fX1_readSign N tx p = some (tSA tx (nI (if sgn tx A L p = true then A + 1 else A)), sgn tx A L p) := by
  have h0 := h
  obtain ⟨h1, h2, h3, h4, h5, h6, h7⟩ := h
  have e : tSA tx (nI A) = tx := by rw [← h5]; rfl
  unfold fX1_readSign
  rw [X1_atEnd N h0, bsome]
  by_cases c : A = L
  · have hs : sgn tx A L p = false := by unfold sgn; simp [c]
    rw [if_pos (decide_eq_true c), hs, if_neg (by decide), e]
  · rw [if_neg (fun z => c (of_decide_eq_true z)), h5, ck60 (by omega), nI_clamp (by omega)]
    by_cases c2 : tC tx A = p
    · have hs : sgn tx A L p = true := by unfold sgn; simp [c2]; omega
      rw [if_pos c2, hs, if_pos rfl, nI_1]
      rfl
    · have hs : sgn tx A L p = false := by unfold sgn; simp [c2]
      rw [if_neg c2, hs, if_neg (by decide), e]
theorem X5_takes (N : Nat) (h : PT tx m A L) (p : Int32) : fX5_takes N m p = some (mSN m (nI (if sgn tx A L p = true then A + 1 else A)) (mNum m), sgn tx A L p) := by
  have h6 := h.2.2.2.2.2.1
  have e : decide (A < L ∧ p ≤ tC tx A ∧ tC tx A ≤ p) = sgn tx A L p := by
    unfold sgn
    refine decide_eq_decide.mpr ⟨fun z => ⟨z.1, ?_⟩, fun z => ⟨z.1, ?_⟩⟩
    · have z1 := (fa_le _ _).mp z.2.1
      have z2 := (fa_le _ _).mp z.2.2
      exact (fa_eq _ _).mpr (by omega)
    · rw [z.2]; exact ⟨Int32.le_refl _, Int32.le_refl _⟩
  unfold fX5_takes
  rw [X5_isAt N h, bsome, e, h6]
  cases c : sgn tx A L p with
  | true => rw [if_pos rfl, if_pos rfl, nI_1]; rfl
  | false => rw [if_neg (by decide), if_neg (by decide), Int32.add_zero]; rfl
theorem i48 : (48 : Int32).toInt = 48 := by decide +kernel
theorem i49 : (49 : Int32).toInt = 49 := by decide +kernel
theorem i57 : (57 : Int32).toInt = 57 := by decide +kernel
/-- a digit here: its value -/
theorem dig {s : Int32} (h1 : 48 ≤ s) (h2 : s ≤ 57) : ∃ d, d ≤ 9 ∧ s = nI (48 + d) := by
  rw [fa_le, i48] at h1
  rw [fa_le, i57] at h2
  obtain ⟨j, hj, rfl⟩ := nI_of (x := s) (fun q => by rw [fa_lt, z0] at q; omega)
  rw [nI_toInt hj] at h1 h2
  exact ⟨j - 48, by omega, congrArg nI (by omega)⟩
theorem wd_no (N : Nat) {n s : Int32} (h : ¬ (48 ≤ s ∧ s ≤ 57)) : fX1_withDigit N n s = some (-1) := by
  unfold fX1_withDigit
  by_cases c1 : s < 48
  · rw [if_pos c1]
  · rw [if_neg c1]
    by_cases c2 : 57 < s
    · rw [if_pos c2]
    · exact absurd ⟨Int32.not_lt.mp c1, Int32.not_lt.mp c2⟩ h
theorem wd_yes (N : Nat) {n : Int32} {d : Nat} (h : d ≤ 9) : fX1_withDigit N n (nI (48 + d)) = some (if n = 0 then -1 else if n = -1 then nI d else n * 10 + nI (48 + d) - 48) := by
  unfold fX1_withDigit
  rw [if_neg (show ¬ nI (48 + d) < 48 from nI_nlt (b := 48) (by omega) (by omega)), if_neg (show ¬ (57 : Int32) < nI (48 + d) from nI_nlt (a := 57) (by omega) (by decide))]
  have e : nI (48 + d) - 48 = nI d := by rw [show nI (48 + d) - 48 = nI (48 + d - 48) from nI_sub (b := 48) (by omega), Nat.add_sub_cancel_left]
  (repeat' split) <;> first | rfl | rw [e]
/-- the least and the greatest number that an order can have -/
def LG (a g : Nat) : Prop := (a = 500 ∧ g = 100000) ∨ (a = 0 ∧ g = 2) ∨ (a = 0 ∧ g = 19) ∨ (a = 1 ∧ g = 60)
def lo (a : Nat) : Nat := min a 1
theorem cb_n (N : Nat) {a g n : Nat} (h : LG a g) (hn : n < 2 ^ 31) : fX1_canBegin N (nI n) (nI a) (nI g) = some (decide (lo a ≤ n ∧ n ≤ g)) := by
  have e : jmin (nI a) 1 = nI (lo a) := by
    rcases h with ⟨rfl, rfl⟩ | ⟨rfl, rfl⟩ | ⟨rfl, rfl⟩ | ⟨rfl, rfl⟩ <;> decide +kernel
  have hg : g ≤ 100000 := by rcases h with ⟨rfl, rfl⟩ | ⟨rfl, rfl⟩ | ⟨rfl, rfl⟩ | ⟨rfl, rfl⟩ <;> omega
  have hlo : lo a ≤ 1 := by unfold lo; omega
  unfold fX1_canBegin
  rw [e]
  by_cases c : n < lo a
  · rw [if_pos (nI_lt c (by omega))]; simp; omega
  · rw [if_neg (nI_nlt (by omega) hn)]
    by_cases c2 : g < n
    · rw [if_pos (nI_lt c2 hn)]; simp; omega
    · rw [if_neg (nI_nlt (by omega) (by omega))]; simp; omega
theorem cb_m1 (N : Nat) {a g : Nat} (h : LG a g) : fX1_canBegin N (-1) (nI a) (nI g) = some false := by
  have e : jmin (nI a) 1 = nI (lo a) := by
    rcases h with ⟨rfl, rfl⟩ | ⟨rfl, rfl⟩ | ⟨rfl, rfl⟩ | ⟨rfl, rfl⟩ <;> decide +kernel
  have hlo : lo a ≤ 1 := by unfold lo; omega
  unfold fX1_canBegin
  rw [e, if_pos]
  rw [fa_lt, m1I, nI_toInt (by omega)]
  omega
theorem num_loop (hN0 : 2097152 ≤ N) {a g : Nat} (hlg : LG a g) (h : PT tx m A L) :
    ∀ k A n f e, A + k = L → k < f → k < e → n ≤ g →
    ∃ A2 n2 u, lX1_readNumber_2 N (nI a) (nI g) f (tSA tx (nI A)) (nI n) = some u ∧ (u = .inl (tSA tx (nI A2), nI n2) ∨ u = .inr (tSA tx (nI A2), nI n2)) ∧ lX5_reads_64 N (nI a) (nI g) e (mSN m (nI A) (nI n)) = some (mSN m (nI A2) (nI n2)) ∧ A ≤ A2 ∧ A2 ≤ L ∧ n2 ≤ g := by
  have hg : g ≤ 100000 := by rcases hlg with ⟨rfl, rfl⟩ | ⟨rfl, rfl⟩ | ⟨rfl, rfl⟩ | ⟨rfl, rfl⟩ <;> omega
  intro k
  induction k with
  | zero =>
    intro A n f e hA hf he hn
    obtain ⟨f, rfl⟩ : ∃ x, f = x + 1 := ⟨f - 1, by omega⟩
    obtain ⟨e, rfl⟩ : ∃ x, e = x + 1 := ⟨e - 1, by omega⟩
    have hp := h.adv (A2 := A) (by omega) (nI n)
    have hat : fX5_isAt N (mSN m (nI A) (nI n)) 48 57 = some (decide (A < L ∧ 48 ≤ tC tx A ∧ tC tx A ≤ 57)) := X5_isAt N hp 48 57
    refine ⟨A, n, .inl (tSA tx (nI A), nI n), ?_, .inl rfl, ?_, Nat.le_refl _, by omega, hn⟩
    · rw [lX1_readNumber_2, show tL (tSA tx (nI A)) = nI L from h.2.2.1, show tA (tSA tx (nI A)) = nI A from rfl, if_pos (nI_le (by omega) (by have := h.2.1; omega))]
    · rw [lX5_reads_64, hat, bsome, if_neg (show ¬ decide (A < L ∧ 48 ≤ tC tx A ∧ tC tx A ≤ 57) = true from fun z => by have := (of_decide_eq_true z).1; omega)]
      split <;> rfl
  | succ k ih =>
    intro A n f e hA hf he hn
    obtain ⟨f, rfl⟩ : ∃ x, f = x + 1 := ⟨f - 1, by omega⟩
    obtain ⟨e, rfl⟩ : ∃ x, e = x + 1 := ⟨e - 1, by omega⟩
    have hL := h.2.1
    have hp := h.adv (A2 := A) (by omega) (nI n)
    have hat : fX5_isAt N (mSN m (nI A) (nI n)) 48 57 = some (decide (A < L ∧ 48 ≤ tC tx A ∧ tC tx A ≤ 57)) := X5_isAt N hp 48 57
    have hb : mBuf (mSN m (nI A) (nI n)) A = tC tx A := (h.2.2.2.2.2.2 A (by omega)).symm
    rw [lX1_readNumber_2, show tL (tSA tx (nI A)) = nI L from h.2.2.1, show tA (tSA tx (nI A)) = nI A from rfl, if_neg (nI_ge (by omega) (by omega)), ck60 (by omega), nI_clamp (by omega), show tC (tSA tx (nI A)) A = tC tx A from rfl, lX5_reads_64, hat, bsome, show mSpt (mSN m (nI A) (nI n)) = nI A from rfl, ck60 (by omega), ck60 (by omega), nI_clamp (by omega), hb, show mNum (mSN m (nI A) (nI n)) = nI n from rfl]
    have stop : ∃ A2 n2 u, (some (Sum.inr (tSA tx (nI A), nI n)) : Option ((VT × Int32) ⊕ (VT × Int32))) = some u ∧ (u = .inl (tSA tx (nI A2), nI n2) ∨ u = .inr (tSA tx (nI A2), nI n2)) ∧ some (mSN m (nI A) (nI n)) = some (mSN m (nI A2) (nI n2)) ∧ A ≤ A2 ∧ A2 ≤ L ∧ n2 ≤ g := ⟨A, n, _, rfl, .inr rfl, rfl, Nat.le_refl _, by omega, hn⟩
    by_cases c : 48 ≤ tC tx A ∧ tC tx A ≤ 57
    · obtain ⟨d, hd, ed⟩ := dig c.1 c.2
      rw [if_pos (decide_eq_true (show A < L ∧ 48 ≤ tC tx A ∧ tC tx A ≤ 57 from ⟨by omega, c⟩)), ed, wd_yes N hd, bsome]
      by_cases c0 : n = 0
      · subst c0
        rw [if_pos (show nI 0 = (0 : Int32) from rfl), cb_m1 N hlg, bsome, if_neg (by decide), if_pos (show nI 0 ≤ (0 : Int32) by decide)]
        exact stop
      · have e1 : nI n * 10 + nI (48 + d) - 48 = nI (10 * n + d) := by
          rw [show nI n * 10 = nI (n * 10) from nI_mul n 10, nI_add, show nI (n * 10 + (48 + d)) - 48 = nI (n * 10 + (48 + d) - 48) from nI_sub (b := 48) (by omega)]
          congr 1; omega
        have e2 : 10 * nI n + nI (48 + d) - 48 = nI (10 * n + d) := by
          rw [show 10 * nI n = nI (10 * n) from nI_mul 10 n, nI_add, show nI (10 * n + (48 + d)) - 48 = nI (10 * n + (48 + d) - 48) from nI_sub (b := 48) (by omega)]
          congr 1; omega
        rw [if_neg (nI_ne0 (by omega) (by omega)), if_neg (nI_m1 (by omega)), e1, e2, cb_n N hlg (by omega), bsome, if_neg (nI_nle (by omega) (by omega))]
        have hlo : lo a ≤ 1 := by unfold lo; omega
        by_cases cg : 10 * n + d ≤ g
        · rw [if_pos (decide_eq_true ⟨by omega, cg⟩), if_neg (nI_nlt (by omega) (by omega)), nI_1]
          obtain ⟨A2, n2, u, i1, i2, i3, i4, i5, i6⟩ := ih (A + 1) (10 * n + d) f e (by omega) (by omega) (by omega) cg
          have q : ((tC (tSA tx (nI A)), nI L, nI (A + 1), tR (tSA tx (nI A)), tF (tSA tx (nI A)), tE (tSA tx (nI A))) : VT) = tSA tx (nI (A + 1)) := by rw [← h.2.2.1]; rfl
          rw [q]
          exact ⟨A2, n2, u, i1, i2, i3, by omega, i5, i6⟩
        · rw [if_neg (fun z => cg (of_decide_eq_true z).2), if_pos (nI_lt (by omega) (by omega))]
          exact stop
    · rw [if_neg (show ¬ decide (A < L ∧ 48 ≤ tC tx A ∧ tC tx A ≤ 57) = true from fun z => c (of_decide_eq_true z).2), wd_no N c, bsome, cb_m1 N hlg, bsome, if_neg (show ¬ false = true by decide)]
      have e3 : (if nI n ≤ 0 then some (mSN m (nI A) (nI n)) else some (mSN m (nI A) (nI n))) = some (mSN m (nI A) (nI n)) := by split <;> rfl
      rw [e3]
      exact stop
theorem num_same (hN0 : 2097152 ≤ N) {a g : Nat} (hlg : LG a g) (h : PT tx m A L) :
    ∃ A2 y x ok, A ≤ A2 ∧ A2 ≤ L ∧ fX1_readNumber N tx (nI a) (nI g) = some (tSA tx (nI A2), x) ∧ fX5_reads N m (nI a) (nI g) = some (mSN m (nI A2) y, ok) ∧ (ok = true → A < A2 ∧ ∃ n, x = nI n ∧ y = nI n ∧ a ≤ n ∧ n ≤ g) ∧ (ok = false → x = -1) := by
  have hg : g ≤ 100000 := by rcases hlg with ⟨rfl, rfl⟩ | ⟨rfl, rfl⟩ | ⟨rfl, rfl⟩ | ⟨rfl, rfl⟩ <;> omega
  have ha : a ≤ 500 := by rcases hlg with ⟨rfl, rfl⟩ | ⟨rfl, rfl⟩ | ⟨rfl, rfl⟩ | ⟨rfl, rfl⟩ <;> omega
  have h0 := h
  obtain ⟨h1, h2, h3, h4, h5, h6, h7⟩ := h
  have et : tSA tx (nI A) = tx := by rw [← h5]; rfl
  have em : mSN m (nI A) (mNum m) = m := by rw [← h6]; rfl
  have hm1 : (-1 : Int32) < nI a := by rw [fa_lt, m1I, nI_toInt (by omega)]; omega
  -- the reference: whether the first sign is a digit that may begin
  have mo : fX5_reads N m (nI a) (nI g) = (if decide (A < L ∧ nI (48 + lo a) ≤ tC tx A ∧ tC tx A ≤ 57) = true then ck (nI A) 60 (if tC tx A - 48 ≤ nI g then ck (nI A) 60 ((lX5_reads_64 N (nI a) (nI g) N (mSN m (nI A + 1) (tC tx A - 48))).bind fun r2 => if mNum r2 < nI a then some (r2, false) else some (r2, true)) else some (m, false)) else some (m, false)) := by
    unfold fX5_reads
    rw [X5_isAt N h0, X5_isAt N h0, bsome, bsome, h6]
    by_cases ca : A < L
    · rw [nI_clamp (by omega), ← h7 A ca]
      by_cases c0 : a = 0
      · subst c0
        rw [if_pos (show nI 0 ≤ (0 : Int32) by decide)]
        rfl
      · have el : lo a = 1 := by unfold lo; omega
        rw [if_neg (nI_nle (by omega) (by omega)), el]
        rfl
    · have z1 : ∀ p q : Int32, decide (A < L ∧ p ≤ tC tx A ∧ tC tx A ≤ q) = false := fun p q => decide_eq_false (fun z => ca z.1)
      simp only [z1, Bool.false_eq_true, if_false, ite_self]
  have hfail : (¬ (A < L ∧ nI (48 + lo a) ≤ tC tx A ∧ tC tx A ≤ 57) ∨ ¬ tC tx A - 48 ≤ nI g) → (A < L → ∃ w, fX1_withDigit N (-1) (tC tx A) = some w ∧ fX1_canBegin N w (nI a) (nI g) = some false) → 
      ∃ A2 y x ok, A ≤ A2 ∧ A2 ≤ L ∧ fX1_readNumber N tx (nI a) (nI g) = some (tSA tx (nI A2), x) ∧ fX5_reads N m (nI a) (nI g) = some (mSN m (nI A2) y, ok) ∧ (ok = true → A < A2 ∧ ∃ n, x = nI n ∧ y = nI n ∧ a ≤ n ∧ n ≤ g) ∧ (ok = false → x = -1) := fun hf hw => by
    refine ⟨A, mNum m, -1, false, Nat.le_refl _, h1, ?_, ?_, fun z => (by cases z), fun _ => rfl⟩
    · rw [et]
      unfold fX1_readNumber
      obtain ⟨n, hn⟩ : ∃ x, N = x + 1 := ⟨N - 1, by omega⟩
      have : ∀ M, M = n + 1 → ∃ u, lX1_readNumber_2 N (nI a) (nI g) M tx (-1) = some u ∧ (u = .inl (tx, -1) ∨ u = .inr (tx, -1)) := fun M hM => by
        subst hM
        rw [lX1_readNumber_2, h3, h5]
        by_cases ca : A < L
        · obtain ⟨w, w1, w2⟩ := hw ca
          rw [if_neg (nI_ge ca (by omega)), ck60 (by omega), nI_clamp (by omega), w1, bsome, w2, bsome, if_neg (by decide)]
          exact ⟨_, rfl, .inr rfl⟩
        · rw [if_pos (nI_le (by omega) (by omega))]
          exact ⟨_, rfl, .inl rfl⟩
      obtain ⟨u, u1, u2⟩ := this N hn
      rw [u1, bsome]
      rcases u2 with rfl | rfl
      · exact if_pos hm1
      · exact if_pos hm1
    · rw [mo, em]
      by_cases ca : A < L ∧ nI (48 + lo a) ≤ tC tx A ∧ tC tx A ≤ 57
      · rcases hf with hf | hf
        · exact absurd ca hf
        · rw [if_pos (decide_eq_true ca), ck60 (by omega), if_neg hf]
      · rw [if_neg (fun z => ca (of_decide_eq_true z))]
  by_cases ca : A < L
  · by_cases cd : 48 ≤ tC tx A ∧ tC tx A ≤ 57
    · obtain ⟨d, hd, ed⟩ := dig cd.1 cd.2
      have hlo : lo a ≤ 1 := by unfold lo; omega
      have e48 : tC tx A - 48 = nI d := by rw [ed, show nI (48 + d) - 48 = nI (48 + d - 48) from nI_sub (b := 48) (by omega), Nat.add_sub_cancel_left]
      have w1 : fX1_withDigit N (-1) (tC tx A) = some (nI d) := by
        rw [ed, wd_yes N hd]
        rfl
      have cb := cb_n N hlg (n := d) (by omega)
      by_cases cc : lo a ≤ d ∧ d ≤ g
      · obtain ⟨A2, n2, u, i1, i2, i3, i4, i5, i6⟩ := num_loop hN0 hlg h0 (L - (A + 1)) (A + 1) d (N - 1) N (by omega) (by omega) (by omega) cc.2
        have z1 : A < L ∧ nI (48 + lo a) ≤ tC tx A ∧ tC tx A ≤ 57 := ⟨ca, by rw [ed]; exact nI_le (by omega) (by omega), cd.2⟩
        have z2 : tC tx A - 48 ≤ nI g := by rw [e48]; exact nI_le cc.2 (by omega)
        refine ⟨A2, nI n2, if n2 < a then -1 else nI n2, decide (¬ n2 < a), by omega, i5, ?_, ?_, fun z => ?_, fun z => ?_⟩
        · unfold fX1_readNumber
          obtain ⟨n, hn⟩ : ∃ x, N = x + 1 := ⟨N - 1, by omega⟩
          have : ∀ M, M = n + 1 → lX1_readNumber_2 N (nI a) (nI g) M tx (-1) = some u := fun M hM => by
            subst hM
            rw [lX1_readNumber_2, h3, h5, if_neg (nI_ge ca (by omega)), ck60 (by omega), nI_clamp (by omega), w1, bsome, cb, bsome, if_pos (decide_eq_true cc), nI_1]
            rw [show N - 1 = n by omega] at i1
            have q : ((tC tx, nI L, nI (A + 1), tR tx, tF tx, tE tx) : VT) = tSA tx (nI (A + 1)) := by rw [← h3]; rfl
            rw [q]
            exact i1
          rw [this N hn, bsome]
          have e5 : (nI n2 < nI a) ↔ n2 < a := nI_ltI (by omega) (by omega)
          rcases i2 with rfl | rfl
          · show (if nI n2 < nI a then some (tSA tx (nI A2), -1) else some (tSA tx (nI A2), nI n2)) = _
            by_cases q : n2 < a
            · rw [if_pos (e5.mpr q), if_pos q]
            · rw [if_neg (fun z => q (e5.mp z)), if_neg q]
          · show (if nI n2 < nI a then some (tSA tx (nI A2), -1) else some (tSA tx (nI A2), nI n2)) = _
            by_cases q : n2 < a
            · rw [if_pos (e5.mpr q), if_pos q]
            · rw [if_neg (fun z => q (e5.mp z)), if_neg q]
        · rw [mo, if_pos (decide_eq_true z1), ck60 (by omega), if_pos z2, ck60 (by omega), e48, nI_1, i3, bsome]
          have e5 : (nI n2 < nI a) ↔ n2 < a := nI_ltI (by omega) (by omega)
          show (if nI n2 < nI a then _ else _) = _
          by_cases q : n2 < a
          · rw [if_pos (e5.mpr q)]; simp [q]
          · rw [if_neg (fun z => q (e5.mp z))]; simp [q]
        · have q : ¬ n2 < a := of_decide_eq_true z
          rw [if_neg q]
          exact ⟨by omega, n2, rfl, rfl, by omega, i6⟩
        · have q : n2 < a := Classical.not_not.mp (of_decide_eq_false z)
          rw [if_pos q]
      · refine hfail ?_ (fun _ => ⟨nI d, w1, by rw [cb]; exact congrArg some (decide_eq_false cc)⟩)
        by_cases q : d ≤ g
        · refine .inl (fun z => cc ⟨?_, q⟩)
          have z2 := z.2.1
          rw [ed] at z2
          have := (nI_leI (a := 48 + lo a) (b := 48 + d) (by omega) (by omega)).mp z2
          omega
        · refine .inr (fun z => q ?_)
          rw [e48] at z
          exact (nI_leI (by omega) (by omega)).mp z
    · refine hfail (.inl (fun z => cd ⟨?_, z.2.2⟩)) (fun _ => ⟨-1, wd_no N cd, cb_m1 N hlg⟩)
      have z2 := z.2.1
      have hlo : lo a ≤ 1 := by unfold lo; omega
      rw [fa_le, nI_toInt (by omega)] at z2
      rw [fa_le, i48]
      omega
  · exact hfail (.inl (fun z => ca z.1)) (fun q => absurd q ca)
end TN
