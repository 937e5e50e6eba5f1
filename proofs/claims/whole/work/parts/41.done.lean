/-! an order is carried out -/
section DN
variable {N : Nat} {v : VS} {m : VM}
theorem X3_hasBlock (N : Nat) {B : Nat} (hB : sB v = nI B) (hl : B ≤ 20) (x : Int32) : fX3_hasBlock N v x = some (decide (0 ≤ x.toInt ∧ x.toInt < B)) := by
  unfold fX3_hasBlock
  rw [hB]
  by_cases c : x < 0
  · rw [if_pos c]
    rw [fa_lt, z0] at c
    simp; omega
  · rw [if_neg c]
    rw [fa_lt, z0] at c
    by_cases c2 : nI B ≤ x
    · rw [if_pos c2]
      rw [fa_le, nI_toInt (by omega)] at c2
      simp; omega
    · rw [if_neg c2]
      rw [fa_le, nI_toInt (by omega)] at c2
      simp; omega
theorem X5_isBlock (N : Nat) {B : Nat} (h8 : mRow m 8 = nI B) (hl : B ≤ 20) (x : Int32) : fX5_isBlock N m x = some (decide (0 ≤ x.toInt ∧ x.toInt < B)) := by
  have e : (nI B - 1 : Int32).toInt = (B : Int) - 1 := by
    have h1 : (1 : Int32).toInt = 1 := by decide +kernel
    rw [fb_subI (by rw [nI_toInt (by omega), h1]; omega) (by rw [nI_toInt (by omega), h1]; omega), nI_toInt (by omega), h1]
  unfold fX5_isBlock
  rw [ck8, cl8, h8, in_n, bsome]
  refine congrArg some (decide_eq_decide.mpr ?_)
  rw [fa_le, fa_le, z0, e]
  omega
/-- a block's number, if there is one -/
theorem blk {B : Nat} {x : Int32} (h : 0 ≤ x.toInt ∧ x.toInt < B) : ∃ b, b < B ∧ x = nI b := by
  obtain ⟨j, hj, rfl⟩ := nI_of (x := x) (fun q => by rw [fa_lt, z0] at q; omega)
  rw [nI_toInt hj] at h
  exact ⟨j, by omega, rfl⟩
theorem i5n (s : Nat) : nI s * 5 = nI (5 * s) ∧ 5 * nI s = nI (5 * s) := ⟨(nI_mul s 5).trans (congrArg nI (Nat.mul_comm s 5)), nI_mul 5 s⟩
theorem jm_pos {α : Type} (f : Nat → Int32) (n : Nat) : 0 ≤ (rng (fun i a => jmax a (f i)) n 0).toInt := by
  refine rng_inv (fun a : Int32 => 0 ≤ a.toInt) (by decide +kernel) (fun i x _ hx => ?_)
  show 0 ≤ (jmax x (f i)).toInt
  unfold jmax
  by_cases c : x < f i
  · rw [if_pos c]; rw [fa_lt] at c; omega
  · rw [if_neg c]; exact hx
theorem nlt0 {x : Int32} (h : 0 ≤ x.toInt) : ¬ x < 0 := fun c => by rw [fa_lt, z0] at c; omega
theorem hold_same {q B : Nat} (h : RS B v (mRow m)) (hd : BD B q v) {b s : Nat} (hb : b < B) (hs : s ≤ 60) :
    ∃ r, fX3_warm N v (nI b) (nI s * 5) = some (uH v (upd (sH v) b (hot (sH v b) (nI (5 * s))))) ∧ fX5_holdNow N m (nI b) (nI s) = some (mR m r, hot (sH v b) (nI (5 * s))) ∧ RS B (uH v (upd (sH v) b (hot (sH v b) (nI (5 * s))))) r ∧ BD B q (uH v (upd (sH v) b (hot (sH v b) (nI (5 * s))))) ∧ 0 ≤ (hot (sH v b) (nI (5 * s))).toInt := by
  have hl := h.le
  have hp : 0 ≤ (nI (5 * s)).toInt ∧ (nI (5 * s)).toInt ≤ 1000 := by rw [nI_toInt (by omega)]; omega
  refine ⟨upd (mRow m) (9 + 7 * b + 3) (hot (sH v b) (nI (5 * s))), ?_, ?_, h.uH _, hd.hot hb hp, (hot_le (hd.2.2.2.1 b hb) hp).1⟩
  · rw [(i5n s).1, X3_warm N v (by omega)]
  · unfold fX5_holdNow
    rw [(i5n s).2, X5_warm h hb, bsome, of_3 N _ (by omega), bsome, mRow_mR, pk_us]
theorem done_same (hN0 : 2097152 ≤ N) {q i : Nat} (hq : q ≤ 900000) (h : SS q v (mRow m)) (hi : i < 24) {c f e s1 s2 : Int32} (hE : Ent c f e s1 s2) (hc : mLet m i = c) (hf : mFst m i = s1) (hs : mSnd m i = s2) :
    ∃ v2 r2 ok, fX4_carryOut N v c f e = some (v2, ok) ∧ fX5_isDone N m (nI i) = some (mR m r2, ok) ∧ SS (q + 20) v2 r2 := by
  obtain ⟨B, h1, h2, h3⟩ := h
  have hl := h1.le
  have same : some (m, false) = some (mR m (mRow m), false) := rfl
  have kp : SS (q + 20) v (mRow m) := ⟨B, h1, h2, h3.mono (by omega)⟩
  unfold fX4_carryOut fX5_isDone
  rw [ck24 hi, ck24 hi, ck24 hi, ck24 hi, nI_clamp (by omega), hc, hf, hs]
  rcases hE with ⟨rfl, n, n1, n2, rfl, rfl⟩ | ⟨rfl, n, n1, rfl, rfl⟩ | ⟨rfl, n, n1, n2, rfl, rfl⟩ | ⟨rfl, n, b, n1, n2, rfl, rfl, rfl, rfl⟩ | ⟨rfl, n, s, n1, n2, n3, rfl, rfl, rfl, rfl⟩
  · rw [if_pos rfl, if_pos rfl, ck8, cl8, h1.r8]
    by_cases c : B = 20
    · subst c
      rw [X3_addFull N h1.b, bsome, if_pos rfl, if_pos (show (20 : Int32) ≤ nI 20 by decide)]
      exact ⟨v, mRow m, false, rfl, rfl, kp⟩
    · rw [X3_addBlock N h1.b (by omega), bsome, if_neg (nI_m1 (by omega)), if_neg (show ¬ (20 : Int32) ≤ nI B from nI_ge (b := 20) (by omega) (by decide)), X5_addBlock hN0 h1.r8 (by omega), bsome, if_neg (nlt0 (by rw [nI_toInt (by omega)]; omega))]
      exact ⟨_, _, true, rfl, rfl, B + 1, h1.add (by omega) _ _, h2.add, (h3.mono (by omega)).add (by rw [nI_toInt (by omega)]; omega) (by rw [z0]; omega)⟩
  · rw [if_neg (by decide), if_neg (by decide), if_neg (by decide), if_pos rfl, if_neg (by decide), if_neg (by decide), if_pos rfl]
    have h3s : St3 (nI n) := by
      rcases (show n = 0 ∨ n = 1 ∨ n = 2 by omega) with rfl | rfl | rfl
      · exact .inl rfl
      · exact .inr (.inl rfl)
      · exact .inr (.inr rfl)
    rw [X5_height hN0 h1, bsome]
    have hh := hgt_le v B (nI n)
    rcases Nat.eq_zero_or_pos (hgt v B (nI n)) with c | c
    · rw [off_none hN0 h1.b hl h2 h3s c, bsome, if_pos rfl, c, if_pos (by decide)]
      exact ⟨v, mRow m, false, rfl, rfl, kp⟩
    · obtain ⟨k, hk⟩ : ∃ k, hgt v B (nI n) = k + 1 := ⟨hgt v B (nI n) - 1, by omega⟩
      obtain ⟨v2, r, b, o1, o2, o3, o4, o5, o6⟩ := off_same hN0 h1 h2 h3s hk
      rw [o2, bsome, if_neg (nI_m1 (by omega)), if_neg (nI_nle (by omega) (by omega)), o3, bsome, if_neg (nlt0 (by rw [nI_toInt (by omega)]; omega))]
      exact ⟨v2, r, true, rfl, rfl, B, o4, o5, h3.rub (by omega) o6⟩
  · rw [if_neg (by decide), if_neg (by decide), if_pos rfl, if_neg (by decide), if_neg (by decide), if_neg (by decide), if_neg (by decide)]
    obtain ⟨r, o1, o2⟩ := X5_restNow hN0 h1 h3 (p := n) (by omega)
    rw [X3_letPass hN0 h1.b hl h3 (by omega), bsome, o1, bsome, if_neg (nlt0 (jm_pos (α := Nat) _ B))]
    exact ⟨_, r, true, rfl, rfl, B, o2, h2, (h3.rest n _).mono (by omega)⟩
  · rw [if_neg (by decide), if_neg (by decide), if_neg (by decide), if_neg (by decide), if_pos rfl, if_neg (by decide), if_neg (by decide), if_neg (by decide), if_pos rfl]
    have h3s : St3 (nI n) := by
      rcases (show n = 0 ∨ n = 1 ∨ n = 2 by omega) with rfl | rfl | rfl
      · exact .inl rfl
      · exact .inr (.inl rfl)
      · exact .inr (.inr rfl)
    rw [X3_hasBlock N h1.b hl, bsome, X5_isBlock N h1.r8 hl, bsome]
    by_cases c : 0 ≤ (nI b).toInt ∧ (nI b).toInt < B
    · obtain ⟨b2, hb2, eb⟩ := blk c
      rw [if_pos (decide_eq_true c), if_pos (decide_eq_true c), eb]
      obtain ⟨v2, r, o1, o2, o3, o4, o5⟩ := wring_same hN0 h1 h2 h3s hb2
      rw [o1, bsome, o2, bsome]
      refine ⟨v2, r, decide (rsn v B (nI n) b2 = 0), ?_, ?_, B, o3, o4, h3.rub (by omega) o5⟩
      · show (if rsn v B (nI n) b2 = 0 then _ else _) = _
        by_cases c2 : rsn v B (nI n) b2 = 0
        · rw [if_pos c2]; simp [c2]
        · rw [if_neg c2]; simp [c2]
      · rw [ck24 hi]
        show (if rsn v B (nI n) b2 = 0 then _ else _) = _
        by_cases c2 : rsn v B (nI n) b2 = 0
        · rw [if_pos c2]; simp [c2]
        · rw [if_neg c2]; simp [c2]
    · rw [if_neg (fun z => c (of_decide_eq_true z)), if_neg (fun z => c (of_decide_eq_true z))]
      exact ⟨v, mRow m, false, rfl, rfl, kp⟩
  · rw [if_neg (by decide), if_pos rfl, if_neg (by decide), if_pos rfl]
    rw [X3_hasBlock N h1.b hl, bsome, X5_isBlock N h1.r8 hl, bsome]
    by_cases c : 0 ≤ (nI n).toInt ∧ (nI n).toInt < B
    · obtain ⟨b2, hb2, eb⟩ := blk c
      rw [if_pos (decide_eq_true c), if_pos (decide_eq_true c), eb]
      obtain ⟨r, o1, o2, o3, o4, o5⟩ := hold_same (N := N) h1 h3 hb2 n3
      rw [o1, bsome, o2, bsome, if_neg (nlt0 o5)]
      exact ⟨_, r, true, rfl, rfl, B, o3, h2, o4.mono (by omega)⟩
    · rw [if_neg (fun z => c (of_decide_eq_true z)), if_neg (fun z => c (of_decide_eq_true z))]
      exact ⟨v, mRow m, false, rfl, rfl, kp⟩
end DN
