/-! copies, the saved states, the snapshots -/
def BD (B q : Nat) (v : VS) : Prop :=
  (∀ b, b < B → 500 ≤ (sN v b).toInt ∧ (sN v b).toInt ≤ 100000) ∧ (∀ b, b < B → -900 ≤ (sD v b).toInt ∧ (sD v b).toInt ≤ 900) ∧ (∀ b, b < B → 0 ≤ (sW v b).toInt ∧ (sW v b).toInt ≤ q) ∧ (∀ b, b < B → 0 ≤ (sH v b).toInt ∧ (sH v b).toInt ≤ 1000) ∧
  (0 ≤ (sS v 0).toInt ∧ (sS v 0).toInt ≤ 60) ∧ (0 ≤ (sS v 1).toInt ∧ (sS v 1).toInt ≤ 1000) ∧ (0 ≤ (sS v 2).toInt ∧ (sS v 2).toInt ≤ 20) ∧ (0 ≤ (sS v 3).toInt ∧ (sS v 3).toInt ≤ 200)
theorem BD.mono {B q q2 : Nat} {v : VS} (h : q ≤ q2) (hd : BD B q v) : BD B q2 v := ⟨hd.1, hd.2.1, fun b hb => ⟨(hd.2.2.1 b hb).1, by have := (hd.2.2.1 b hb).2; omega⟩, hd.2.2.2⟩
theorem RS.cong {B : Nat} {v : VS} {r r2 : Nat → Int32} (h : RS B v r) (e : ∀ i, i < 149 → r2 i = r i) : RS B v r2 := by
  obtain ⟨⟨h1, h2, h3⟩, h4, ⟨h5, h6, h7, h8⟩, h9⟩ := h
  refine ⟨⟨h1, h2, (e _ (by decide)).trans h3⟩, fun j hj => (h4 j hj).trans (e _ (by omega)).symm, ⟨h5.trans (e _ (by decide)).symm, h6.trans (e _ (by decide)).symm, h7.trans (e _ (by decide)).symm, h8.trans (e _ (by decide)).symm⟩, fun c hc => ?_⟩
  obtain ⟨k0, k1, k2, k3, k4, k5, k6⟩ := h9 c hc
  exact ⟨k0.trans (e _ (by omega)).symm, k1.trans (e _ (by omega)).symm, k2.trans (e _ (by omega)).symm, k3.trans (e _ (by omega)).symm, k4.trans (e _ (by omega)).symm, k5.trans (e _ (by omega)).symm, k6.trans (e _ (by omega)).symm⟩
theorem hg_cong {B : Nat} {K K2 : Nat → Int32} (e : ∀ b, b < B → K2 b = K b) (s : Int32) : hg K2 B s = hg K B s := fb_ct_cong (fun k hk => by rw [e k hk])
theorem SKf.cong {B : Nat} {K P K2 P2 : Nat → Int32} (h : SKf B K P) (e : ∀ b, b < B → K2 b = K b) (e2 : ∀ b, b < B → P2 b = P b) : SKf B K2 P2 := by
  refine ⟨fun b hb => by rw [e b hb]; exact h.1 b hb, fun b hb hk => ?_, fun s hs b c hb hc kb kc p => ?_, fun s hs => by rw [hg_cong e]; exact h.2.2.2 s hs⟩
  · rw [e b hb] at hk ⊢
    rw [hg_cong e, e2 b hb]
    exact h.2.1 b hb hk
  · rw [e b hb] at kb
    rw [e c hc] at kc
    rw [e2 b hb, e2 c hc] at p
    exact h.2.2.1 s hs b c hb hc kb kc p
/-- a state of the class, the reference's row, and what holds of them; q: the wear's bound -/
def SS (q : Nat) (v : VS) (r : Nat → Int32) : Prop := ∃ B, RS B v r ∧ SKf B (sK v) (sP v) ∧ BD B q v
theorem SS.mono {q q2 : Nat} {v : VS} {r : Nat → Int32} (h : q ≤ q2) (hs : SS q v r) : SS q2 v r := hs.elim (fun B h1 => ⟨B, h1.1, h1.2.1, h1.2.2.mono h⟩)
theorem SS.cong {q : Nat} {v : VS} {r r2 : Nat → Int32} (h : SS q v r) (e : ∀ i, i < 149 → r2 i = r i) : SS q v r2 := h.elim (fun B h1 => ⟨B, h1.1.cong e, h1.2⟩)
def cpy (d o : VS) : VS := ((va_cpy (sN o) (sN d) 0 0 20), (va_cpy (sD o) (sD d) 0 0 20), (va_cpy (sW o) (sW d) 0 0 20), (va_cpy (sH o) (sH d) 0 0 20), (va_cpy (sK o) (sK d) 0 0 20), (va_cpy (sP o) (sP d) 0 0 20), (va_cpy (sT o) (sT d) 0 0 20), (va_cpy (sS o) (sS d) 0 0 4), (sB o), (sM o), (sG o), (sO o), (sR o))
theorem X3_copyFrom (N : Nat) (d o : VS) : fX3_copyFrom N d o = some (cpy d o) := rfl
theorem cp20 {f g : Nat → Int32} {j : Nat} (h : j < 20) : va_cpy f g 0 0 20 j = f j := sb_cpy0 h
theorem cp4 {f g : Nat → Int32} {j : Nat} (h : j < 4) : va_cpy f g 0 0 4 j = f j := sb_cpy0 h
theorem SS.cpy {q : Nat} {o : VS} {r : Nat → Int32} (h : SS q o r) (d : VS) : SS q (cpy d o) r := by
  obtain ⟨B, h1, h2, h3⟩ := h
  have hl := h1.le
  refine ⟨B, ?_, h2.cong (fun b hb => cp20 (by omega)) (fun b hb => cp20 (by omega)), ?_⟩
  · obtain ⟨g1, h4, h5, h9⟩ := h1
    refine ⟨g1, fun j hj => (cp4 hj).trans (h4 j hj), h5, fun c hc => ?_⟩
    obtain ⟨k0, k1, k2, k3, k4, k5, k6⟩ := h9 c hc
    exact ⟨(cp20 (by omega)).trans k0, (cp20 (by omega)).trans k1, (cp20 (by omega)).trans k2, (cp20 (by omega)).trans k3, (cp20 (by omega)).trans k4, (cp20 (by omega)).trans k5, (cp20 (by omega)).trans k6⟩
  · obtain ⟨d1, d2, d3, d4, d5, d6, d7, d8⟩ := h3
    have e (f g : Nat → Int32) (b : Nat) (hb : b < B) : va_cpy f g 0 0 20 b = f b := cp20 (by omega)
    refine ⟨fun b hb => ?_, fun b hb => ?_, fun b hb => ?_, fun b hb => ?_, ?_, ?_, ?_, ?_⟩
    · exact (congrArg (fun x : Int32 => 500 ≤ x.toInt ∧ x.toInt ≤ 100000) (e (sN o) (sN d) b hb)).mpr (d1 b hb)
    · exact (congrArg (fun x : Int32 => -900 ≤ x.toInt ∧ x.toInt ≤ 900) (e (sD o) (sD d) b hb)).mpr (d2 b hb)
    · exact (congrArg (fun x : Int32 => 0 ≤ x.toInt ∧ x.toInt ≤ (q : Int)) (e (sW o) (sW d) b hb)).mpr (d3 b hb)
    · exact (congrArg (fun x : Int32 => 0 ≤ x.toInt ∧ x.toInt ≤ 1000) (e (sH o) (sH d) b hb)).mpr (d4 b hb)
    · exact (congrArg (fun x : Int32 => 0 ≤ x.toInt ∧ x.toInt ≤ 60) (cp4 (f := sS o) (g := sS d) (j := 0) (by decide))).mpr d5
    · exact (congrArg (fun x : Int32 => 0 ≤ x.toInt ∧ x.toInt ≤ 1000) (cp4 (f := sS o) (g := sS d) (j := 1) (by decide))).mpr d6
    · exact (congrArg (fun x : Int32 => 0 ≤ x.toInt ∧ x.toInt ≤ 20) (cp4 (f := sS o) (g := sS d) (j := 2) (by decide))).mpr d7
    · exact (congrArg (fun x : Int32 => 0 ≤ x.toInt ∧ x.toInt ≤ 200) (cp4 (f := sS o) (g := sS d) (j := 3) (by decide))).mpr d8
def mSv (m : VM) (s : Nat → Int32) (n : Int32) : VM := (mRow m, s, n, mSnp m, mKep m, mThr m, mFre m, mFrn m, mBuf m, mLen m, mSpt m, mNum m, mOrd m, mLet m, mFst m, mSnd m, mTok m, mLft m)
def mTh (m : VM) (t : Int32) : VM := (mRow m, mSav m, mSvn m, mSnp m, mKep m, t, mFre m, mFrn m, mBuf m, mLen m, mSpt m, mNum m, mOrd m, mLet m, mFst m, mSnd m, mTok m, mLft m)
def mSp (m : VM) (s : Nat → Int32) : VM := (mRow m, mSav m, mSvn m, s, mKep m, mThr m, mFre m, mFrn m, mBuf m, mLen m, mSpt m, mNum m, mOrd m, mLet m, mFst m, mSnd m, mTok m, mLft m)
def mKe (m : VM) (s : Nat → Int32) : VM := (mRow m, mSav m, mSvn m, mSnp m, s, mThr m, mFre m, mFrn m, mBuf m, mLen m, mSpt m, mNum m, mOrd m, mLet m, mFst m, mSnd m, mTok m, mLft m)
theorem for_seq {α ρ : Type} {B : Nat} (L : Nat → α → Int32 → Option ρ) (F : Nat → α) (e : ρ) (hx : ∀ n, L (n + 1) (F B) (nI B) = some e) (hs : ∀ n i, i < B → L (n + 1) (F i) (nI i) = L n (F (i + 1)) (nI i + 1)) {n : Nat} (i0 : Nat) (h0 : i0 ≤ B) (hn : B - i0 < n) :
    L n (F i0) (nI i0) = some e := by
  have key : ∀ k i n, i + k = B → k < n → L n (F i) (nI i) = some e := by
    intro k
    induction k with
    | zero =>
      intro i n hi hk
      obtain ⟨m, rfl⟩ : ∃ m, n = m + 1 := ⟨n - 1, by omega⟩
      have e : i = B := by omega
      subst e
      exact hx m
    | succ k ih =>
      intro i n hi hk
      obtain ⟨m, rfl⟩ : ∃ m, n = m + 1 := ⟨n - 1, by omega⟩
      rw [hs m i (by omega), nI_1]
      exact ih (i + 1) m (by omega) (by omega)
  exact key (B - i0) i0 n (by omega) (by omega)
theorem ix149 (n i : Nat) : (149 * nI n) + nI i = nI (149 * n + i) := by
  show (nI 149 * nI n) + nI i = _
  rw [nI_mul, nI_add]
section SV
variable {N : Nat} {m : VM}
theorem X5_save_52 (hN : 2097152 ≤ N) {n : Nat} (hn : n < 6) (hm : mSvn m = nI n) : lX5_save_52 N N m 0 = some (mSv m (fb_put (mSav m) (mRow m) (149 * n) 149) (nI n)) := by
  have h := for_seq (B := 149) (lX5_save_52 N) (fun i => mSv m (fb_put (mSav m) (mRow m) (149 * n) i) (nI n)) (mSv m (fb_put (mSav m) (mRow m) (149 * n) 149) (nI n)) (fun k => by rw [lX5_save_52, if_pos (by decide)])
    (fun k i hi => by
      rw [lX5_save_52, if_neg (show ¬ (149 : Int32) ≤ nI i from nI_ge (b := 149) hi (by decide)), ckI hi (by decide)]
      show ck ((149 * nI n) + nI i) 894 _ = _
      rw [ix149, ckI (by omega) (by decide)]
      have e : upd (fb_put (mSav m) (mRow m) (149 * n) i) (149 * n + i) (mRow m i) = fb_put (mSav m) (mRow m) (149 * n) (i + 1) := fb_put_succ _ _ _ _
      rw [← e]
      show lX5_save_52 N k (mSv m (upd _ (Int32.toNatClampNeg ((149 * nI n) + nI i)) (mRow m (Int32.toNatClampNeg (nI i)))) (nI n)) _ = _
      rw [ix149, nI_clamp (by omega), nI_clamp (by omega)]
      rfl) (n := N) 0 (by decide) (by omega)
  have e : mSv m (fb_put (mSav m) (mRow m) (149 * n) 0) (nI n) = m := by rw [fb_put_0, ← hm]; rfl
  simp only [e] at h
  exact h
theorem X5_save_11 (hN : 2097152 ≤ N) : lX5_save_11 N N m 0 = some (mSv m (fa_fill (fun k => mSav m (k + 149)) (mSav m) 745) (mSvn m)) := by
  have h := for_seq (B := 745) (lX5_save_11 N) (fun i => mSv m (fa_fill (fun k => mSav m (k + 149)) (mSav m) i) (mSvn m)) (mSv m (fa_fill (fun k => mSav m (k + 149)) (mSav m) 745) (mSvn m)) (fun k => by rw [lX5_save_11, if_pos (by decide)])
    (fun k i hi => by
      rw [lX5_save_11, if_neg (show ¬ (745 : Int32) ≤ nI i from nI_ge (b := 745) hi (by decide)), show nI i + 149 = nI (i + 149) from nI_add i 149, ckI (by omega) (by decide), ckI (by omega) (by decide), nI_clamp (by omega), nI_clamp (by omega)]
      have e : upd (fa_fill (fun k => mSav m (k + 149)) (mSav m) i) i (fa_fill (fun k => mSav m (k + 149)) (mSav m) i (i + 149)) = fa_fill (fun k => mSav m (k + 149)) (mSav m) (i + 1) := by
        rw [fa_fill_out (by omega)]
        exact fa_fill_succ (fun k => mSav m (k + 149)) (mSav m) i
      rw [← e]
      rfl) (n := N) 0 (by decide) (by omega)
  have e : mSv m (fa_fill (fun k => mSav m (k + 149)) (mSav m) 0) (mSvn m) = m := by rw [fa_fill_0]; rfl
  simp only [e] at h
  exact h
def savS (m : VM) (n : Nat) : Nat → Int32 := if n = 6 then fb_put (fa_fill (fun k => mSav m (k + 149)) (mSav m) 745) (mRow m) (149 * 5) 149 else fb_put (mSav m) (mRow m) (149 * n) 149
theorem X5_save (hN : 2097152 ≤ N) {n : Nat} (hn : n ≤ 6) (hm : mSvn m = nI n) : fX5_save N m = some (mSv m (savS m n) (nI (min n 5 + 1))) := by
  unfold fX5_save savS
  by_cases c : n = 6
  · subst c
    rw [hm, if_pos rfl, X5_save_11 hN, bsome]
    have h := X5_save_52 (m := mSv m (fa_fill (fun k => mSav m (k + 149)) (mSav m) 745) (nI 5)) hN (n := 5) (by decide) rfl
    have e : (nI 6 - 1 : Int32) = nI 5 := by decide
    show (lX5_save_52 N N (mSv m (fa_fill (fun k => mSav m (k + 149)) (mSav m) 745) (mSvn m - 1)) 0).bind _ = _
    rw [hm, e, h]
    rfl
  · have c2 : ¬ nI n = 6 := fun q => c ((nI_eq (b := 6) (by omega) (by decide)).mp q)
    rw [hm, if_neg c2, if_neg c, X5_save_52 hN (by omega) hm, bsome]
    have e : min n 5 = n := by omega
    rw [e, ← nI_1]
    rfl
end SV
def vAt (z : VV) (j : Nat) : VS := if j = 0 then v0 z else if j = 1 then v1 z else if j = 2 then v2 z else if j = 3 then v3 z else if j = 4 then v4 z else v5 z
def vSet (z : VV) (j : Nat) (c : VS) : VV := (nI (j + 1), if j = 0 then c else v0 z, if j = 1 then c else v1 z, if j = 2 then c else v2 z, if j = 3 then c else v3 z, if j = 4 then c else v4 z, if j = 5 then c else v5 z)
theorem vAt_set (z : VV) {j n : Nat} (hj : j < 6) (hn : n < 6) (c : VS) : vAt (vSet z n c) j = if j = n then c else vAt z j := by
  unfold vAt vSet
  (repeat' split) <;> first | rfl | (exfalso; omega)
theorem vAt_drop (z : VV) {j : Nat} (hj : j < 5) : vAt (fX2_dropOldest z) j = vAt z (j + 1) := by
  unfold vAt fX2_dropOldest
  (repeat' split) <;> first | rfl | (exfalso; omega)
def RV (q n : Nat) (z : VV) (s : Nat → Int32) : Prop := n ≤ 6 ∧ vN z = nI n ∧ ∀ j, j < n → SS q (vAt z j) (fun i => s (149 * j + i))
theorem pushAt_n (N : Nat) {z : VV} {n : Nat} (hn : n < 6) (hz : vN z = nI n) (v : VS) : fX2_pushAt N z v = some (vSet z n (cpy (vAt z n) v)) := by
  rcases (show n = 0 ∨ n = 1 ∨ n = 2 ∨ n = 3 ∨ n = 4 ∨ n = 5 by omega) with rfl | rfl | rfl | rfl | rfl | rfl
  · unfold fX2_pushAt
    rw [hz, if_pos (by decide), X3_copyFrom]
    rfl
  · unfold fX2_pushAt
    rw [hz, if_neg (by decide), if_pos (by decide), X3_copyFrom]
    rfl
  · unfold fX2_pushAt
    rw [hz, if_neg (by decide), if_neg (by decide), if_pos (by decide), X3_copyFrom]
    rfl
  · unfold fX2_pushAt
    rw [hz, if_neg (by decide), if_neg (by decide), if_neg (by decide), if_pos (by decide), X3_copyFrom]
    rfl
  · unfold fX2_pushAt
    rw [hz, if_neg (by decide), if_neg (by decide), if_neg (by decide), if_neg (by decide), if_pos (by decide), X3_copyFrom]
    rfl
  · unfold fX2_pushAt
    rw [hz, if_neg (by decide), if_neg (by decide), if_neg (by decide), if_neg (by decide), if_neg (by decide), if_pos (by decide), X3_copyFrom]
    rfl
def vLess (z : VV) (n : Nat) : VV := (nI n, v0 z, v1 z, v2 z, v3 z, v4 z, v5 z)
theorem popInto_n (N : Nat) {z : VV} {n : Nat} (hn : n < 6) (hz : vN z = nI (n + 1)) (v : VS) : fX2_popInto N v z = some (cpy v (vAt z n), vLess z n) := by
  rcases (show n = 0 ∨ n = 1 ∨ n = 2 ∨ n = 3 ∨ n = 4 ∨ n = 5 by omega) with rfl | rfl | rfl | rfl | rfl | rfl
  · unfold fX2_popInto
    rw [hz, if_neg (by decide), show nI (0 + 1) - 1 = nI 0 from by decide, if_pos (by decide), X3_copyFrom]
    rfl
  · unfold fX2_popInto
    rw [hz, if_neg (by decide), show nI (1 + 1) - 1 = nI 1 from by decide, if_neg (by decide), if_pos (by decide), X3_copyFrom]
    rfl
  · unfold fX2_popInto
    rw [hz, if_neg (by decide), show nI (2 + 1) - 1 = nI 2 from by decide, if_neg (by decide), if_neg (by decide), if_pos (by decide), X3_copyFrom]
    rfl
  · unfold fX2_popInto
    rw [hz, if_neg (by decide), show nI (3 + 1) - 1 = nI 3 from by decide, if_neg (by decide), if_neg (by decide), if_neg (by decide), if_pos (by decide), X3_copyFrom]
    rfl
  · unfold fX2_popInto
    rw [hz, if_neg (by decide), show nI (4 + 1) - 1 = nI 4 from by decide, if_neg (by decide), if_neg (by decide), if_neg (by decide), if_neg (by decide), if_pos (by decide), X3_copyFrom]
    rfl
  · unfold fX2_popInto
    rw [hz, if_neg (by decide), show nI (5 + 1) - 1 = nI 5 from by decide, if_neg (by decide), if_neg (by decide), if_neg (by decide), if_neg (by decide), if_neg (by decide), if_pos (by decide), X3_copyFrom]
    rfl
theorem push_same {N q n : Nat} {z : VV} {m : VM} {v : VS} (hN : 2097152 ≤ N) (hz : RV q n z (mSav m)) (hm : mSvn m = nI n) (hs : SS q v (mRow m)) :
    ∃ z', fX2_push N v z = some z' ∧ fX5_save N m = some (mSv m (savS m n) (nI (min n 5 + 1))) ∧ RV q (min n 5 + 1) z' (savS m n) := by
  obtain ⟨h1, h2, h3⟩ := hz
  refine ⟨if n = 6 then vSet (fX2_dropOldest z) 5 (cpy (vAt (fX2_dropOldest z) 5) v) else vSet z n (cpy (vAt z n) v), ?_, X5_save hN h1 hm, ?_⟩
  · unfold fX2_push
    by_cases c : n = 6
    · subst c
      rw [h2, if_neg (by decide), if_pos rfl]
      exact pushAt_n N (by decide) rfl v
    · have c2 : vN z < 6 := by rw [h2]; exact nI_lt (b := 6) (by omega) (by decide)
      rw [if_pos c2, if_neg c]
      exact pushAt_n N (by omega) h2 v
  · by_cases c : n = 6
    · subst c
      rw [if_pos rfl]
      refine ⟨by decide, rfl, fun j hj => ?_⟩
      have hj6 : j < 6 := hj
      rw [vAt_set _ hj6 (by decide)]
      unfold savS
      rw [if_pos rfl]
      by_cases cj : j = 5
      · subst cj
        rw [if_pos rfl]
        exact (hs.cong (fun i hi => by rw [fb_put_in (by omega) (by omega)]; exact congrArg (mRow m) (by omega))).cpy _
      · rw [if_neg cj, vAt_drop _ (by omega)]
        exact (h3 (j + 1) (by omega)).cong (fun i hi => by rw [fb_put_out (by omega), fa_fill_in (by omega)]; exact congrArg (mSav m) (by omega))
    · rw [if_neg c]
      have e : min n 5 = n := by omega
      rw [e]
      refine ⟨by omega, rfl, fun j hj => ?_⟩
      rw [vAt_set _ (by omega) (by omega)]
      unfold savS
      rw [if_neg c]
      by_cases cj : j = n
      · subst cj
        rw [if_pos rfl]
        exact (hs.cong (fun i hi => by rw [fb_put_in (by omega) (by omega)]; exact congrArg (mRow m) (by omega))).cpy _
      · rw [if_neg cj]
        exact (h3 j (by omega)).cong (fun i hi => by rw [fb_put_out (by omega)])
theorem X5_undo_30 {N : Nat} {m : VM} (hN : 2097152 ≤ N) {n : Nat} (hn : n < 6) (hm : mSvn m = nI n) : lX5_undo_30 N N m 0 = some (mR m (fb_put (mRow m) (fun i => mSav m (149 * n + i)) 0 149)) := by
  have h := for_seq (B := 149) (lX5_undo_30 N) (fun i => mR m (fb_put (mRow m) (fun i => mSav m (149 * n + i)) 0 i)) (mR m (fb_put (mRow m) (fun i => mSav m (149 * n + i)) 0 149)) (fun k => by rw [lX5_undo_30, if_pos (by decide)])
    (fun k i hi => by
      rw [lX5_undo_30, if_neg (show ¬ (149 : Int32) ≤ nI i from nI_ge (b := 149) hi (by decide))]
      show ck ((149 * mSvn m) + nI i) 894 _ = _
      rw [hm, ix149, ckI (by omega) (by decide), ckI hi (by decide)]
      have e : upd (fb_put (mRow m) (fun i => mSav m (149 * n + i)) 0 i) i (mSav m (149 * n + i)) = fb_put (mRow m) (fun i => mSav m (149 * n + i)) 0 (i + 1) := by
        have q := fb_put_succ (mRow m) (fun i => mSav m (149 * n + i)) 0 i
        rw [Nat.zero_add] at q
        exact q
      rw [← e]
      show lX5_undo_30 N k (mR m (upd _ (Int32.toNatClampNeg (nI i)) (mSav m (Int32.toNatClampNeg ((149 * mSvn m) + nI i))))) _ = _
      rw [hm, ix149, nI_clamp (by omega), nI_clamp (by omega)]
      rfl) (n := N) 0 (by decide) (by omega)
  have e : mR m (fb_put (mRow m) (fun i => mSav m (149 * n + i)) 0 0) = m := by rw [fb_put_0]; rfl
  simp only [e] at h
  exact h
