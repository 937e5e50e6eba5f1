/-! the reason to refuse, wringing, taking off: class and reference alike -/
def rsn (v : VS) (B : Nat) (s : Int32) (b : Nat) : Int32 := if sK v b = -1 then (if hgt v B s < 6 then (if sH v b ≤ sS v 1 then (if grd (err v b) = 3 then 4 else 0) else 3) else 2) else 1
section RE
variable {N B : Nat} {v : VS} {m : VM}
theorem X3_reason (hN : 2097152 ≤ N) (hB : sB v = nI B) (hb : B ≤ 20) (s : Int32) {b : Nat} (h : b < B) : fX3_reasonToRefuse N v s (nI b) = some (rsn v B s b) := by
  have hh := hgt_le v B s
  have e6 : (nI (hgt v B s) < 6) ↔ hgt v B s < 6 := nI_ltI (b := 6) (by omega) (by decide)
  unfold fX3_reasonToRefuse rsn
  rw [X3_isFree N v (by omega), bsome, X3_heightOf hN hB hb, bsome, ckI (by omega) (by decide), cs1, nI_clamp (by omega), cl1, X3_gradeOf N v (by omega), bsome]
  simp only [e6, decide_eq_true_eq]
  (repeat' split) <;> rfl
theorem X5_reason (hN : 2097152 ≤ N) (h : RS B v (mRow m)) {s : Int32} (h6 : hgt v B s ≤ 6) {b : Nat} (hi : b < B) : fX5_reason N m s (nI b) = some (rsn v B s b) := by
  have hl := h.le
  have e6 : (nI (hgt v B s) = 6) ↔ ¬ hgt v B s < 6 := (nI_eq (b := 6) (by omega) (by decide)).trans (by omega)
  unfold fX5_reason rsn
  rw [X5_isFree h hi, bsome, X5_height hN h, bsome, of_3 N m (by omega), bsome, ck1, cl1, h.h hi, h.s1, X5_grade h hi, bsome]
  simp only [e6, decide_eq_true_eq]
  by_cases c1 : sK v b = -1
  · rw [if_pos c1, if_pos c1]
    by_cases c2 : hgt v B s < 6
    · rw [if_neg (fun q => q c2), if_pos c2]
      (repeat' split) <;> rfl
    · rw [if_pos c2, if_neg c2]
  · rw [if_neg c1, if_neg c1]
theorem rsn_0 {s : Int32} {b : Nat} (h : rsn v B s b = 0) : sK v b = -1 ∧ hgt v B s < 6 := by
  unfold rsn at h
  by_cases c1 : sK v b = -1
  · rw [if_pos c1] at h
    by_cases c2 : hgt v B s < 6
    · exact ⟨c1, c2⟩
    · rw [if_neg c2] at h; exact absurd h (by decide)
  · rw [if_neg c1] at h; exact absurd h (by decide)
theorem rsn_le (v : VS) (B : Nat) (s : Int32) (b : Nat) : rsn v B s b ≤ 0 ↔ rsn v B s b = 0 := by
  unfold rsn
  (repeat' split) <;> decide
theorem rsn_m1 (v : VS) (B : Nat) (s : Int32) (b : Nat) : ¬ rsn v B s b = -1 := by
  unfold rsn
  (repeat' split) <;> decide
def St3 (s : Int32) : Prop := s = 0 ∨ s = 1 ∨ s = 2
theorem St3.ne {s : Int32} (h : St3 s) : s ≠ -1 := by rcases h with rfl | rfl | rfl <;> decide
/-- wringing, behind the question -/
theorem put_same (hN : 2097152 ≤ N) (h : RS B v (mRow m)) (hk : SKf B (sK v) (sP v)) {s : Int32} (hs : St3 s) {b : Nat} (hi : b < B) (h0 : rsn v B s b = 0) :
    ∃ v' r, fX3_tryToWring N v s (nI b) = some (v', 0) ∧ fX5_wringNow N m s (nI b) = some (mR m r, 0) ∧ RS B v' r ∧ SKf B (sK v') (sP v') ∧ Rub B v v' := by
  have hl := h.le
  obtain ⟨hf, hh⟩ := rsn_0 h0
  have hne := hs.ne
  have hhl := hgt_le v B s
  have hw : RS B (uK (uP v (upd (sP v) b (nI (hgt v B s)))) (upd (sK v) b s)) (upd (upd (mRow m) (9 + 7 * b + 5) (nI (hgt v B s))) (9 + 7 * b + 4) s) := (h.uP (b := b) (nI (hgt v B s))).uK s
  have hsk := hk.wring hs hne hi hl hf hh
  have h2 := hw.uH (b := b) (hot (sH v b) (sS v 3))
  obtain ⟨x, hx1, hx2, hx3⟩ := blockAt_same (N := N) (v := v) (m := mR m (upd (upd (upd (mRow m) (9 + 7 * b + 5) (nI (hgt v B s))) (9 + 7 * b + 4) s) (9 + 7 * b + 3) (hot (sH v b) (sS v 3)))) hN h.b h2 s (nI (hgt v B s) - 1) (SKf.uni hk hne) (fun c => by
    constructor
    · intro q
      obtain ⟨q1, q2, q3⟩ := q
      rcases Nat.decEq c b with e | e
      · exact ⟨q1, (pk_un e).symm.trans q2, (pk_un e).symm.trans q3⟩
      · subst e
        have q4 : nI (hgt v B s) = nI (hgt v B s) - 1 := pk_us.symm.trans q3
        exact absurd (congrArg Int32.toInt q4) (by rw [fb_subI (by rw [nI_toInt (by omega)]; show (-2147483648 : Int) ≤ _ - 1; omega) (by rw [nI_toInt (by omega)]; show (_ : Int) - 1 < _; omega), nI_toInt (by omega)]; show ¬ (_ : Int) = _ - 1; omega)
    · intro q
      obtain ⟨q1, q2, q3⟩ := q
      have e : c ≠ b := fun e => by rw [e, hf] at q2; exact hne q2.symm
      exact ⟨q1, (pk_un e).trans q2, (pk_un e).trans q3⟩)
  have hpl : sP (uK (uP v (upd (sP v) b (nI (hgt v B s)))) (upd (sK v) b s)) b = nI (hgt v B s) := pk_us
  have hput : fX5_put N m (nI b) 5 (nI (hgt v B s)) = some (mR m (upd (mRow m) (9 + 7 * b + 5) (nI (hgt v B s)))) := put_5 N m _ (by omega)
  have hput2 : fX5_put N (mR m (upd (mRow m) (9 + 7 * b + 5) (nI (hgt v B s)))) (nI b) 4 s = some (mR m (upd (upd (mRow m) (9 + 7 * b + 5) (nI (hgt v B s))) (9 + 7 * b + 4) s)) := by rw [put_4 N _ _ (by omega), mRmR, mRow_mR]
  -- the class's slide and the reference's rub
  have key : ∃ v1 r1, fX3_slide N v (nI b) x = some v1 ∧ fX5_rub N (mR m (upd (upd (mRow m) (9 + 7 * b + 5) (nI (hgt v B s))) (9 + 7 * b + 4) s)) s (nI b) = some (mR m r1) ∧ RS B (uK (uP v1 (upd (sP v) b (nI (hgt v B s)))) (upd (sK v) b s)) r1 ∧ Rub B v v1 ∧ sK v1 = sK v ∧ sP v1 = sP v ∧ sT v1 = sT v ∧ sG v1 = sG v := by
    rcases hx3 with ⟨c, hc, rfl⟩ | ⟨-, rfl⟩
    · have hbc : b ≠ c := fun e => by have := hc.2.1; rw [← e, hf] at this; exact hne this.symm
      obtain ⟨r1, e1, e2⟩ := X5_rubS (N := N) (v := uK (uP v (upd (sP v) b (nI (hgt v B s)))) (upd (sK v) b s)) (m := mR m (upd (upd (mRow m) (9 + 7 * b + 5) (nI (hgt v B s))) (9 + 7 * b + 4) s)) hw hi hc.1 hbc s (by rw [hpl]; exact hx2)
      exact ⟨_, r1, X3_slideS N v (by omega) (by have := hc.1; omega) hbc, e1, e2, rub_S B v b c, rfl, rfl, rfl, rfl⟩
    · obtain ⟨e1, e2⟩ := X5_rubN (N := N) (v := uK (uP v (upd (sP v) b (nI (hgt v B s)))) (upd (sK v) b s)) (m := mR m (upd (upd (mRow m) (9 + 7 * b + 5) (nI (hgt v B s))) (9 + 7 * b + 4) s)) hw hi s (by rw [hpl]; exact hx2)
      exact ⟨_, _, X3_slideN N v (by omega), e1, e2, rub_N B v b, rfl, rfl, rfl, rfl⟩
  obtain ⟨v1, r1, k1, k2, k3, k4, k5, k6, k7, k8⟩ := key
  have hT : fX5_of N (mR m r1) (nI b) 6 = some (sT v b) := by
    rw [of_6 N _ (by omega)]
    exact congrArg some ((k3.t hi).trans (congrFun k7 b))
  have hG : upd r1 (9 + 7 * b + 6) (sT v b + 1) 5 = sG v := (pk_un (by omega)).trans (k3.r5.trans k8)
  refine ⟨uG (uT (uK (uP v1 (upd (sP v) b (nI (hgt v B s)))) (upd (sK v) b s)) (upd (sT v) b (sT v b + 1))) (sG v + 1), upd (upd r1 (9 + 7 * b + 6) (sT v b + 1)) 5 (sG v + 1), ?_, ?_, ?_, hsk, k4⟩
  · unfold fX3_tryToWring fX3_putOnTop
    rw [X3_reason hN h.b hl s hi, h0, bsome, if_pos rfl, X3_heightOf hN h.b hl, bsome, hx1, bsome, k1, bsome, ckI (by omega) (by decide), ckI (by omega) (by decide), ckI (by omega) (by decide), ckI (by omega) (by decide), bsome, nI_clamp (by omega), k5, k6, k7, k8]
    rfl
  · unfold fX5_wringNow
    rw [X5_reason hN h (hk.2.2.2 s hne) hi, h0, bsome, if_pos (by decide), X5_height hN h, bsome, hput, bsome, hput2, bsome, k2, bsome, hT, bsome, put_6 N _ _ (by omega), bsome, mRmR, mRow_mR, ck5, ck5, cl5, mRow_mR, hG]
    rfl
  · have k9 := k3.uT (b := b) (sT v b + 1)
    have k10 : RS B (uT (uK (uP v1 (upd (sP v) b (nI (hgt v B s)))) (upd (sK v) b s)) (upd (sT v) b (sT v b + 1))) (upd r1 (9 + 7 * b + 6) (sT v b + 1)) := by
      have e : sT (uK (uP v1 (upd (sP v) b (nI (hgt v B s)))) (upd (sK v) b s)) = sT v := k7
      rw [e] at k9
      exact k9
    exact k10.uG (sG v + 1)
theorem wring_same (hN : 2097152 ≤ N) (h : RS B v (mRow m)) (hk : SKf B (sK v) (sP v)) {s : Int32} (hs : St3 s) {b : Nat} (hi : b < B) :
    ∃ v' r, fX3_tryToWring N v s (nI b) = some (v', rsn v B s b) ∧ fX5_wringNow N m s (nI b) = some (mR m r, rsn v B s b) ∧ RS B v' r ∧ SKf B (sK v') (sP v') ∧ Rub B v v' := by
  have hl := h.le
  by_cases h0 : rsn v B s b = 0
  · rw [h0]
    exact put_same hN h hk hs hi h0
  · refine ⟨uR v (sR v + 1), upd (mRow m) 7 (sR v + 1), ?_, ?_, h.uR _, hk, rfl, rfl, rfl, fun c => .inl rfl, fun c => .inl rfl⟩
    · unfold fX3_tryToWring
      rw [X3_reason hN h.b hl s hi, bsome, if_neg h0]
      rfl
    · unfold fX5_wringNow
      rw [X5_reason hN h (hk.2.2.2 s hs.ne) hi, bsome, if_neg (fun q => h0 ((rsn_le v B s b).mp q)), ck7, ck7, cl7, h.r7]
      rfl
/-- nothing to take off -/
theorem off_none (hN : 2097152 ≤ N) (hB : sB v = nI B) (hb : B ≤ 20) (hk : SKf B (sK v) (sP v)) {s : Int32} (hs : St3 s) (h0 : hgt v B s = 0) : fX3_takeTopOff N v s = some (v, -1) := by
  have e : fX3_blockAt N v s (nI 0 - 1) = some (-1) := by
    rcases X3_blockAt hN hB hb s (nI 0 - 1) with ⟨b, q1, q2⟩ | ⟨q1, q2⟩
    · obtain ⟨p, q3, -⟩ := hk.2.1 b q1.1 (by rw [q1.2.1]; exact hs.ne)
      rw [q1.2.1] at q3
      exact absurd q3 (by show ¬ p < hgt v B s; omega)
    · exact q2
  unfold fX3_takeTopOff
  rw [X3_heightOf hN hB hb, bsome, h0, e, bsome, if_pos rfl]
theorem m12 (k : Nat) : nI (k + 1) - 2 = nI k - 1 := by
  have e : ∀ x : Int32, x + 1 - 2 = x - 1 := fun x => by
    rw [Int32.sub_eq_add_neg, Int32.sub_eq_add_neg, Int32.add_assoc]
    rfl
  rw [nI_succ, e]
theorem off_same (hN : 2097152 ≤ N) (h : RS B v (mRow m)) (hk : SKf B (sK v) (sP v)) {s : Int32} (hs : St3 s) {k : Nat} (hh : hgt v B s = k + 1) :
    ∃ v' r b, b < B ∧ fX3_takeTopOff N v s = some (v', nI b) ∧ fX5_takeNow N m s = some (mR m r, nI b) ∧ RS B v' r ∧ SKf B (sK v') (sP v') ∧ Rub B v v' := by
  have hl := h.le
  have hne := hs.ne
  have hhl := hgt_le v B s
  obtain ⟨t, ht1, ht2, ht3⟩ := hk.place hne (show k < hg (sK v) B s by rw [← hgt_hg]; omega) hl
  obtain ⟨x, hx1, hx2, hx3⟩ := blockAt_same (N := N) hN h.b h s (nI k) (SKf.uni hk hne) (fun b => Iff.rfl)
  have ex : x = nI t := by
    rcases hx3 with ⟨b, q1, q2⟩ | ⟨q1, -⟩
    · have e := SKf.uni hk hne b t q1.1 ht1 q1.2.1 ht2 (q1.2.2.trans ht3.symm)
      rw [q2, e]
    · exact absurd ⟨ht1, ht2, ht3⟩ (q1 t)
  subst ex
  have h2 := h.uH (b := t) (hot (sH v t) (sS v 3))
  obtain ⟨y, hy1, hy2, hy3⟩ := blockAt_same (N := N) (v := v) (m := mR m (upd (mRow m) (9 + 7 * t + 3) (hot (sH v t) (sS v 3)))) hN h.b h2 s (nI k - 1) (SKf.uni hk hne) (fun b => Iff.rfl)
  have key : ∃ v1 r1, fX3_slide N v (nI t) y = some v1 ∧ fX5_rub N m s (nI t) = some (mR m r1) ∧ RS B v1 r1 ∧ Rub B v v1 ∧ sK v1 = sK v ∧ sP v1 = sP v ∧ sO v1 = sO v := by
    rcases hy3 with ⟨c, hc, rfl⟩ | ⟨-, rfl⟩
    · have hbc : t ≠ c := fun e => by
        have q := hc.2.2
        rw [← e, ht3] at q
        exact absurd (congrArg Int32.toInt q) (by rw [fb_subI (by rw [nI_toInt (by omega)]; show (-2147483648 : Int) ≤ _ - 1; omega) (by rw [nI_toInt (by omega)]; show (_ : Int) - 1 < _; omega), nI_toInt (by omega)]; show ¬ (_ : Int) = _ - 1; omega)
      obtain ⟨r1, e1, e2⟩ := X5_rubS (N := N) h ht1 hc.1 hbc s (by rw [ht3]; exact hy2)
      exact ⟨_, r1, X3_slideS N v (by omega) (by have := hc.1; omega) hbc, e1, e2, rub_S B v t c, rfl, rfl, rfl⟩
    · obtain ⟨e1, e2⟩ := X5_rubN (N := N) h ht1 s (by rw [ht3]; exact hy2)
      exact ⟨_, _, X3_slideN N v (by omega), e1, e2, rub_N B v t, rfl, rfl, rfl⟩
  obtain ⟨v1, r1, k1, k2, k3, k4, k5, k6, k7⟩ := key
  have hO : upd (upd r1 (9 + 7 * t + 4) (-1)) (9 + 7 * t + 5) (-1) 6 = sO v := (pk_un (by omega)).trans ((pk_un (by omega)).trans (k3.r6.trans k7))
  refine ⟨uO (uP (uK v1 (upd (sK v) t (-1))) (upd (sP v) t (-1))) (sO v + 1), upd (upd (upd r1 (9 + 7 * t + 4) (-1)) (9 + 7 * t + 5) (-1)) 6 (sO v + 1), t, ht1, ?_, ?_, ?_, hk.off hne ht1 hl ht2 hh ht3, k4⟩
  · unfold fX3_takeTopOff
    rw [X3_heightOf hN h.b hl, bsome, hh, nI_pred, hx1, bsome, if_neg (nI_m1 (by omega)), m12, hy1, bsome, k1, bsome, ckI (by omega) (by decide), ckI (by omega) (by decide), nI_clamp (by omega), k5, k6, k7]
    rfl
  · unfold fX5_takeNow
    rw [X5_height hN h, bsome, hh, nI_pred, hx2, bsome, k2, bsome, put_4 N _ _ (by omega), bsome, mRmR, mRow_mR, put_5 N _ _ (by omega), bsome, mRmR, mRow_mR, ck6, ck6, cl6, mRow_mR, hO]
    rfl
  · have q1 := k3.uK (b := t) (-1)
    rw [k5] at q1
    have q2 := q1.uP (b := t) (-1)
    have e : sP (uK v1 (upd (sK v) t (-1))) = sP v := k6
    rw [e] at q2
    exact q2.uO (sO v + 1)
end RE
