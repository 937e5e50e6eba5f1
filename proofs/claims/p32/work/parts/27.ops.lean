/-! a block comes, goes, is calibrated -/
theorem m1I : (-1 : Int32).toInt = -1 := by decide +kernel
def addS (v : VS) (B : Nat) (p1 p2 : Int32) : VS := (upd (sN v) B p1, upd (sD v) B p2, upd (sW v) B 0, upd (sH v) B 0, upd (sK v) B (-1), upd (sP v) B (-1), upd (sT v) B 0, sS v, nI (B + 1), sM v, sG v, sO v, sR v)
section OPS
variable {N B : Nat} {v : VS}
theorem X3_isFull (N : Nat) (hB : sB v = nI B) (hb : B ≤ 20) : fX3_isFull N v = some (decide (B = 20)) := by
  unfold fX3_isFull
  rw [hB]
  have e : (nI B < 20) ↔ B < 20 := nI_ltI (b := 20) (by omega) (by decide)
  by_cases c : B = 20
  · subst c; rfl
  · rw [if_pos (e.mpr (by omega))]; simp [c]
theorem X3_addBlock (N : Nat) (hB : sB v = nI B) (hb : B < 20) (p1 p2 : Int32) : fX3_addBlock N v p1 p2 = some (addS v B p1 p2, nI B) := by
  unfold fX3_addBlock
  rw [X3_isFull N hB (by omega), bsome, if_neg (by simp; omega), hB, ckI (by omega) (by decide), ckI (by omega) (by decide), ckI (by omega) (by decide), ckI (by omega) (by decide), ckI (by omega) (by decide), ckI (by omega) (by decide), ckI (by omega) (by decide), nI_clamp (by omega), nI_1]
  rfl
theorem X3_addFull (N : Nat) (hB : sB v = nI 20) (p1 p2 : Int32) : fX3_addBlock N v p1 p2 = some (v, -1) := by
  unfold fX3_addBlock
  rw [X3_isFull N hB (by decide), bsome, if_pos (by decide)]
def addR (r : Nat → Int32) (B : Nat) (p1 p2 : Int32) : Nat → Int32 := upd (upd (upd (upd (upd (fb_put r (fun _ => 0) (9 + 7 * B) 7) (9 + 7 * B + 0) p1) (9 + 7 * B + 1) p2) (9 + 7 * B + 4) (-1)) (9 + 7 * B + 5) (-1)) 8 (nI (B + 1))
theorem addR_out {r : Nat → Int32} {B j : Nat} {p1 p2 : Int32} (h : j ≠ 8) (h2 : j < 9 + 7 * B) : addR r B p1 p2 j = r j :=
  (pk_un h).trans ((pk_un (by omega)).trans ((pk_un (by omega)).trans ((pk_un (by omega)).trans ((pk_un (by omega)).trans (fb_put_out (by omega))))))
theorem addR_in {r : Nat → Int32} {B w : Nat} {p1 p2 : Int32} (hw : w < 7) : addR r B p1 p2 (9 + 7 * B + w) = if w = 0 then p1 else if w = 1 then p2 else if w = 4 then -1 else if w = 5 then -1 else 0 := by
  unfold addR
  rw [pk_un (by omega)]
  rcases (show w = 0 ∨ w = 1 ∨ w = 2 ∨ w = 3 ∨ w = 4 ∨ w = 5 ∨ w = 6 by omega) with rfl | rfl | rfl | rfl | rfl | rfl | rfl
  · rw [pk_un (by omega), pk_un (by omega), pk_un (by omega), pk_us, if_pos rfl]
  · rw [pk_un (by omega), pk_un (by omega), pk_us]; rfl
  · rw [pk_un (by omega), pk_un (by omega), pk_un (by omega), pk_un (by omega), fb_put_in (by omega) (by omega)]; rfl
  · rw [pk_un (by omega), pk_un (by omega), pk_un (by omega), pk_un (by omega), fb_put_in (by omega) (by omega)]; rfl
  · rw [pk_un (by omega), pk_us]; rfl
  · rw [pk_us]; rfl
  · rw [pk_un (by omega), pk_un (by omega), pk_un (by omega), pk_un (by omega), fb_put_in (by omega) (by omega)]; rfl
theorem RS.add {r : Nat → Int32} (h : RS B v r) (hb : B < 20) (p1 p2 : Int32) : RS (B + 1) (addS v B p1 p2) (addR r B p1 p2) := by
  obtain ⟨⟨h1, h2, h3⟩, h4, ⟨h5, h6, h7, h8⟩, h9⟩ := h
  refine ⟨⟨hb, rfl, pk_us⟩, fun j hj => (h4 j hj).trans (addR_out (by omega) (by omega)).symm, ⟨h5.trans (addR_out (by omega) (by omega)).symm, h6.trans (addR_out (by omega) (by omega)).symm, h7.trans (addR_out (by omega) (by omega)).symm, h8.trans (addR_out (by omega) (by omega)).symm⟩, fun c hc => ?_⟩
  rcases Nat.decEq c B with q | q
  · obtain ⟨k0, k1, k2, k3, k4, k5, k6⟩ := h9 c (by omega)
    exact ⟨(pk_un q).trans (k0.trans (addR_out (by omega) (by omega)).symm), (pk_un q).trans (k1.trans (addR_out (by omega) (by omega)).symm), (pk_un q).trans (k2.trans (addR_out (by omega) (by omega)).symm), (pk_un q).trans (k3.trans (addR_out (by omega) (by omega)).symm), (pk_un q).trans (k4.trans (addR_out (by omega) (by omega)).symm), (pk_un q).trans (k5.trans (addR_out (by omega) (by omega)).symm), (pk_un q).trans (k6.trans (addR_out (by omega) (by omega)).symm)⟩
  · subst q
    have a0 : addR r c p1 p2 (9 + 7 * c + 0) = p1 := addR_in (w := 0) (by decide)
    have a1 : addR r c p1 p2 (9 + 7 * c + 1) = p2 := addR_in (w := 1) (by decide)
    have a2 : addR r c p1 p2 (9 + 7 * c + 2) = 0 := addR_in (w := 2) (by decide)
    have a3 : addR r c p1 p2 (9 + 7 * c + 3) = 0 := addR_in (w := 3) (by decide)
    have a4 : addR r c p1 p2 (9 + 7 * c + 4) = -1 := addR_in (w := 4) (by decide)
    have a5 : addR r c p1 p2 (9 + 7 * c + 5) = -1 := addR_in (w := 5) (by decide)
    have a6 : addR r c p1 p2 (9 + 7 * c + 6) = 0 := addR_in (w := 6) (by decide)
    exact ⟨pk_us.trans a0.symm, pk_us.trans a1.symm, pk_us.trans a2.symm, pk_us.trans a3.symm, pk_us.trans a4.symm, pk_us.trans a5.symm, pk_us.trans a6.symm⟩
theorem hg_add (K : Nat → Int32) (B : Nat) {s : Int32} (hs : s ≠ -1) : hg (upd K B (-1)) (B + 1) s = hg K B s := by
  unfold hg
  rw [fb_ct_succ, pk_us, fb_ct_cong (q := fun b => decide (K b = s)) (fun k hk => by rw [pk_un (by omega)])]
  simp [fun e : (-1 : Int32) = s => hs e.symm, Ne.symm hs]
theorem SKf.add {K P : Nat → Int32} (h : SKf B K P) : SKf (B + 1) (upd K B (-1)) (upd P B (-1)) := by
  refine ⟨fun b hb => ?_, fun b hb hk => ?_, fun s hs b c hb hc kb kc p => ?_, fun s hs => by rw [hg_add K B hs]; exact h.2.2.2 s hs⟩
  · rcases Nat.decEq b B with q | q
    · rw [pk_un q]; exact h.1 b (by omega)
    · subst q; rw [pk_us]; exact .inl rfl
  · rcases Nat.decEq b B with q | q
    · rw [pk_un q] at hk ⊢
      rw [hg_add K B hk, pk_un q]
      exact h.2.1 b (by omega) hk
    · subst q; rw [pk_us] at hk; exact absurd rfl hk
  · rcases Nat.decEq b B with q | q <;> rcases Nat.decEq c B with q2 | q2
    · rw [pk_un q] at kb
      rw [pk_un q2] at kc
      rw [pk_un q, pk_un q2] at p
      exact h.2.2.1 s hs b c (by omega) (by omega) kb kc p
    · subst q2; rw [pk_us] at kc; exact absurd kc.symm hs
    · subst q; rw [pk_us] at kb; exact absurd kb.symm hs
    · rw [q, q2]
theorem BD.add {q : Nat} (h : BD B q v) {p1 p2 : Int32} (h1 : 500 ≤ p1.toInt ∧ p1.toInt ≤ 100000) (h2 : -900 ≤ p2.toInt ∧ p2.toInt ≤ 900) : BD (B + 1) q (addS v B p1 p2) := by
  obtain ⟨d1, d2, d3, d4, d5⟩ := h
  have z : (0 : Int32).toInt = 0 := by decide +kernel
  refine ⟨fun b hb => ?_, fun b hb => ?_, fun b hb => ?_, fun b hb => ?_, d5⟩
  · show 500 ≤ (upd (sN v) B p1 b).toInt ∧ (upd (sN v) B p1 b).toInt ≤ 100000
    rcases Nat.decEq b B with q | q
    · rw [pk_un q]; exact d1 b (by omega)
    · subst q; rw [pk_us]; exact h1
  · show -900 ≤ (upd (sD v) B p2 b).toInt ∧ (upd (sD v) B p2 b).toInt ≤ 900
    rcases Nat.decEq b B with q | q
    · rw [pk_un q]; exact d2 b (by omega)
    · subst q; rw [pk_us]; exact h2
  · show 0 ≤ (upd (sW v) B 0 b).toInt ∧ (upd (sW v) B 0 b).toInt ≤ q
    rcases Nat.decEq b B with q | q
    · rw [pk_un q]; exact d3 b (by omega)
    · subst q; rw [pk_us, z]; omega
  · show 0 ≤ (upd (sH v) B 0 b).toInt ∧ (upd (sH v) B 0 b).toInt ≤ 1000
    rcases Nat.decEq b B with q | q
    · rw [pk_un q]; exact d4 b (by omega)
    · subst q; rw [pk_us, z]; omega
/-- a gap at p closes -/
def gap (g : Nat → Int32) (B p : Nat) : Nat → Int32 := fb_put g (fun k => g (p + 1 + k)) p (B - 1 - p)
theorem gap_lo {g : Nat → Int32} {B p b : Nat} (h : b < p) : gap g B p b = g b := fb_put_out (by omega)
theorem gap_hi {g : Nat → Int32} {B p b : Nat} (h : p ≤ b) (h2 : b + 1 < B) : gap g B p b = g (b + 1) := by
  unfold gap
  rw [fb_put_in h (by omega)]
  exact congrArg g (by omega)
theorem X3_closeGap (hN : 2097152 ≤ N) (hB : sB v = nI B) (hb : B ≤ 20) (g : Nat → Int32) {p : Nat} (hp : p < B) : fX3_closeGap N v g (nI p) = some (gap g B p) := by
  have key : ∀ k i n, i + k = B → k < n → p + 1 ≤ i → lX3_closeGap_4 N v n (fb_put g (fun k => g (p + 1 + k)) p (i - 1 - p)) (nI i) = some (gap g B p) := by
    intro k
    induction k with
    | zero =>
      intro i n hi hk _
      obtain ⟨m, rfl⟩ : ∃ m, n = m + 1 := ⟨n - 1, by omega⟩
      have e : i = B := by omega
      subst e
      rw [lX3_closeGap_4, hB, if_pos (Int32.le_refl _)]
      rfl
    | succ k ih =>
      intro i n hi hk hpi
      obtain ⟨m, rfl⟩ : ∃ m, n = m + 1 := ⟨n - 1, by omega⟩
      obtain ⟨j, rfl⟩ : ∃ j, i = j + 1 := ⟨i - 1, by omega⟩
      rw [lX3_closeGap_4, hB, if_neg (nI_ge (by omega) (by omega)), ckI (by omega) (by decide), nI_pred, ckI (by omega) (by decide), nI_clamp (by omega), nI_clamp (by omega), nI_1]
      have e : upd (fb_put g (fun k => g (p + 1 + k)) p (j + 1 - 1 - p)) j (fb_put g (fun k => g (p + 1 + k)) p (j + 1 - 1 - p) (j + 1)) = fb_put g (fun k => g (p + 1 + k)) p (j + 1 + 1 - 1 - p) := by
        have q := fb_put_succ g (fun k => g (p + 1 + k)) p (j - p)
        rw [fb_put_out (k := j + 1) (by omega)]
        rw [show p + (j - p) = j by omega, show p + 1 + (j - p) = j + 1 by omega, show j - p + 1 = j + 1 + 1 - 1 - p by omega] at q
        exact q
      rw [e]
      exact ih (j + 1 + 1) m (by omega) (by omega) (by omega)
  unfold fX3_closeGap
  have h2 := key (B - (p + 1)) (p + 1) N (by omega) (by omega) (Nat.le_refl _)
  rw [show p + 1 - 1 - p = 0 by omega, fb_put_0, ← nI_1] at h2
  rw [h2]
  rfl
def rmS (v : VS) (B p : Nat) : VS := (gap (sN v) B p, gap (sD v) B p, gap (sW v) B p, gap (sH v) B p, gap (sK v) B p, gap (sP v) B p, gap (sT v) B p, sS v, nI (B - 1), sM v, sG v, sO v, sR v)
theorem X3_removeBlock (hN : 2097152 ≤ N) (hB : sB v = nI B) (hb : B ≤ 20) {p : Nat} (hp : p < B) : fX3_removeBlock N v (nI p) = some (rmS v B p) := by
  unfold fX3_removeBlock
  have e0 := X3_closeGap (v := v) hN hB hb (sN v) hp
  have e1 := X3_closeGap (v := (gap (sN v) B p, sD v, sW v, sH v, sK v, sP v, sT v, sS v, sB v, sM v, sG v, sO v, sR v)) hN hB hb (sD v) hp
  have e2 := X3_closeGap (v := (gap (sN v) B p, gap (sD v) B p, sW v, sH v, sK v, sP v, sT v, sS v, sB v, sM v, sG v, sO v, sR v)) hN hB hb (sW v) hp
  have e3 := X3_closeGap (v := (gap (sN v) B p, gap (sD v) B p, gap (sW v) B p, sH v, sK v, sP v, sT v, sS v, sB v, sM v, sG v, sO v, sR v)) hN hB hb (sH v) hp
  have e4 := X3_closeGap (v := (gap (sN v) B p, gap (sD v) B p, gap (sW v) B p, gap (sH v) B p, sK v, sP v, sT v, sS v, sB v, sM v, sG v, sO v, sR v)) hN hB hb (sK v) hp
  have e5 := X3_closeGap (v := (gap (sN v) B p, gap (sD v) B p, gap (sW v) B p, gap (sH v) B p, gap (sK v) B p, sP v, sT v, sS v, sB v, sM v, sG v, sO v, sR v)) hN hB hb (sP v) hp
  have e6 := X3_closeGap (v := (gap (sN v) B p, gap (sD v) B p, gap (sW v) B p, gap (sH v) B p, gap (sK v) B p, gap (sP v) B p, sT v, sS v, sB v, sM v, sG v, sO v, sR v)) hN hB hb (sT v) hp
  rw [e0, bsome, e1, bsome, e2, bsome, e3, bsome, e4, bsome, e5, bsome, e6, bsome, hB, show nI B - 1 = nI (B - 1) from nI_sub (b := 1) (by omega)]
  rfl
end OPS
