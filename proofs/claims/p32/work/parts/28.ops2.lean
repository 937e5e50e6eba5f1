/-! a block goes: the reference's row -/
section OPT
variable {N B : Nat} {v : VS}
def rowRm (r : Nat → Int32) (B p : Nat) : Nat → Int32 := fb_put (fb_put (upd r 8 (nI (B - 1))) (fun k => r (9 + 7 * p + 7 + k)) (9 + 7 * p) (7 * (B - 1 - p))) (fun _ => 0) (9 + 7 * (B - 1)) 7
theorem RS.rm {r : Nat → Int32} (h : RS B v r) {p : Nat} (hp : p < B) : RS (B - 1) (rmS v B p) (rowRm r B p) := by
  obtain ⟨⟨h1, h2, h3⟩, h4, ⟨h5, h6, h7, h8⟩, h9⟩ := h
  have lo : ∀ j, j < 8 → rowRm r B p j = r j := fun j hj => (fb_put_out (by omega)).trans ((fb_put_out (by omega)).trans (pk_un (by omega)))
  have bl : ∀ c w, c < p → c < B - 1 → w < 7 → rowRm r B p (9 + 7 * c + w) = r (9 + 7 * c + w) := fun c w hc hc2 hw => (fb_put_out (by omega)).trans ((fb_put_out (by omega)).trans (pk_un (by omega)))
  have bh : ∀ c w, p ≤ c → c < B - 1 → w < 7 → rowRm r B p (9 + 7 * c + w) = r (9 + 7 * (c + 1) + w) := fun c w hc hc2 hw => (fb_put_out (by omega)).trans ((fb_put_in (by omega) (by omega)).trans (congrArg r (by omega)))
  refine ⟨⟨by omega, rfl, (fb_put_out (by omega)).trans ((fb_put_out (by omega)).trans pk_us)⟩, fun j hj => (h4 j hj).trans (lo j (by omega)).symm, ⟨h5.trans (lo _ (by decide)).symm, h6.trans (lo _ (by decide)).symm, h7.trans (lo _ (by decide)).symm, h8.trans (lo _ (by decide)).symm⟩, fun c hc => ?_⟩
  rcases Nat.lt_or_ge c p with q | q
  · obtain ⟨k0, k1, k2, k3, k4, k5, k6⟩ := h9 c (by omega)
    exact ⟨(gap_lo q).trans (k0.trans (bl c 0 q hc (by decide)).symm), (gap_lo q).trans (k1.trans (bl c 1 q hc (by decide)).symm), (gap_lo q).trans (k2.trans (bl c 2 q hc (by decide)).symm), (gap_lo q).trans (k3.trans (bl c 3 q hc (by decide)).symm), (gap_lo q).trans (k4.trans (bl c 4 q hc (by decide)).symm), (gap_lo q).trans (k5.trans (bl c 5 q hc (by decide)).symm), (gap_lo q).trans (k6.trans (bl c 6 q hc (by decide)).symm)⟩
  · have hc1 : c + 1 < B := by omega
    obtain ⟨k0, k1, k2, k3, k4, k5, k6⟩ := h9 (c + 1) hc1
    exact ⟨(gap_hi q hc1).trans (k0.trans (bh c 0 q hc (by decide)).symm), (gap_hi q hc1).trans (k1.trans (bh c 1 q hc (by decide)).symm), (gap_hi q hc1).trans (k2.trans (bh c 2 q hc (by decide)).symm), (gap_hi q hc1).trans (k3.trans (bh c 3 q hc (by decide)).symm), (gap_hi q hc1).trans (k4.trans (bh c 4 q hc (by decide)).symm), (gap_hi q hc1).trans (k5.trans (bh c 5 q hc (by decide)).symm), (gap_hi q hc1).trans (k6.trans (bh c 6 q hc (by decide)).symm)⟩
theorem ct_gap (p : Nat → Bool) {g : Nat} (hg : p g = false) : ∀ {n : Nat}, g ≤ n → fb_ct (fun k => if k < g then p k else p (k + 1)) n = fb_ct p (n + 1) := by
  intro n h
  induction n with
  | zero =>
    have e : g = 0 := by omega
    subst e
    rw [fb_ct_succ, hg]
    rfl
  | succ n ih =>
    rcases Nat.lt_or_ge n g with c | c
    · have e : g = n + 1 := by omega
      subst e
      rw [fb_ct_succ p (n + 1), hg]
      exact fb_ct_cong (fun k hk => by rw [if_pos hk])
    · have e : (if n < g then p n else p (n + 1)) = p (n + 1) := if_neg (by omega)
      rw [fb_ct_succ, ih c, fb_ct_succ p (n + 1)]
      simp only [e]
theorem gap_if {g : Nat → Int32} {B p b : Nat} (h : b + 1 < B) : gap g B p b = if b < p then g b else g (b + 1) := by
  rcases Nat.lt_or_ge b p with c | c
  · rw [if_pos c, gap_lo c]
  · rw [if_neg (by omega), gap_hi c h]
theorem hg_gap {K : Nat → Int32} {p : Nat} (hp : p < B) (hf : K p = -1) {s : Int32} (hs : s ≠ -1) : hg (gap K B p) (B - 1) s = hg K B s := by
  unfold hg
  obtain ⟨n, rfl⟩ : ∃ n, B = n + 1 := ⟨B - 1, by omega⟩
  have h := ct_gap (fun b => decide (K b = s)) (g := p) (by rw [hf]; simp [Ne.symm hs]) (n := n) (by omega)
  rw [← h]
  refine fb_ct_cong (fun k hk => ?_)
  rw [gap_if (show k + 1 < n + 1 by omega)]
  split <;> rfl
theorem SKf.rm {K P : Nat → Int32} (h : SKf B K P) {p : Nat} (hp : p < B) (hf : K p = -1) : SKf (B - 1) (gap K B p) (gap P B p) := by
  have sh : ∀ b, b < B - 1 → ∃ c, c < B ∧ gap K B p b = K c ∧ gap P B p b = P c ∧ c = if b < p then b else b + 1 := fun b hb => by
    rcases Nat.lt_or_ge b p with q | q
    · exact ⟨b, by omega, gap_lo q, gap_lo q, by rw [if_pos q]⟩
    · exact ⟨b + 1, by omega, gap_hi q (by omega), gap_hi q (by omega), by rw [if_neg (by omega)]⟩
  refine ⟨fun b hb => ?_, fun b hb hk => ?_, fun s hs b c hb hc kb kc e => ?_, fun s hs => by rw [hg_gap hp hf hs]; exact h.2.2.2 s hs⟩
  · obtain ⟨c, h1, h2, -, -⟩ := sh b hb
    rw [h2]; exact h.1 c h1
  · obtain ⟨c, h1, h2, h3, -⟩ := sh b hb
    rw [h2] at hk ⊢
    rw [hg_gap hp hf hk, h3]
    exact h.2.1 c h1 hk
  · obtain ⟨b2, h1, h2, h3, h4⟩ := sh b hb
    obtain ⟨c2, h5, h6, h7, h8⟩ := sh c hc
    have e2 := h.2.2.1 s hs b2 c2 h1 h5 (h2.symm.trans kb) (h6.symm.trans kc) (h3.symm.trans (e.trans h7))
    rw [h4, h8] at e2
    split at e2 <;> split at e2 <;> omega
theorem BD.rm {q : Nat} (h : BD B q v) {p : Nat} (hp : p < B) : BD (B - 1) q (rmS v B p) := by
  obtain ⟨d1, d2, d3, d4, d5⟩ := h
  have sh : ∀ (f : Nat → Int32) (Q : Int32 → Prop), (∀ b, b < B → Q (f b)) → ∀ b, b < B - 1 → Q (gap f B p b) := fun f Q h b hb => by
    rcases Nat.lt_or_ge b p with q | q
    · rw [gap_lo q]; exact h b (by omega)
    · rw [gap_hi q (by omega)]; exact h _ (by omega)
  exact ⟨sh (sN v) (fun x => 500 ≤ x.toInt ∧ x.toInt ≤ 100000) d1, sh (sD v) (fun x => -900 ≤ x.toInt ∧ x.toInt ≤ 900) d2, sh (sW v) (fun x => 0 ≤ x.toInt ∧ x.toInt ≤ q) d3, sh (sH v) (fun x => 0 ≤ x.toInt ∧ x.toInt ≤ 1000) d4, d5⟩
/-! calibrating, warming -/
theorem err_I {q : Nat} (hq : q ≤ 1000000000) (h : BD B q v) {b : Nat} (hb : b < B) : (err v b).toInt = (sD v b).toInt - (sW v b).toInt := by
  have h1 := h.2.1 b hb
  have h2 := h.2.2.1 b hb
  exact fb_subI (by omega) (by omega)
def calS (v : VS) (b : Nat) : VS := uW (uD v (upd (sD v) b (jmax (err v b) (-900)))) (upd (sW v) b 0)
theorem X3_calib (N : Nat) (v : VS) {b : Nat} (h : b < 20) : fX3_turnWearIntoDeviation N v (nI b) = some (calS v b) := by
  unfold fX3_turnWearIntoDeviation
  rw [X3_errorOf N v h, bsome, ckI h (by decide), ckI h (by decide), nI_clamp (by omega)]
  rfl
theorem m900 : (-900 : Int32).toInt = -900 := by decide +kernel
theorem z0 : (0 : Int32).toInt = 0 := by decide +kernel
theorem BD.cal {q : Nat} (hq : q ≤ 1000000000) (h : BD B q v) {b : Nat} (hb : b < B) : BD B q (calS v b) := by
  have he := err_I hq h hb
  obtain ⟨d1, d2, d3, d4, d5⟩ := h
  have h1 := d2 b hb
  have h2 := d3 b hb
  refine ⟨d1, fun c hc => ?_, fun c hc => ?_, d4, d5⟩
  · show -900 ≤ (upd (sD v) b (jmax (err v b) (-900)) c).toInt ∧ (upd (sD v) b (jmax (err v b) (-900)) c).toInt ≤ 900
    rcases Nat.decEq c b with q | q
    · rw [pk_un q]; exact d2 c hc
    · subst q
      rw [pk_us]
      unfold jmax
      by_cases c1 : err v c < -900
      · rw [if_pos c1, m900]; omega
      · rw [if_neg c1]
        rw [fa_lt, m900] at c1
        omega
  · show 0 ≤ (upd (sW v) b 0 c).toInt ∧ (upd (sW v) b 0 c).toInt ≤ q
    rcases Nat.decEq c b with q | q
    · rw [pk_un q]; exact d3 c hc
    · subst q; rw [pk_us, z0]; omega
theorem i1000 : (1000 : Int32).toInt = 1000 := by decide +kernel
theorem hot_le {x p : Int32} (h1 : 0 ≤ x.toInt ∧ x.toInt ≤ 1000) (h2 : 0 ≤ p.toInt ∧ p.toInt ≤ 1000) : 0 ≤ (hot x p).toInt ∧ (hot x p).toInt ≤ 1000 := by
  have e : (x + p).toInt = x.toInt + p.toInt := fb_addI (by omega) (by omega)
  unfold hot jmin
  by_cases c : (1000 : Int32) < x + p
  · rw [if_pos c, i1000]; omega
  · rw [if_neg c]
    rw [fa_lt, i1000, e] at c
    omega
theorem BD.hot {q : Nat} (h : BD B q v) {b : Nat} (hb : b < B) {p : Int32} (h2 : 0 ≤ p.toInt ∧ p.toInt ≤ 1000) : BD B q (uH v (upd (sH v) b (hot (sH v b) p))) := by
  obtain ⟨d1, d2, d3, d4, d5⟩ := h
  refine ⟨d1, d2, d3, fun c hc => ?_, d5⟩
  show 0 ≤ (upd (sH v) b _ c).toInt ∧ (upd (sH v) b _ c).toInt ≤ 1000
  rcases Nat.decEq c b with q | q
  · rw [pk_un q]; exact d4 c hc
  · subst q; rw [pk_us]; exact hot_le (d4 c hc) h2
theorem BD.rub {q : Nat} (hq : q ≤ 1000000000) {v2 : VS} (h : BD B q v) (hr : Rub B v v2) : BD B (q + 20) v2 := by
  obtain ⟨d1, d2, d3, d4, d5, d6, d7, d8⟩ := h
  obtain ⟨r1, r2, r3, r4, r5⟩ := hr
  refine ⟨fun b hb => by rw [r1]; exact d1 b hb, fun b hb => by rw [r2]; exact d2 b hb, fun b hb => ?_, fun b hb => ?_, by rw [r3]; exact ⟨d5, d6, d7, d8⟩⟩
  · have := d3 b hb
    rcases r5 b with e | e
    · rw [e]; omega
    · have e2 : (sW v b + sS v 2).toInt = (sW v b).toInt + (sS v 2).toInt := fb_addI (by omega) (by omega)
      rw [e, e2]; omega
  · rcases r4 b with e | e
    · rw [e]; exact d4 b hb
    · rw [e]; exact hot_le (d4 b hb) (by omega)
end OPT
