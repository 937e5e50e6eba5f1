/-! copies, the saved states, the snapshots -/
def BD (B q : Nat) (v : VS) : Prop :=
  (∀ b, b < B → 500 ≤ (sN v b).toInt ∧ (sN v b).toInt ≤ 100000) ∧ (∀ b, b < B → -900 ≤ (sD v b).toInt ∧ (sD v b).toInt ≤ 900) ∧ (∀ b, b < B → 0 ≤ (sW v b).toInt ∧ (sW v b).toInt ≤ q) ∧ (∀ b, b < B → 0 ≤ (sH v b).toInt ∧ (sH v b).toInt ≤ 1000) ∧
  (0 ≤ (sS v 0).toInt ∧ (sS v 0).toInt ≤ 60) ∧ (0 ≤ (sS v 1).toInt ∧ (sS v 1).toInt ≤ 1000) ∧ (0 ≤ (sS v 2).toInt ∧ (sS v 2).toInt ≤ 20) ∧ (0 ≤ (sS v 3).toInt ∧ (sS v 3).toInt ≤ 200)
theorem BD.mono {B q q2 : Nat} {v : VS} (h : q ≤ q2) (hd : BD B q v) : BD B q2 v := ⟨hd.1, hd.2.1, fun b hb => ⟨(hd.2.2.1 b hb).1, by have := (hd.2.2.1 b hb).2; omega⟩, hd.2.2.2⟩
theorem RS.cong {B : Nat} {v : VS} {r r2 : Nat → Int32} (h : RS B v r) (e : ∀ i, i < 149 → r2 i = r i) : RS B v r2 := by
  obtain ⟨⟨h1, h2, h3⟩, h4, ⟨h5, h6, h7, h8⟩, h9⟩ := h
  refine ⟨⟨h1, h2, (e _ (by decide)).trans h3⟩, fun j hj => (h4 j hj).trans (e _ (by omega)).symm, ⟨h5.trans (e _ (by decide)).symm, h6.trans (e _ (by decide)).symm, h7.trans (e _ (by decide)).symm, h8.trans (e _ (by decide)).symm⟩, fun c hc => ?_⟩
  obtain ⟨k0, k1, k2, k3, k4, k5, k6⟩ := h9 c hc
  exact ⟨k0.trans (e _ (by omega)).symm, k1.trans (e _ (by omega)).symm, k2.trans (e _ (by omega)).symm, k3.trans (e _ (by omega)).symm, k4.trans (e _ (by omega)).symm, k5.trans (e _ (by omega)).symm, k6.trans (e _ (by omega)).symm⟩
theorem hg_cong {B : Nat} {K K2 : Nat → Int32} (e : ∀ b, b < B → K2 b = K b) (s : Int32) : hg K2 B s = hg K B s := fb_ct_cong (fun k hk => by rw [e k hk])
theorem SKf.cong {B : Nat} {K P K2 P2 : Nat → Int32} (h : SKf B K P) (e : ∀ b, b < B → K2 b = K b) (e2 : ∀ b, b < B → P2 b = P b) : SKf B K2 P2 := by
  refine ⟨fun b hb => by rw [e b hb]; exact h.1 b hb, fun b hb hk => ?_, fun s hs b c hb hc kb kc p => ?_, fun s hs => by rw [hg_cong e]; exact h.2.2.2 s hs⟩
  · rw [e b hb] at hk ⊢
    rw [hg_cong e, e2 b hb]
    exact h.2.1 b hb hk
  · rw [e b hb] at kb
    rw [e c hc] at kc
    rw [e2 b hb, e2 c hc] at p
    exact h.2.2.1 s hs b c hb hc kb kc p
/-- a state of the class, the reference's row, and what holds of them; q: the wear's bound -/
def SS (q : Nat) (v : VS) (r : Nat → Int32) : Prop := ∃ B, RS B v r ∧ SKf B (sK v) (sP v) ∧ BD B q v
theorem SS.mono {q q2 : Nat} {v : VS} {r : Nat → Int32} (h : q ≤ q2) (hs : SS q v r) : SS q2 v r := hs.elim (fun B h1 => ⟨B, h1.1, h1.2.1, h1.2.2.mono h⟩)
theorem SS.cong {q : Nat} {v : VS} {r r2 : Nat → Int32} (h : SS q v r) (e : ∀ i, i < 149 → r2 i = r i) : SS q v r2 := h.elim (fun B h1 => ⟨B, h1.1.cong e, h1.2⟩)
def cpy (d o : VS) : VS := ((va_cpy (sN o) (sN d) 0 0 20), (va_cpy (sD o) (sD d) 0 0 20), (va_cpy (sW o) (sW d) 0 0 20), (va_cpy (sH o) (sH d) 0 0 20), (va_cpy (sK o) (sK d) 0 0 20), (va_cpy (sP o) (sP d) 0 0 20), (va_cpy (sT o) (sT d) 0 0 20), (va_cpy (sS o) (sS d) 0 0 4), (sB o), (sM o), (sG o), (sO o), (sR o))
theorem X3_copyFrom (N : Nat) (d o : VS) : fX3_copyFrom N d o = some (cpy d o) := rfl
theorem cp20 {f g : Nat → Int32} {j : Nat} (h : j < 20) : va_cpy f g 0 0 20 j = f j := sb_cpy0 h
theorem cp4 {f g : Nat → Int32} {j : Nat} (h : j < 4) : va_cpy f g 0 0 4 j = f j := sb_cpy0 h
theorem SS.cpy {q : Nat} {o : VS} {r : Nat → Int32} (h : SS q o r) (d : VS) : SS q (cpy d o) r := by
  obtain ⟨B, h1, h2, h3⟩ := h
  have hl := h1.le
  refine ⟨B, ?_, h2.cong (fun b hb => cp20 (by omega)) (fun b hb => cp20 (by omega)), ?_⟩
  · obtain ⟨g1, h4, h5, h9⟩ := h1
    refine ⟨g1, fun j hj => (cp4 hj).trans (h4 j hj), h5, fun c hc => ?_⟩
    obtain ⟨k0, k1, k2, k3, k4, k5, k6⟩ := h9 c hc
    exact ⟨(cp20 (by omega)).trans k0, (cp20 (by omega)).trans k1, (cp20 (by omega)).trans k2, (cp20 (by omega)).trans k3, (cp20 (by omega)).trans k4, (cp20 (by omega)).trans k5, (cp20 (by omega)).trans k6⟩
  · obtain ⟨d1, d2, d3, d4, d5, d6, d7, d8⟩ := h3
    have e (f g : Nat → Int32) (b : Nat) (hb : b < B) : va_cpy f g 0 0 20 b = f b := cp20 (by omega)
    refine ⟨fun b hb => ?_, fun b hb => ?_, fun b hb => ?_, fun b hb => ?_, ?_, ?_, ?_, ?_⟩
    · exact (congrArg (fun x : Int32 => 500 ≤ x.toInt ∧ x.toInt ≤ 100000) (e (sN o) (sN d) b hb)).mpr (d1 b hb)
    · exact (congrArg (fun x : Int32 => -900 ≤ x.toInt ∧ x.toInt ≤ 900) (e (sD o) (sD d) b hb)).mpr (d2 b hb)
    · exact (congrArg (fun x : Int32 => 0 ≤ x.toInt ∧ x.toInt ≤ (q : Int)) (e (sW o) (sW d) b hb)).mpr (d3 b hb)
    · exact (congrArg (fun x : Int32 => 0 ≤ x.toInt ∧ x.toInt ≤ 1000) (e (sH o) (sH d) b hb)).mpr (d4 b hb)
    · exact (congrArg (fun x : Int32 => 0 ≤ x.toInt ∧ x.toInt ≤ 60) (cp4 (f := sS o) (g := sS d) (j := 0) (by decide))).mpr d5
    · exact (congrArg (fun x : Int32 => 0 ≤ x.toInt ∧ x.toInt ≤ 1000) (cp4 (f := sS o) (g := sS d) (j := 1) (by decide))).mpr d6
    · exact (congrArg (fun x : Int32 => 0 ≤ x.toInt ∧ x.toInt ≤ 20) (cp4 (f := sS o) (g := sS d) (j := 2) (by decide))).mpr d7
    · exact (congrArg (fun x : Int32 => 0 ≤ x.toInt ∧ x.toInt ≤ 200) (cp4 (f := sS o) (g := sS d) (j := 3) (by decide))).mpr d8
theorem for_seq {α ρ : Type} {B : Nat} (L : Nat → α → Int32 → Option ρ) (F : Nat → α) (e : ρ) (hx : ∀ n, L (n + 1) (F B) (nI B) = some e) (hs : ∀ n i, i < B → L (n + 1) (F i) (nI i) = L n (F (i + 1)) (nI i + 1)) {n : Nat} (i0 : Nat) (h0 : i0 ≤ B) (hn : B - i0 < n) :
    L n (F i0) (nI i0) = some e := by
  have key : ∀ k i n, i + k = B → k < n → L n (F i) (nI i) = some e := by
    intro k
    induction k with
    | zero =>
      intro i n hi hk
      obtain ⟨m, rfl⟩ : ∃ m, n = m + 1 := ⟨n - 1, by omega⟩
      have e : i = B := by omega
      subst e
      exact hx m
    | succ k ih =>
      intro i n hi hk
      obtain ⟨m, rfl⟩ : ∃ m, n = m + 1 := ⟨n - 1, by omega⟩
      rw [hs m i (by omega), nI_1]
      exact ih (i + 1) m (by omega) (by omega)
  exact key (B - i0) i0 n (by omega) (by omega)
theorem ix149 (n i : Nat) : (149 * nI n) + nI i = nI (149 * n + i) := by
  show (nI 149 * nI n) + nI i = _
  rw [nI_mul, nI_add]
section SV
variable {N : Nat}
end SV
def vAt (z : VV) (j : Nat) : VS := if j = 0 then v0 z else if j = 1 then v1 z else if j = 2 then v2 z else if j = 3 then v3 z else if j = 4 then v4 z else v5 z
def vSet (z : VV) (j : Nat) (c : VS) : VV := (nI (j + 1), if j = 0 then c else v0 z, if j = 1 then c else v1 z, if j = 2 then c else v2 z, if j = 3 then c else v3 z, if j = 4 then c else v4 z, if j = 5 then c else v5 z)
theorem vAt_set (z : VV) {j n : Nat} (hj : j < 6) (hn : n < 6) (c : VS) : vAt (vSet z n c) j = if j = n then c else vAt z j := by
  unfold vAt vSet
  (repeat' split) <;> first | rfl | (exfalso; omega)
theorem vAt_drop (z : VV) {j : Nat} (hj : j < 5) : vAt (fX2_dropOldest z) j = vAt z (j + 1) := by
  unfold vAt fX2_dropOldest
  (repeat' split) <;> first | rfl | (exfalso; omega)
def RV (q n : Nat) (z : VV) (s : Nat → Int32) : Prop := n ≤ 6 ∧ vN z = nI n ∧ ∀ j, j < n → SS q (vAt z j) (fun i => s (149 * j + i))
theorem pushAt_n (N : Nat) {z : VV} {n : Nat} (hn : n < 6) (hz : vN z = nI n) (v : VS) : fX2_pushAt N z v = some (vSet z n (cpy (vAt z n) v)) := by
  rcases (show n = 0 ∨ n = 1 ∨ n = 2 ∨ n = 3 ∨ n = 4 ∨ n = 5 by omega) with rfl | rfl | rfl | rfl | rfl | rfl
  · unfold fX2_pushAt
    rw [hz, if_pos (by decide), X3_copyFrom]
    rfl
  · unfold fX2_pushAt
    rw [hz, if_neg (by decide), if_pos (by decide), X3_copyFrom]
    rfl
  · unfold fX2_pushAt
    rw [hz, if_neg (by decide), if_neg (by decide), if_pos (by decide), X3_copyFrom]
    rfl
  · unfold fX2_pushAt
    rw [hz, if_neg (by decide), if_neg (by decide), if_neg (by decide), if_pos (by decide), X3_copyFrom]
    rfl
  · unfold fX2_pushAt
    rw [hz, if_neg (by decide), if_neg (by decide), if_neg (by decide), if_neg (by decide), if_pos (by decide), X3_copyFrom]
    rfl
  · unfold fX2_pushAt
    rw [hz, if_neg (by decide), if_neg (by decide), if_neg (by decide), if_neg (by decide), if_neg (by decide), if_pos (by decide), X3_copyFrom]
    rfl
def vLess (z : VV) (n : Nat) : VV := (nI n, v0 z, v1 z, v2 z, v3 z, v4 z, v5 z)
