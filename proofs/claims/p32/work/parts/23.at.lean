def uN (v : VS) (g : (Nat → Int32)) : VS := (g, sD v, sW v, sH v, sK v, sP v, sT v, sS v, sB v, sM v, sG v, sO v, sR v)
def uD (v : VS) (g : (Nat → Int32)) : VS := (sN v, g, sW v, sH v, sK v, sP v, sT v, sS v, sB v, sM v, sG v, sO v, sR v)
def uW (v : VS) (g : (Nat → Int32)) : VS := (sN v, sD v, g, sH v, sK v, sP v, sT v, sS v, sB v, sM v, sG v, sO v, sR v)
def uH (v : VS) (g : (Nat → Int32)) : VS := (sN v, sD v, sW v, g, sK v, sP v, sT v, sS v, sB v, sM v, sG v, sO v, sR v)
def uK (v : VS) (g : (Nat → Int32)) : VS := (sN v, sD v, sW v, sH v, g, sP v, sT v, sS v, sB v, sM v, sG v, sO v, sR v)
def uP (v : VS) (g : (Nat → Int32)) : VS := (sN v, sD v, sW v, sH v, sK v, g, sT v, sS v, sB v, sM v, sG v, sO v, sR v)
def uT (v : VS) (g : (Nat → Int32)) : VS := (sN v, sD v, sW v, sH v, sK v, sP v, g, sS v, sB v, sM v, sG v, sO v, sR v)
def uS (v : VS) (g : (Nat → Int32)) : VS := (sN v, sD v, sW v, sH v, sK v, sP v, sT v, g, sB v, sM v, sG v, sO v, sR v)
def uB (v : VS) (g : Int32) : VS := (sN v, sD v, sW v, sH v, sK v, sP v, sT v, sS v, g, sM v, sG v, sO v, sR v)
def uM (v : VS) (g : Int32) : VS := (sN v, sD v, sW v, sH v, sK v, sP v, sT v, sS v, sB v, g, sG v, sO v, sR v)
def uG (v : VS) (g : Int32) : VS := (sN v, sD v, sW v, sH v, sK v, sP v, sT v, sS v, sB v, sM v, g, sO v, sR v)
def uO (v : VS) (g : Int32) : VS := (sN v, sD v, sW v, sH v, sK v, sP v, sT v, sS v, sB v, sM v, sG v, g, sR v)
def uR (v : VS) (g : Int32) : VS := (sN v, sD v, sW v, sH v, sK v, sP v, sT v, sS v, sB v, sM v, sG v, sO v, g)
theorem upd_two {f r : Nat → Int32} {b c i : Nat} {x : Int32} (k : f c = r (9 + 7 * c + i)) : upd f b x c = upd r (9 + 7 * b + i) x (9 + 7 * c + i) := by
  rcases Nat.decEq c b with q | q
  · exact (pk_un q).trans (k.trans (pk_un (by omega)).symm)
  · subst q; exact pk_us.trans pk_us.symm
section RSu
variable {B : Nat} {v : VS} {r : Nat → Int32}
theorem RS.uN (h : RS B v r) {b : Nat} (x : Int32) : RS B (uN v (upd (sN v) b x)) (upd r (9 + 7 * b + 0) x) := by
  obtain ⟨⟨h1, h2, h3⟩, h4, ⟨h5, h6, h7, h8⟩, h9⟩ := h
  refine ⟨⟨h1, h2, (pk_un (by omega)).trans h3⟩, fun j hj => (h4 j hj).trans (pk_un (by omega)).symm, ⟨h5.trans (pk_un (by omega)).symm, h6.trans (pk_un (by omega)).symm, h7.trans (pk_un (by omega)).symm, h8.trans (pk_un (by omega)).symm⟩, fun c hc => ?_⟩
  obtain ⟨k0, k1, k2, k3, k4, k5, k6⟩ := h9 c hc
  exact ⟨upd_two k0, k1.trans (pk_un (show 9 + 7 * c + 1 ≠ 9 + 7 * b + 0 by omega)).symm, k2.trans (pk_un (show 9 + 7 * c + 2 ≠ 9 + 7 * b + 0 by omega)).symm, k3.trans (pk_un (show 9 + 7 * c + 3 ≠ 9 + 7 * b + 0 by omega)).symm, k4.trans (pk_un (show 9 + 7 * c + 4 ≠ 9 + 7 * b + 0 by omega)).symm, k5.trans (pk_un (show 9 + 7 * c + 5 ≠ 9 + 7 * b + 0 by omega)).symm, k6.trans (pk_un (show 9 + 7 * c + 6 ≠ 9 + 7 * b + 0 by omega)).symm⟩
theorem RS.uD (h : RS B v r) {b : Nat} (x : Int32) : RS B (uD v (upd (sD v) b x)) (upd r (9 + 7 * b + 1) x) := by
  obtain ⟨⟨h1, h2, h3⟩, h4, ⟨h5, h6, h7, h8⟩, h9⟩ := h
  refine ⟨⟨h1, h2, (pk_un (by omega)).trans h3⟩, fun j hj => (h4 j hj).trans (pk_un (by omega)).symm, ⟨h5.trans (pk_un (by omega)).symm, h6.trans (pk_un (by omega)).symm, h7.trans (pk_un (by omega)).symm, h8.trans (pk_un (by omega)).symm⟩, fun c hc => ?_⟩
  obtain ⟨k0, k1, k2, k3, k4, k5, k6⟩ := h9 c hc
  exact ⟨k0.trans (pk_un (show 9 + 7 * c + 0 ≠ 9 + 7 * b + 1 by omega)).symm, upd_two k1, k2.trans (pk_un (show 9 + 7 * c + 2 ≠ 9 + 7 * b + 1 by omega)).symm, k3.trans (pk_un (show 9 + 7 * c + 3 ≠ 9 + 7 * b + 1 by omega)).symm, k4.trans (pk_un (show 9 + 7 * c + 4 ≠ 9 + 7 * b + 1 by omega)).symm, k5.trans (pk_un (show 9 + 7 * c + 5 ≠ 9 + 7 * b + 1 by omega)).symm, k6.trans (pk_un (show 9 + 7 * c + 6 ≠ 9 + 7 * b + 1 by omega)).symm⟩
theorem RS.uW (h : RS B v r) {b : Nat} (x : Int32) : RS B (uW v (upd (sW v) b x)) (upd r (9 + 7 * b + 2) x) := by
  obtain ⟨⟨h1, h2, h3⟩, h4, ⟨h5, h6, h7, h8⟩, h9⟩ := h
  refine ⟨⟨h1, h2, (pk_un (by omega)).trans h3⟩, fun j hj => (h4 j hj).trans (pk_un (by omega)).symm, ⟨h5.trans (pk_un (by omega)).symm, h6.trans (pk_un (by omega)).symm, h7.trans (pk_un (by omega)).symm, h8.trans (pk_un (by omega)).symm⟩, fun c hc => ?_⟩
  obtain ⟨k0, k1, k2, k3, k4, k5, k6⟩ := h9 c hc
  exact ⟨k0.trans (pk_un (show 9 + 7 * c + 0 ≠ 9 + 7 * b + 2 by omega)).symm, k1.trans (pk_un (show 9 + 7 * c + 1 ≠ 9 + 7 * b + 2 by omega)).symm, upd_two k2, k3.trans (pk_un (show 9 + 7 * c + 3 ≠ 9 + 7 * b + 2 by omega)).symm, k4.trans (pk_un (show 9 + 7 * c + 4 ≠ 9 + 7 * b + 2 by omega)).symm, k5.trans (pk_un (show 9 + 7 * c + 5 ≠ 9 + 7 * b + 2 by omega)).symm, k6.trans (pk_un (show 9 + 7 * c + 6 ≠ 9 + 7 * b + 2 by omega)).symm⟩
theorem RS.uH (h : RS B v r) {b : Nat} (x : Int32) : RS B (uH v (upd (sH v) b x)) (upd r (9 + 7 * b + 3) x) := by
  obtain ⟨⟨h1, h2, h3⟩, h4, ⟨h5, h6, h7, h8⟩, h9⟩ := h
  refine ⟨⟨h1, h2, (pk_un (by omega)).trans h3⟩, fun j hj => (h4 j hj).trans (pk_un (by omega)).symm, ⟨h5.trans (pk_un (by omega)).symm, h6.trans (pk_un (by omega)).symm, h7.trans (pk_un (by omega)).symm, h8.trans (pk_un (by omega)).symm⟩, fun c hc => ?_⟩
  obtain ⟨k0, k1, k2, k3, k4, k5, k6⟩ := h9 c hc
  exact ⟨k0.trans (pk_un (show 9 + 7 * c + 0 ≠ 9 + 7 * b + 3 by omega)).symm, k1.trans (pk_un (show 9 + 7 * c + 1 ≠ 9 + 7 * b + 3 by omega)).symm, k2.trans (pk_un (show 9 + 7 * c + 2 ≠ 9 + 7 * b + 3 by omega)).symm, upd_two k3, k4.trans (pk_un (show 9 + 7 * c + 4 ≠ 9 + 7 * b + 3 by omega)).symm, k5.trans (pk_un (show 9 + 7 * c + 5 ≠ 9 + 7 * b + 3 by omega)).symm, k6.trans (pk_un (show 9 + 7 * c + 6 ≠ 9 + 7 * b + 3 by omega)).symm⟩
theorem RS.uK (h : RS B v r) {b : Nat} (x : Int32) : RS B (uK v (upd (sK v) b x)) (upd r (9 + 7 * b + 4) x) := by
  obtain ⟨⟨h1, h2, h3⟩, h4, ⟨h5, h6, h7, h8⟩, h9⟩ := h
  refine ⟨⟨h1, h2, (pk_un (by omega)).trans h3⟩, fun j hj => (h4 j hj).trans (pk_un (by omega)).symm, ⟨h5.trans (pk_un (by omega)).symm, h6.trans (pk_un (by omega)).symm, h7.trans (pk_un (by omega)).symm, h8.trans (pk_un (by omega)).symm⟩, fun c hc => ?_⟩
  obtain ⟨k0, k1, k2, k3, k4, k5, k6⟩ := h9 c hc
  exact ⟨k0.trans (pk_un (show 9 + 7 * c + 0 ≠ 9 + 7 * b + 4 by omega)).symm, k1.trans (pk_un (show 9 + 7 * c + 1 ≠ 9 + 7 * b + 4 by omega)).symm, k2.trans (pk_un (show 9 + 7 * c + 2 ≠ 9 + 7 * b + 4 by omega)).symm, k3.trans (pk_un (show 9 + 7 * c + 3 ≠ 9 + 7 * b + 4 by omega)).symm, upd_two k4, k5.trans (pk_un (show 9 + 7 * c + 5 ≠ 9 + 7 * b + 4 by omega)).symm, k6.trans (pk_un (show 9 + 7 * c + 6 ≠ 9 + 7 * b + 4 by omega)).symm⟩
theorem RS.uP (h : RS B v r) {b : Nat} (x : Int32) : RS B (uP v (upd (sP v) b x)) (upd r (9 + 7 * b + 5) x) := by
  obtain ⟨⟨h1, h2, h3⟩, h4, ⟨h5, h6, h7, h8⟩, h9⟩ := h
  refine ⟨⟨h1, h2, (pk_un (by omega)).trans h3⟩, fun j hj => (h4 j hj).trans (pk_un (by omega)).symm, ⟨h5.trans (pk_un (by omega)).symm, h6.trans (pk_un (by omega)).symm, h7.trans (pk_un (by omega)).symm, h8.trans (pk_un (by omega)).symm⟩, fun c hc => ?_⟩
  obtain ⟨k0, k1, k2, k3, k4, k5, k6⟩ := h9 c hc
  exact ⟨k0.trans (pk_un (show 9 + 7 * c + 0 ≠ 9 + 7 * b + 5 by omega)).symm, k1.trans (pk_un (show 9 + 7 * c + 1 ≠ 9 + 7 * b + 5 by omega)).symm, k2.trans (pk_un (show 9 + 7 * c + 2 ≠ 9 + 7 * b + 5 by omega)).symm, k3.trans (pk_un (show 9 + 7 * c + 3 ≠ 9 + 7 * b + 5 by omega)).symm, k4.trans (pk_un (show 9 + 7 * c + 4 ≠ 9 + 7 * b + 5 by omega)).symm, upd_two k5, k6.trans (pk_un (show 9 + 7 * c + 6 ≠ 9 + 7 * b + 5 by omega)).symm⟩
theorem RS.uT (h : RS B v r) {b : Nat} (x : Int32) : RS B (uT v (upd (sT v) b x)) (upd r (9 + 7 * b + 6) x) := by
  obtain ⟨⟨h1, h2, h3⟩, h4, ⟨h5, h6, h7, h8⟩, h9⟩ := h
  refine ⟨⟨h1, h2, (pk_un (by omega)).trans h3⟩, fun j hj => (h4 j hj).trans (pk_un (by omega)).symm, ⟨h5.trans (pk_un (by omega)).symm, h6.trans (pk_un (by omega)).symm, h7.trans (pk_un (by omega)).symm, h8.trans (pk_un (by omega)).symm⟩, fun c hc => ?_⟩
  obtain ⟨k0, k1, k2, k3, k4, k5, k6⟩ := h9 c hc
  exact ⟨k0.trans (pk_un (show 9 + 7 * c + 0 ≠ 9 + 7 * b + 6 by omega)).symm, k1.trans (pk_un (show 9 + 7 * c + 1 ≠ 9 + 7 * b + 6 by omega)).symm, k2.trans (pk_un (show 9 + 7 * c + 2 ≠ 9 + 7 * b + 6 by omega)).symm, k3.trans (pk_un (show 9 + 7 * c + 3 ≠ 9 + 7 * b + 6 by omega)).symm, k4.trans (pk_un (show 9 + 7 * c + 4 ≠ 9 + 7 * b + 6 by omega)).symm, k5.trans (pk_un (show 9 + 7 * c + 5 ≠ 9 + 7 * b + 6 by omega)).symm, upd_two k6⟩
theorem RS.uM (h : RS B v r) (x : Int32) : RS B (uM v x) (upd r 4 x) := by
  obtain ⟨⟨h1, h2, h3⟩, h4, ⟨h5, h6, h7, h8⟩, h9⟩ := h
  refine ⟨⟨h1, h2, (pk_un (by omega)).trans h3⟩, fun j hj => (h4 j hj).trans (pk_un (by omega)).symm, ⟨pk_us.symm, h6.trans (pk_un (by omega)).symm, h7.trans (pk_un (by omega)).symm, h8.trans (pk_un (by omega)).symm⟩, fun c hc => ?_⟩
  obtain ⟨k0, k1, k2, k3, k4, k5, k6⟩ := h9 c hc
  exact ⟨k0.trans (pk_un (by omega)).symm, k1.trans (pk_un (by omega)).symm, k2.trans (pk_un (by omega)).symm, k3.trans (pk_un (by omega)).symm, k4.trans (pk_un (by omega)).symm, k5.trans (pk_un (by omega)).symm, k6.trans (pk_un (by omega)).symm⟩
theorem RS.uG (h : RS B v r) (x : Int32) : RS B (uG v x) (upd r 5 x) := by
  obtain ⟨⟨h1, h2, h3⟩, h4, ⟨h5, h6, h7, h8⟩, h9⟩ := h
  refine ⟨⟨h1, h2, (pk_un (by omega)).trans h3⟩, fun j hj => (h4 j hj).trans (pk_un (by omega)).symm, ⟨h5.trans (pk_un (by omega)).symm, pk_us.symm, h7.trans (pk_un (by omega)).symm, h8.trans (pk_un (by omega)).symm⟩, fun c hc => ?_⟩
  obtain ⟨k0, k1, k2, k3, k4, k5, k6⟩ := h9 c hc
  exact ⟨k0.trans (pk_un (by omega)).symm, k1.trans (pk_un (by omega)).symm, k2.trans (pk_un (by omega)).symm, k3.trans (pk_un (by omega)).symm, k4.trans (pk_un (by omega)).symm, k5.trans (pk_un (by omega)).symm, k6.trans (pk_un (by omega)).symm⟩
theorem RS.uO (h : RS B v r) (x : Int32) : RS B (uO v x) (upd r 6 x) := by
  obtain ⟨⟨h1, h2, h3⟩, h4, ⟨h5, h6, h7, h8⟩, h9⟩ := h
  refine ⟨⟨h1, h2, (pk_un (by omega)).trans h3⟩, fun j hj => (h4 j hj).trans (pk_un (by omega)).symm, ⟨h5.trans (pk_un (by omega)).symm, h6.trans (pk_un (by omega)).symm, pk_us.symm, h8.trans (pk_un (by omega)).symm⟩, fun c hc => ?_⟩
  obtain ⟨k0, k1, k2, k3, k4, k5, k6⟩ := h9 c hc
  exact ⟨k0.trans (pk_un (by omega)).symm, k1.trans (pk_un (by omega)).symm, k2.trans (pk_un (by omega)).symm, k3.trans (pk_un (by omega)).symm, k4.trans (pk_un (by omega)).symm, k5.trans (pk_un (by omega)).symm, k6.trans (pk_un (by omega)).symm⟩
theorem RS.uR (h : RS B v r) (x : Int32) : RS B (uR v x) (upd r 7 x) := by
  obtain ⟨⟨h1, h2, h3⟩, h4, ⟨h5, h6, h7, h8⟩, h9⟩ := h
  refine ⟨⟨h1, h2, (pk_un (by omega)).trans h3⟩, fun j hj => (h4 j hj).trans (pk_un (by omega)).symm, ⟨h5.trans (pk_un (by omega)).symm, h6.trans (pk_un (by omega)).symm, h7.trans (pk_un (by omega)).symm, pk_us.symm⟩, fun c hc => ?_⟩
  obtain ⟨k0, k1, k2, k3, k4, k5, k6⟩ := h9 c hc
  exact ⟨k0.trans (pk_un (by omega)).symm, k1.trans (pk_un (by omega)).symm, k2.trans (pk_un (by omega)).symm, k3.trans (pk_un (by omega)).symm, k4.trans (pk_un (by omega)).symm, k5.trans (pk_un (by omega)).symm, k6.trans (pk_un (by omega)).symm⟩
theorem RS.uS (h : RS B v r) {j : Nat} (hj : j < 4) (x : Int32) : RS B (uS v (upd (sS v) j x)) (upd r j x) := by
  obtain ⟨⟨h1, h2, h3⟩, h4, ⟨h5, h6, h7, h8⟩, h9⟩ := h
  refine ⟨⟨h1, h2, (pk_un (by omega)).trans h3⟩, fun c hc => ?_, ⟨h5.trans (pk_un (by omega)).symm, h6.trans (pk_un (by omega)).symm, h7.trans (pk_un (by omega)).symm, h8.trans (pk_un (by omega)).symm⟩, fun c hc => ?_⟩
  · rcases Nat.decEq c j with q | q
    · exact (pk_un q).trans ((h4 c hc).trans (pk_un q).symm)
    · subst q; exact pk_us.trans pk_us.symm
  · obtain ⟨k0, k1, k2, k3, k4, k5, k6⟩ := h9 c hc
    exact ⟨k0.trans (pk_un (by omega)).symm, k1.trans (pk_un (by omega)).symm, k2.trans (pk_un (by omega)).symm, k3.trans (pk_un (by omega)).symm, k4.trans (pk_un (by omega)).symm, k5.trans (pk_un (by omega)).symm, k6.trans (pk_un (by omega)).symm⟩
end RSu
/-! a block at a place of a stack -/
def IsAt (v : VS) (B : Nat) (s p : Int32) (b : Nat) : Prop := b < B ∧ sK v b = s ∧ sP v b = p
section AT
variable {N B : Nat} {v : VS}
theorem X3_blockAt (hN : 2097152 ≤ N) (hB : sB v = nI B) (hb : B ≤ 20) (s p : Int32) : (∃ b, IsAt v B s p b ∧ fX3_blockAt N v s p = some (nI b)) ∨ ((∀ b, ¬ IsAt v B s p b) ∧ fX3_blockAt N v s p = some (-1)) := by
  unfold fX3_blockAt
  rcases for_find (B := B) (lX3_blockAt_2 N v s p) (fun b => sK v b = s ∧ sP v b = p) (.inl ()) (fun b => .inr (nI b)) (fun n => by rw [lX3_blockAt_2, hB, if_pos (Int32.le_refl _)])
    (fun n i hi c => by rw [lX3_blockAt_2, hB, if_neg (nI_ge hi (by omega)), ckI (by omega) (by decide), nI_clamp (by omega), if_pos c.1, ckI (by omega) (by decide), if_pos c.2])
    (fun n i hi c => by
      rw [lX3_blockAt_2, hB, if_neg (nI_ge hi (by omega)), ckI (by omega) (by decide), nI_clamp (by omega)]
      by_cases c1 : sK v i = s
      · rw [if_pos c1, ckI (by omega) (by decide), if_neg (fun c2 => c ⟨c1, c2⟩)]
      · rw [if_neg c1]) (n := N) (by omega) with ⟨b, h1, h2, -, h4⟩ | ⟨h1, h2⟩
  · exact .inl ⟨b, ⟨h1, h2.1, h2.2⟩, by rw [h4]; rfl⟩
  · exact .inr ⟨fun b q => h1 b q.1 ⟨q.2.1, q.2.2⟩, by rw [h2]; rfl⟩
/-- no two blocks of a stack have one place -/
def Uni (v : VS) (B : Nat) (s : Int32) : Prop := ∀ b c, b < B → c < B → sK v b = s → sK v c = s → sP v b = sP v c → b = c
end AT
section WA
variable {N B : Nat} {v : VS}
def hot (x p : Int32) : Int32 := jmin (x + p) 1000
theorem X3_warm (N : Nat) (v : VS) {b : Nat} (h : b < 20) (p : Int32) : fX3_warm N v (nI b) p = some (uH v (upd (sH v) b (hot (sH v b) p))) := by
  unfold fX3_warm
  rw [ckI h (by decide), ckI h (by decide), nI_clamp (by omega)]
  rfl
end WA
