def uN (v : VS) (g : (Nat → Int32)) : VS := (g, sD v, sW v, sH v, sK v, sP v, sT v, sS v, sB v, sM v, sG v, sO v, sR v)
def uD (v : VS) (g : (Nat → Int32)) : VS := (sN v, g, sW v, sH v, sK v, sP v, sT v, sS v, sB v, sM v, sG v, sO v, sR v)
def uW (v : VS) (g : (Nat → Int32)) : VS := (sN v, sD v, g, sH v, sK v, sP v, sT v, sS v, sB v, sM v, sG v, sO v, sR v)
def uH (v : VS) (g : (Nat → Int32)) : VS := (sN v, sD v, sW v, g, sK v, sP v, sT v, sS v, sB v, sM v, sG v, sO v, sR v)
def uK (v : VS) (g : (Nat → Int32)) : VS := (sN v, sD v, sW v, sH v, g, sP v, sT v, sS v, sB v, sM v, sG v, sO v, sR v)
def uP (v : VS) (g : (Nat → Int32)) : VS := (sN v, sD v, sW v, sH v, sK v, g, sT v, sS v, sB v, sM v, sG v, sO v, sR v)
def uT (v : VS) (g : (Nat → Int32)) : VS := (sN v, sD v, sW v, sH v, sK v, sP v, g, sS v, sB v, sM v, sG v, sO v, sR v)
def uS (v : VS) (g : (Nat → Int32)) : VS := (sN v, sD v, sW v, sH v, sK v, sP v, sT v, g, sB v, sM v, sG v, sO v, sR v)
def uB (v : VS) (g : Int32) : VS := (sN v, sD v, sW v, sH v, sK v, sP v, sT v, sS v, g, sM v, sG v, sO v, sR v)
def uM (v : VS) (g : Int32) : VS := (sN v, sD v, sW v, sH v, sK v, sP v, sT v, sS v, sB v, g, sG v, sO v, sR v)
def uG (v : VS) (g : Int32) : VS := (sN v, sD v, sW v, sH v, sK v, sP v, sT v, sS v, sB v, sM v, g, sO v, sR v)
def uO (v : VS) (g : Int32) : VS := (sN v, sD v, sW v, sH v, sK v, sP v, sT v, sS v, sB v, sM v, sG v, g, sR v)
def uR (v : VS) (g : Int32) : VS := (sN v, sD v, sW v, sH v, sK v, sP v, sT v, sS v, sB v, sM v, sG v, sO v, g)
theorem upd_two {f r : Nat → Int32} {b c i : Nat} {x : Int32} (k : f c = r (9 + 7 * c + i)) : upd f b x c = upd r (9 + 7 * b + i) x (9 + 7 * c + i) := by
  rcases Nat.decEq c b with q | q
  · exact (pk_un q).trans (k.trans (pk_un (by omega)).symm)
  · subst q; exact pk_us.trans pk_us.symm
section RSu
variable {B : Nat} {v : VS} {r : Nat → Int32}
theorem RS.uN (h : RS B v r) {b : Nat} (x : Int32) : RS B (uN v (upd (sN v) b x)) (upd r (9 + 7 * b + 0) x) := by
  obtain ⟨⟨h1, h2, h3⟩, h4, ⟨h5, h6, h7, h8⟩, h9⟩ := h
  refine ⟨⟨h1, h2, (pk_un (by omega)).trans h3⟩, fun j hj => (h4 j hj).trans (pk_un (by omega)).symm, ⟨h5.trans (pk_un (by omega)).symm, h6.trans (pk_un (by omega)).symm, h7.trans (pk_un (by omega)).symm, h8.trans (pk_un (by omega)).symm⟩, fun c hc => ?_⟩
  obtain ⟨k0, k1, k2, k3, k4, k5, k6⟩ := h9 c hc
  exact ⟨upd_two k0, k1.trans (pk_un (show 9 + 7 * c + 1 ≠ 9 + 7 * b + 0 by omega)).symm, k2.trans (pk_un (show 9 + 7 * c + 2 ≠ 9 + 7 * b + 0 by omega)).symm, k3.trans (pk_un (show 9 + 7 * c + 3 ≠ 9 + 7 * b + 0 by omega)).symm, k4.trans (pk_un (show 9 + 7 * c + 4 ≠ 9 + 7 * b + 0 by omega)).symm, k5.trans (pk_un (show 9 + 7 * c + 5 ≠ 9 + 7 * b + 0 by omega)).symm, k6.trans (pk_un (show 9 + 7 * c + 6 ≠ 9 + 7 * b + 0 by omega)).symm⟩
theorem RS.uD (h : RS B v r) {b : Nat} (x : Int32) : RS B (uD v (upd (sD v) b x)) (upd r (9 + 7 * b + 1) x) := by
  obtain ⟨⟨h1, h2, h3⟩, h4, ⟨h5, h6, h7, h8⟩, h9⟩ := h
  refine ⟨⟨h1, h2, (pk_un (by omega)).trans h3⟩, fun j hj => (h4 j hj).trans (pk_un (by omega)).symm, ⟨h5.trans (pk_un (by omega)).symm, h6.trans (pk_un (by omega)).symm, h7.trans (pk_un (by omega)).symm, h8.trans (pk_un (by omega)).symm⟩, fun c hc => ?_⟩
  obtain ⟨k0, k1, k2, k3, k4, k5, k6⟩ := h9 c hc
  exact ⟨k0.trans (pk_un (show 9 + 7 * c + 0 ≠ 9 + 7 * b + 1 by omega)).symm, upd_two k1, k2.trans (pk_un (show 9 + 7 * c + 2 ≠ 9 + 7 * b + 1 by omega)).symm, k3.trans (pk_un (show 9 + 7 * c + 3 ≠ 9 + 7 * b + 1 by omega)).symm, k4.trans (pk_un (show 9 + 7 * c + 4 ≠ 9 + 7 * b + 1 by omega)).symm, k5.trans (pk_un (show 9 + 7 * c + 5 ≠ 9 + 7 * b + 1 by omega)).symm, k6.trans (pk_un (show 9 + 7 * c + 6 ≠ 9 + 7 * b + 1 by omega)).symm⟩
theorem RS.uW (h : RS B v r) {b : Nat} (x : Int32) : RS B (uW v (upd (sW v) b x)) (upd r (9 + 7 * b + 2) x) := by
  obtain ⟨⟨h1, h2, h3⟩, h4, ⟨h5, h6, h7, h8⟩, h9⟩ := h
  refine ⟨⟨h1, h2, (pk_un (by omega)).trans h3⟩, fun j hj => (h4 j hj).trans (pk_un (by omega)).symm, ⟨h5.trans (pk_un (by omega)).symm, h6.trans (pk_un (by omega)).symm, h7.trans (pk_un (by omega)).symm, h8.trans (pk_un (by omega)).symm⟩, fun c hc => ?_⟩
  obtain ⟨k0, k1, k2, k3, k4, k5, k6⟩ := h9 c hc
  exact ⟨k0.trans (pk_un (show 9 + 7 * c + 0 ≠ 9 + 7 * b + 2 by omega)).symm, k1.trans (pk_un (show 9 + 7 * c + 1 ≠ 9 + 7 * b + 2 by omega)).symm, upd_two k2, k3.trans (pk_un (show 9 + 7 * c + 3 ≠ 9 + 7 * b + 2 by omega)).symm, k4.trans (pk_un (show 9 + 7 * c + 4 ≠ 9 + 7 * b + 2 by omega)).symm, k5.trans (pk_un (show 9 + 7 * c + 5 ≠ 9 + 7 * b + 2 by omega)).symm, k6.trans (pk_un (show 9 + 7 * c + 6 ≠ 9 + 7 * b + 2 by omega)).symm⟩
theorem RS.uH (h : RS B v r) {b : Nat} (x : Int32) : RS B (uH v (upd (sH v) b x)) (upd r (9 + 7 * b + 3) x) := by
  obtain ⟨⟨h1, h2, h3⟩, h4, ⟨h5, h6, h7, h8⟩, h9⟩ := h
  refine ⟨⟨h1, h2, (pk_un (by omega)).trans h3⟩, fun j hj => (h4 j hj).trans (pk_un (by omega)).symm, ⟨h5.trans (pk_un (by omega)).symm, h6.trans (pk_un (by omega)).symm, h7.trans (pk_un (by omega)).symm, h8.trans (pk_un (by omega)).symm⟩, fun c hc => ?_⟩
  obtain ⟨k0, k1, k2, k3, k4, k5, k6⟩ := h9 c hc
  exact ⟨k0.trans (pk_un (show 9 + 7 * c + 0 ≠ 9 + 7 * b + 3 by omega)).symm, k1.trans (pk_un (show 9 + 7 * c + 1 ≠ 9 + 7 * b + 3 by omega)).symm, k2.trans (pk_un (show 9 + 7 * c + 2 ≠ 9 + 7 * b + 3 by omega)).symm, upd_two k3, k4.trans (pk_un (show 9 + 7 * c + 4 ≠ 9 + 7 * b + 3 by omega)).symm, k5.trans (pk_un (show 9 + 7 * c + 5 ≠ 9 + 7 * b + 3 by omega)).symm, k6.trans (pk_un (show 9 + 7 * c + 6 ≠ 9 + 7 * b + 3 by omega)).symm⟩
theorem RS.uK (h : RS B v r) {b : Nat} (x : Int32) : RS B (uK v (upd (sK v) b x)) (upd r (9 + 7 * b + 4) x) := by
  obtain ⟨⟨h1, h2, h3⟩, h4, ⟨h5, h6, h7, h8⟩, h9⟩ := h
  refine ⟨⟨h1, h2, (pk_un (by omega)).trans h3⟩, fun j hj => (h4 j hj).trans (pk_un (by omega)).symm, ⟨h5.trans (pk_un (by omega)).symm, h6.trans (pk_un (by omega)).symm, h7.trans (pk_un (by omega)).symm, h8.trans (pk_un (by omega)).symm⟩, fun c hc => ?_⟩
  obtain ⟨k0, k1, k2, k3, k4, k5, k6⟩ := h9 c hc
  exact ⟨k0.trans (pk_un (show 9 + 7 * c + 0 ≠ 9 + 7 * b + 4 by omega)).symm, k1.trans (pk_un (show 9 + 7 * c + 1 ≠ 9 + 7 * b + 4 by omega)).symm, k2.trans (pk_un (show 9 + 7 * c + 2 ≠ 9 + 7 * b + 4 by omega)).symm, k3.trans (pk_un (show 9 + 7 * c + 3 ≠ 9 + 7 * b + 4 by omega)).symm, upd_two k4, k5.trans (pk_un (show 9 + 7 * c + 5 ≠ 9 + 7 * b + 4 by omega)).symm, k6.trans (pk_un (show 9 + 7 * c + 6 ≠ 9 + 7 * b + 4 by omega)).symm⟩
theorem RS.uP (h : RS B v r) {b : Nat} (x : Int32) : RS B (uP v (upd (sP v) b x)) (upd r (9 + 7 * b + 5) x) := by
  obtain ⟨⟨h1, h2, h3⟩, h4, ⟨h5, h6, h7, h8⟩, h9⟩ := h
  refine ⟨⟨h1, h2, (pk_un (by omega)).trans h3⟩, fun j hj => (h4 j hj).trans (pk_un (by omega)).symm, ⟨h5.trans (pk_un (by omega)).symm, h6.trans (pk_un (by omega)).symm, h7.trans (pk_un (by omega)).symm, h8.trans (pk_un (by omega)).symm⟩, fun c hc => ?_⟩
  obtain ⟨k0, k1, k2, k3, k4, k5, k6⟩ := h9 c hc
  exact ⟨k0.trans (pk_un (show 9 + 7 * c + 0 ≠ 9 + 7 * b + 5 by omega)).symm, k1.trans (pk_un (show 9 + 7 * c + 1 ≠ 9 + 7 * b + 5 by omega)).symm, k2.trans (pk_un (show 9 + 7 * c + 2 ≠ 9 + 7 * b + 5 by omega)).symm, k3.trans (pk_un (show 9 + 7 * c + 3 ≠ 9 + 7 * b + 5 by omega)).symm, k4.trans (pk_un (show 9 + 7 * c + 4 ≠ 9 + 7 * b + 5 by omega)).symm, upd_two k5, k6.trans (pk_un (show 9 + 7 * c + 6 ≠ 9 + 7 * b + 5 by omega)).symm⟩
theorem RS.uT (h : RS B v r) {b : Nat} (x : Int32) : RS B (uT v (upd (sT v) b x)) (upd r (9 + 7 * b + 6) x) := by
  obtain ⟨⟨h1, h2, h3⟩, h4, ⟨h5, h6, h7, h8⟩, h9⟩ := h
  refine ⟨⟨h1, h2, (pk_un (by omega)).trans h3⟩, fun j hj => (h4 j hj).trans (pk_un (by omega)).symm, ⟨h5.trans (pk_un (by omega)).symm, h6.trans (pk_un (by omega)).symm, h7.trans (pk_un (by omega)).symm, h8.trans (pk_un (by omega)).symm⟩, fun c hc => ?_⟩
  obtain ⟨k0, k1, k2, k3, k4, k5, k6⟩ := h9 c hc
  exact ⟨k0.trans (pk_un (show 9 + 7 * c + 0 ≠ 9 + 7 * b + 6 by omega)).symm, k1.trans (pk_un (show 9 + 7 * c + 1 ≠ 9 + 7 * b + 6 by omega)).symm, k2.trans (pk_un (show 9 + 7 * c + 2 ≠ 9 + 7 * b + 6 by omega)).symm, k3.trans (pk_un (show 9 + 7 * c + 3 ≠ 9 + 7 * b + 6 by omega)).symm, k4.trans (pk_un (show 9 + 7 * c + 4 ≠ 9 + 7 * b + 6 by omega)).symm, k5.trans (pk_un (show 9 + 7 * c + 5 ≠ 9 + 7 * b + 6 by omega)).symm, upd_two k6⟩
theorem RS.uM (h : RS B v r) (x : Int32) : RS B (uM v x) (upd r 4 x) := by
  obtain ⟨⟨h1, h2, h3⟩, h4, ⟨h5, h6, h7, h8⟩, h9⟩ := h
  refine ⟨⟨h1, h2, (pk_un (by omega)).trans h3⟩, fun j hj => (h4 j hj).trans (pk_un (by omega)).symm, ⟨pk_us.symm, h6.trans (pk_un (by omega)).symm, h7.trans (pk_un (by omega)).symm, h8.trans (pk_un (by omega)).symm⟩, fun c hc => ?_⟩
  obtain ⟨k0, k1, k2, k3, k4, k5, k6⟩ := h9 c hc
  exact ⟨k0.trans (pk_un (by omega)).symm, k1.trans (pk_un (by omega)).symm, k2.trans (pk_un (by omega)).symm, k3.trans (pk_un (by omega)).symm, k4.trans (pk_un (by omega)).symm, k5.trans (pk_un (by omega)).symm, k6.trans (pk_un (by omega)).symm⟩
theorem RS.uG (h : RS B v r) (x : Int32) : RS B (uG v x) (upd r 5 x) := by
  obtain ⟨⟨h1, h2, h3⟩, h4, ⟨h5, h6, h7, h8⟩, h9⟩ := h
  refine ⟨⟨h1, h2, (pk_un (by omega)).trans h3⟩, fun j hj => (h4 j hj).trans (pk_un (by omega)).symm, ⟨h5.trans (pk_un (by omega)).symm, pk_us.symm, h7.trans (pk_un (by omega)).symm, h8.trans (pk_un (by omega)).symm⟩, fun c hc => ?_⟩
  obtain ⟨k0, k1, k2, k3, k4, k5, k6⟩ := h9 c hc
  exact ⟨k0.trans (pk_un (by omega)).symm, k1.trans (pk_un (by omega)).symm, k2.trans (pk_un (by omega)).symm, k3.trans (pk_un (by omega)).symm, k4.trans (pk_un (by omega)).symm, k5.trans (pk_un (by omega)).symm, k6.trans (pk_un (by omega)).symm⟩
theorem RS.uO (h : RS B v r) (x : Int32) : RS B (uO v x) (upd r 6 x) := by
  obtain ⟨⟨h1, h2, h3⟩, h4, ⟨h5, h6, h7, h8⟩, h9⟩ := h
  refine ⟨⟨h1, h2, (pk_un (by omega)).trans h3⟩, fun j hj => (h4 j hj).trans (pk_un (by omega)).symm, ⟨h5.trans (pk_un (by omega)).symm, h6.trans (pk_un (by omega)).symm, pk_us.symm, h8.trans (pk_un (by omega)).symm⟩, fun c hc => ?_⟩
  obtain ⟨k0, k1, k2, k3, k4, k5, k6⟩ := h9 c hc
  exact ⟨k0.trans (pk_un (by omega)).symm, k1.trans (pk_un (by omega)).symm, k2.trans (pk_un (by omega)).symm, k3.trans (pk_un (by omega)).symm, k4.trans (pk_un (by omega)).symm, k5.trans (pk_un (by omega)).symm, k6.trans (pk_un (by omega)).symm⟩
theorem RS.uR (h : RS B v r) (x : Int32) : RS B (uR v x) (upd r 7 x) := by
  obtain ⟨⟨h1, h2, h3⟩, h4, ⟨h5, h6, h7, h8⟩, h9⟩ := h
  refine ⟨⟨h1, h2, (pk_un (by omega)).trans h3⟩, fun j hj => (h4 j hj).trans (pk_un (by omega)).symm, ⟨h5.trans (pk_un (by omega)).symm, h6.trans (pk_un (by omega)).symm, h7.trans (pk_un (by omega)).symm, pk_us.symm⟩, fun c hc => ?_⟩
  obtain ⟨k0, k1, k2, k3, k4, k5, k6⟩ := h9 c hc
  exact ⟨k0.trans (pk_un (by omega)).symm, k1.trans (pk_un (by omega)).symm, k2.trans (pk_un (by omega)).symm, k3.trans (pk_un (by omega)).symm, k4.trans (pk_un (by omega)).symm, k5.trans (pk_un (by omega)).symm, k6.trans (pk_un (by omega)).symm⟩
theorem RS.uS (h : RS B v r) {j : Nat} (hj : j < 4) (x : Int32) : RS B (uS v (upd (sS v) j x)) (upd r j x) := by
  obtain ⟨⟨h1, h2, h3⟩, h4, ⟨h5, h6, h7, h8⟩, h9⟩ := h
  refine ⟨⟨h1, h2, (pk_un (by omega)).trans h3⟩, fun c hc => ?_, ⟨h5.trans (pk_un (by omega)).symm, h6.trans (pk_un (by omega)).symm, h7.trans (pk_un (by omega)).symm, h8.trans (pk_un (by omega)).symm⟩, fun c hc => ?_⟩
  · rcases Nat.decEq c j with q | q
    · exact (pk_un q).trans ((h4 c hc).trans (pk_un q).symm)
    · subst q; exact pk_us.trans pk_us.symm
  · obtain ⟨k0, k1, k2, k3, k4, k5, k6⟩ := h9 c hc
    exact ⟨k0.trans (pk_un (by omega)).symm, k1.trans (pk_un (by omega)).symm, k2.trans (pk_un (by omega)).symm, k3.trans (pk_un (by omega)).symm, k4.trans (pk_un (by omega)).symm, k5.trans (pk_un (by omega)).symm, k6.trans (pk_un (by omega)).symm⟩
end RSu
/-! a block at a place of a stack -/
def IsAt (v : VS) (B : Nat) (s p : Int32) (b : Nat) : Prop := b < B ∧ sK v b = s ∧ sP v b = p
section AT
variable {N B : Nat} {v : VS} {m : VM}
theorem X3_blockAt (hN : 2097152 ≤ N) (hB : sB v = nI B) (hb : B ≤ 20) (s p : Int32) : (∃ b, IsAt v B s p b ∧ fX3_blockAt N v s p = some (nI b)) ∨ ((∀ b, ¬ IsAt v B s p b) ∧ fX3_blockAt N v s p = some (-1)) := by
  unfold fX3_blockAt
  rcases for_find (B := B) (lX3_blockAt_2 N v s p) (fun b => sK v b = s ∧ sP v b = p) (.inl ()) (fun b => .inr (nI b)) (fun n => by rw [lX3_blockAt_2, hB, if_pos (Int32.le_refl _)])
    (fun n i hi c => by rw [lX3_blockAt_2, hB, if_neg (nI_ge hi (by omega)), ckI (by omega) (by decide), nI_clamp (by omega), if_pos c.1, ckI (by omega) (by decide), if_pos c.2])
    (fun n i hi c => by
      rw [lX3_blockAt_2, hB, if_neg (nI_ge hi (by omega)), ckI (by omega) (by decide), nI_clamp (by omega)]
      by_cases c1 : sK v i = s
      · rw [if_pos c1, ckI (by omega) (by decide), if_neg (fun c2 => c ⟨c1, c2⟩)]
      · rw [if_neg c1]) (n := N) (by omega) with ⟨b, h1, h2, -, h4⟩ | ⟨h1, h2⟩
  · exact .inl ⟨b, ⟨h1, h2.1, h2.2⟩, by rw [h4]; rfl⟩
  · exact .inr ⟨fun b q => h1 b q.1 ⟨q.2.1, q.2.2⟩, by rw [h2]; rfl⟩
theorem X5_blockAt (hN : 2097152 ≤ N) (h : RS B v (mRow m)) (s p : Int32) : (∃ b, IsAt v B s p b ∧ fX5_blockAt N m s p = some (nI b)) ∨ ((∀ b, ¬ IsAt v B s p b) ∧ fX5_blockAt N m s p = some (-1)) := by
  have hl := h.le
  obtain ⟨r, h1, h2⟩ := for_ex (B := B) (lX5_blockAt_5 N m s p) (fun i a => (∃ b, b < i ∧ sK v b = s ∧ sP v b = p ∧ a = nI b) ∨ ((∀ b, b < i → ¬ (sK v b = s ∧ sP v b = p)) ∧ a = -1)) (fun r => (∃ b, b < B ∧ sK v b = s ∧ sP v b = p ∧ r = nI b) ∨ ((∀ b, b < B → ¬ (sK v b = s ∧ sP v b = p)) ∧ r = -1))
    (fun n a q => ⟨a, by rw [lX5_blockAt_5, ck8, cl8, h.r8, if_pos (Int32.le_refl _)], q⟩)
    (fun n a i hi q => .inl (by
      rw [lX5_blockAt_5, ck8, cl8, h.r8, if_neg (nI_ge hi (by omega)), of_4 N m (by omega), bsome, h.k hi]
      by_cases c1 : sK v i = s
      · rw [if_pos c1, of_5 N m (by omega), bsome, h.p hi]
        by_cases c2 : sP v i = p
        · rw [if_pos c2]
          exact ⟨nI i, rfl, .inl ⟨i, by omega, c1, c2, rfl⟩⟩
        · rw [if_neg c2]
          refine ⟨a, rfl, ?_⟩
          rcases q with ⟨b, q1, q2⟩ | ⟨q1, q2⟩
          · exact .inl ⟨b, by omega, q2⟩
          · exact .inr ⟨lt_s q1 (fun q => c2 q.2), q2⟩
      · rw [if_neg c1]
        refine ⟨a, rfl, ?_⟩
        rcases q with ⟨b, q1, q2⟩ | ⟨q1, q2⟩
        · exact .inl ⟨b, by omega, q2⟩
        · exact .inr ⟨lt_s q1 (fun q => c1 q.1), q2⟩)) (n := N) 0 (by omega) (by omega) (-1) (.inr ⟨lt_0, rfl⟩)
  have e : fX5_blockAt N m s p = some r := by
    unfold fX5_blockAt
    rw [show (0 : Int32) = nI 0 from rfl, h1]
    rfl
  rw [e]
  rcases h2 with ⟨b, q1, q2, q3, q4⟩ | ⟨q1, q2⟩
  · exact .inl ⟨b, ⟨q1, q2, q3⟩, by rw [q4]⟩
  · exact .inr ⟨fun b q => q1 b q.1 ⟨q.2.1, q.2.2⟩, by rw [q2]⟩
/-- no two blocks of a stack have one place -/
def Uni (v : VS) (B : Nat) (s : Int32) : Prop := ∀ b c, b < B → c < B → sK v b = s → sK v c = s → sP v b = sP v c → b = c
/-- v and m answer the same where v's and w's stacks look alike at this place -/
theorem blockAt_same {w : VS} (hN : 2097152 ≤ N) (hB : sB v = nI B) (h : RS B w (mRow m)) (s p : Int32) (hu : Uni v B s) (hw : ∀ b, IsAt w B s p b ↔ IsAt v B s p b) :
    ∃ x, fX3_blockAt N v s p = some x ∧ fX5_blockAt N m s p = some x ∧ ((∃ b, IsAt v B s p b ∧ x = nI b) ∨ ((∀ b, ¬ IsAt v B s p b) ∧ x = -1)) := by
  rcases X3_blockAt hN hB h.le s p with ⟨b, h1, h2⟩ | ⟨h1, h2⟩ <;> rcases X5_blockAt hN h s p with ⟨c, h3, h4⟩ | ⟨h3, h4⟩
  · have h5 := (hw c).mp h3
    have e : b = c := hu b c h1.1 h5.1 h1.2.1 h5.2.1 (h1.2.2.trans h5.2.2.symm)
    subst e
    exact ⟨_, h2, h4, .inl ⟨b, h1, rfl⟩⟩
  · exact absurd ((hw b).mpr h1) (h3 b)
  · exact absurd ((hw c).mp h3) (h1 c)
  · exact ⟨_, h2, h4, .inr ⟨h1, rfl⟩⟩
end AT
section WA
variable {N B : Nat} {v : VS} {m : VM}
def hot (x p : Int32) : Int32 := jmin (x + p) 1000
theorem X3_warm (N : Nat) (v : VS) {b : Nat} (h : b < 20) (p : Int32) : fX3_warm N v (nI b) p = some (uH v (upd (sH v) b (hot (sH v b) p))) := by
  unfold fX3_warm
  rw [ckI h (by decide), ckI h (by decide), nI_clamp (by omega)]
  rfl
theorem X5_warm (h : RS B v (mRow m)) {b : Nat} (hi : b < B) (p : Int32) : fX5_warm N m (nI b) p = some (mR m (upd (mRow m) (9 + 7 * b + 3) (hot (sH v b) p))) := by
  have hl := h.le
  unfold fX5_warm hot jmin
  rw [of_3 N m (by omega), bsome, h.h hi, put_3 N m _ (by omega), put_3 N m _ (by omega), bsome, bsome]
  by_cases c : sH v b + p ≤ 1000
  · rw [if_pos c, if_neg (Int32.not_lt.mpr c)]
  · rw [if_neg c, if_pos (Int32.not_le.mp c)]
end WA
