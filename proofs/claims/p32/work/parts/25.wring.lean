/-! the reason to refuse, wringing, taking off: class and reference alike -/
def rsn (v : VS) (B : Nat) (s : Int32) (b : Nat) : Int32 := if sK v b = -1 then (if hgt v B s < 6 then (if sH v b ≤ sS v 1 then (if grd (err v b) = 3 then 4 else 0) else 3) else 2) else 1
section RE
variable {N B : Nat} {v : VS}
theorem X3_reason (hN : 2097152 ≤ N) (hB : sB v = nI B) (hb : B ≤ 20) (s : Int32) {b : Nat} (h : b < B) : fX3_reasonToRefuse N v s (nI b) = some (rsn v B s b) := by
  have hh := hgt_le v B s
  have e6 : (nI (hgt v B s) < 6) ↔ hgt v B s < 6 := nI_ltI (b := 6) (by omega) (by decide)
  unfold fX3_reasonToRefuse rsn
  rw [X3_isFree N v (by omega), bsome, X3_heightOf hN hB hb, bsome, ckI (by omega) (by decide), cs1, nI_clamp (by omega), cl1, X3_gradeOf N v (by omega), bsome]
  simp only [e6, decide_eq_true_eq]
  (repeat' split) <;> rfl
theorem rsn_0 {s : Int32} {b : Nat} (h : rsn v B s b = 0) : sK v b = -1 ∧ hgt v B s < 6 := by
  unfold rsn at h
  by_cases c1 : sK v b = -1
  · rw [if_pos c1] at h
    by_cases c2 : hgt v B s < 6
    · exact ⟨c1, c2⟩
    · rw [if_neg c2] at h; exact absurd h (by decide)
  · rw [if_neg c1] at h; exact absurd h (by decide)
theorem rsn_le (v : VS) (B : Nat) (s : Int32) (b : Nat) : rsn v B s b ≤ 0 ↔ rsn v B s b = 0 := by
  unfold rsn
  (repeat' split) <;> decide
theorem rsn_m1 (v : VS) (B : Nat) (s : Int32) (b : Nat) : ¬ rsn v B s b = -1 := by
  unfold rsn
  (repeat' split) <;> decide
def St3 (s : Int32) : Prop := s = 0 ∨ s = 1 ∨ s = 2
theorem St3.ne {s : Int32} (h : St3 s) : s ≠ -1 := by rcases h with rfl | rfl | rfl <;> decide
/-- nothing to take off -/
theorem off_none (hN : 2097152 ≤ N) (hB : sB v = nI B) (hb : B ≤ 20) (hk : SKf B (sK v) (sP v)) {s : Int32} (hs : St3 s) (h0 : hgt v B s = 0) : fX3_takeTopOff N v s = some (v, -1) := by
  have e : fX3_blockAt N v s (nI 0 - 1) = some (-1) := by
    rcases X3_blockAt hN hB hb s (nI 0 - 1) with ⟨b, q1, q2⟩ | ⟨q1, q2⟩
    · obtain ⟨p, q3, -⟩ := hk.2.1 b q1.1 (by rw [q1.2.1]; exact hs.ne)
      rw [q1.2.1] at q3
      exact absurd q3 (by show ¬ p < hgt v B s; omega)
    · exact q2
  unfold fX3_takeTopOff
  rw [X3_heightOf hN hB hb, bsome, h0, e, bsome, if_pos rfl]
theorem m12 (k : Nat) : nI (k + 1) - 2 = nI k - 1 := by
  have e : ∀ x : Int32, x + 1 - 2 = x - 1 := fun x => by
    rw [Int32.sub_eq_add_neg, Int32.sub_eq_add_neg, Int32.add_assoc]
    rfl
  rw [nI_succ, e]
end RE
