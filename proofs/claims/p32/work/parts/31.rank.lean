/-! ranks -/
def aI (x : Int) : Int := if 0 ≤ x then x else -x
theorem jabs_I {x : Int32} (h : -2000000000 ≤ x.toInt) : (jabs x).toInt = aI x.toInt := by
  unfold jabs aI
  by_cases c : (0 : Int32) ≤ x
  · rw [if_pos c]
    rw [fa_le, z0] at c
    rw [if_pos c]
  · rw [if_neg c]
    rw [fa_le, z0] at c
    rw [if_neg c, Int32.zero_sub, fb_negI (by omega)]
section RK
variable {N B : Nat} {v : VS}
def kI (v : VS) (how : Int32) (b : Nat) : Int := if how = 0 then (sN v b).toInt else if how = 1 then -(sH v b).toInt else -aI (err v b).toInt
def cK (v : VS) (how : Int32) (b : Nat) : Int32 := if how = 1 then -(sH v b) else if how = 2 then -(jabs (err v b)) else sN v b
def mKy (v : VS) (how : Int32) (b : Nat) : Int32 := if how = 0 then -(sN v b) else if how = 1 then sH v b else jabs (err v b)
def How (how : Int32) : Prop := how = 0 ∨ how = 1 ∨ how = 2
theorem aI_le {x : Int} {c : Int} (h1 : -c ≤ x) (h2 : x ≤ c) : 0 ≤ aI x ∧ aI x ≤ c := by unfold aI; split <;> omega
theorem key_I {q : Nat} (hq : q ≤ 1000000) (hd : BD B q v) {how : Int32} (hh : How how) {b : Nat} (hb : b < B) : (cK v how b).toInt = kI v how b ∧ (mKy v how b).toInt = -kI v how b ∧ -2000000 ≤ kI v how b ∧ kI v how b ≤ 2000000 := by
  have h1 := hd.1 b hb
  have h2 := hd.2.2.2.1 b hb
  have h3 := err_I (by omega) hd hb
  have h4 := hd.2.1 b hb
  have h5 := hd.2.2.1 b hb
  have h6 : (jabs (err v b)).toInt = aI (err v b).toInt := jabs_I (by omega)
  have h7 := aI_le (x := (err v b).toInt) (c := 2000000) (by omega) (by omega)
  unfold cK mKy kI
  rcases hh with rfl | rfl | rfl
  · rw [if_neg (by decide), if_neg (by decide), if_pos rfl, if_pos rfl, fb_negI (by omega)]
    exact ⟨rfl, rfl, by omega, by omega⟩
  · rw [if_pos rfl, if_neg (by decide), if_pos rfl, if_neg (by decide), if_pos rfl, fb_negI (by omega)]
    exact ⟨rfl, by omega, by omega, by omega⟩
  · rw [if_neg (by decide), if_pos rfl, if_neg (by decide), if_neg (by decide), if_neg (by decide), if_neg (by decide), fb_negI (by omega), h6]
    exact ⟨rfl, by omega, by omega, by omega⟩
theorem X0_sortKey (N : Nat) (v : VS) (how : Int32) {b : Nat} (hb : b < 20) : fX0_sortKey N v how (nI b) = some (cK v how b) := by
  unfold fX0_sortKey cK
  rw [ckI hb (by decide), ckI hb (by decide), nI_clamp (by omega), X3_sizeOfError N v hb, bsome]
  (repeat' split) <;> rfl
/-- o comes before b -/
def bef (v : VS) (how : Int32) (b o : Nat) : Bool := decide (kI v how o < kI v how b) || (decide (kI v how o = kI v how b) && decide (o < b))
theorem bef_iff {v : VS} {how : Int32} {b o : Nat} : bef v how b o = true ↔ kI v how o < kI v how b ∨ (kI v how o = kI v how b ∧ o < b) := by unfold bef; simp
def nbf (v : VS) (how : Int32) (B b : Nat) : Nat := fb_ct (bef v how b) B
theorem nbf_lt (v : VS) (how : Int32) {B b c : Nat} (hb : b < B) (h : bef v how c b = true) : nbf v how B b < nbf v how B c := by
  have h1 : fb_ct (fun o => bef v how b o || decide (o = b)) B = nbf v how B b + 1 := by
    rw [fb_ct_or (fun k hk q => by
      have q1 := bef_iff.mp q.1
      have q2 : k = b := of_decide_eq_true q.2
      subst q2
      omega), ct_one (q := fun o => decide (o = b)) hb (fun k _ => rfl)]
    rfl
  have h2 : fb_ct (fun o => bef v how b o || decide (o = b)) B ≤ nbf v how B c := fb_ct_sub (fun k hk q => by
    have hc := bef_iff.mp h
    rcases Bool.or_eq_true_iff.mp q with q1 | q1
    · have q2 := bef_iff.mp q1
      exact bef_iff.mpr (by omega)
    · have q2 : k = b := of_decide_eq_true q1
      subst q2
      exact h)
  omega
theorem nbf_inj (v : VS) (how : Int32) {B b c : Nat} (hb : b < B) (hc : c < B) (e : nbf v how B b = nbf v how B c) : b = c := by
  rcases Nat.lt_trichotomy b c with q | q | q
  · rcases Int.lt_trichotomy (kI v how b) (kI v how c) with z | z | z
    · have := nbf_lt v how hb (c := c) (bef_iff.mpr (.inl z)); omega
    · have := nbf_lt v how hb (c := c) (bef_iff.mpr (.inr ⟨z, q⟩)); omega
    · have := nbf_lt v how hc (c := b) (bef_iff.mpr (.inl z)); omega
  · exact q
  · rcases Int.lt_trichotomy (kI v how b) (kI v how c) with z | z | z
    · have := nbf_lt v how hb (c := c) (bef_iff.mpr (.inl z)); omega
    · have := nbf_lt v how hc (c := b) (bef_iff.mpr (.inr ⟨z.symm, q⟩)); omega
    · have := nbf_lt v how hc (c := b) (bef_iff.mpr (.inl z)); omega
theorem X0_manyBefore (hN0 : 2097152 ≤ N) (hB : sB v = nI B) (hl : B ≤ 20) {q : Nat} (hq : q ≤ 1000000) (hd : BD B q v) {how : Int32} (hh : How how) {b : Nat} (hb : b < B) : fX0_manyBefore N v how (nI b) = some (nI (nbf v how B b)) := by
  have h1 := for_pure (B := B) (lX0_manyBefore_5 N v how (nI b)) (fun i a => if bef v how b i = true then a + 1 else a)
    (fun n a => by rw [lX0_manyBefore_5, hB, if_pos (Int32.le_refl _)])
    (fun n a i hi => by
      have k1 := key_I hq hd hh hi
      have k2 := key_I hq hd hh hb
      have e : (cK v how i - cK v how b).toInt = kI v how i - kI v how b := by
        have := fb_subI (x := cK v how i) (y := cK v how b) (by omega) (by omega)
        rw [this, k1.1, k2.1]
      have eb : (nI b ≤ nI i) ↔ b ≤ i := nI_leI (by omega) (by omega)
      rw [lX0_manyBefore_5, hB, if_neg (nI_ge hi (by omega)), X0_sortKey N v how (by omega), bsome, X0_sortKey N v how (by omega), bsome]
      by_cases c : cK v how i - cK v how b < 0
      · rw [if_pos c]
        rw [fa_lt, e, z0] at c
        rw [if_pos (bef_iff.mpr (.inl (by omega)))]
      · rw [if_neg c]
        rw [fa_lt, e, z0] at c
        by_cases c2 : cK v how i - cK v how b = 0
        · rw [if_pos c2]
          rw [fa_eq, e, z0] at c2
          by_cases c3 : b ≤ i
          · rw [if_pos (eb.mpr c3), if_neg (fun z => by have := bef_iff.mp z; omega)]
          · rw [if_neg (fun z => c3 (eb.mp z)), if_pos (bef_iff.mpr (.inr ⟨by omega, by omega⟩))]
        · rw [if_neg c2]
          rw [fa_eq, e, z0] at c2
          rw [if_neg (fun z => by have := bef_iff.mp z; omega)]) (n := N) (by omega) 0
  unfold fX0_manyBefore
  rw [h1, bsome, fold_ct (bef v how b)]
  rfl
end RK
