/-! the law's own run: true at its end, from the state at the start -/
section LF
variable {N B q L : Nat} {xs : Nat → Int32} {v : VS} {z : VV} {tx : VT} {gl ge gw gh gt gn gp : Nat → Int32} {rf : Nat → Option Nat}
theorem c_few2 {R M : Nat} (h1 : 500 ≤ R) (h2 : R ≤ 600000) (hM : M < 1024) (e : fX0_fewestFor N v (nI R) = some (nI M)) : fX4_fewest N v (nI R) 0 = some (if M = 0 then -1 else nI (pop M)) ∧ fX4_fewest N v (nI R) 1 = some (if M = 0 then -1 else nI M) := by
  constructor
  · unfold fX4_fewest
    rw [ccl N h1 h2, bsome, ccr N (a := 0) (b := 1) (x := 0) (by decide) (by decide), bsome, e, bsome]
    by_cases c : M = 0
    · subst c
      rw [if_pos (show nI 0 = (0 : Int32) from rfl), if_pos rfl]
    · rw [if_neg (nI_ne0 (by omega) (by omega)), if_pos rfl, bit_n N (x := M) (by omega), bsome, if_neg c]
      rfl
  · unfold fX4_fewest
    rw [ccl N h1 h2, bsome, ccr N (a := 0) (b := 1) (x := 1) (by decide) (by decide), bsome, e, bsome]
    by_cases c : M = 0
    · subst c
      rw [if_pos (show nI 0 = (0 : Int32) from rfl), if_pos rfl]
    · rw [if_neg (nI_ne0 (by omega) (by omega)), if_neg (by decide), if_neg c]
theorem l_few2 (hN0 : 2097152 ≤ N) {M : Nat} (hM : M < 1024) : (if nI M = (0 : Int32) then (some (-1) : Option Int32) else ((fL_ones N (nI M)).bind fun r18 => some r18)) = some (if M = 0 then -1 else nI (pop M)) ∧ (if nI M = (0 : Int32) then (some (-1) : Option Int32) else some (nI M)) = some (if M = 0 then -1 else nI M) := by
  by_cases c : M = 0
  · subst c
    rw [if_pos (show nI 0 = (0 : Int32) from rfl), if_pos (show nI 0 = (0 : Int32) from rfl), if_pos rfl, if_pos rfl]
    exact ⟨rfl, rfl⟩
  · have c2 : ¬ nI M = (0 : Int32) := by exact nI_ne0 (by omega) (by omega)
    rw [if_neg c2, if_neg c2, if_neg c, if_neg c, L_ones hN0 (by omega), bsome]
    exact ⟨rfl, rfl⟩
theorem sub_and (v : VS) (B : Nat) (y : Int32) : ∃ M, Sub v B M ∧ nI (mkb (fun b => decide (sK v b = -1)) B) &&& y = nI M := by
  obtain ⟨n, -, rfl⟩ := nI_ex y
  refine ⟨mkb (fun b => decide (sK v b = -1)) B &&& n, fun k hk => ?_, fa_and _ _⟩
  rw [Nat.testBit_and, mkb_bit] at hk
  simp only [Bool.and_eq_true, decide_eq_true_eq] at hk
  exact ⟨hk.1.1, by unfold fre; exact decide_eq_true hk.1.2⟩
theorem l_len (hN0 : 2097152 ≤ N) (h : LI B q v gl ge gw gh gt gn gp) (k : Nat) (x y : Int32) : ∃ R, 500 ≤ R ∧ R ≤ 1000000 ∧ (((if nI k = (0 : Int32) then ((fL_low N x 40000).bind fun r14 => some (500 + r14)) else ((fL_sum N gl (nI (mkb (fun b => decide (sK v b = -1)) B) &&& y)).bind fun r12 => (if (500 : Int32) ≤ r12 then ((fL_sum N gl (nI (mkb (fun b => decide (sK v b = -1)) B) &&& y)).bind fun r13 => some r13) else some 700))) : Option (Int32)) = some (nI R)) := by
  have hl := h.le
  by_cases c : nI k = (0 : Int32)
  · rw [if_pos c]
    obtain ⟨j, hj, e⟩ : ∃ j, j < 40000 ∧ fL_low N x 40000 = some (nI j) := L_low N _ (by decide) (by decide)
    exact ⟨500 + j, by omega, by omega, by rw [e, bsome, nI_500]⟩
  · rw [if_neg c]
    obtain ⟨M, hM, e⟩ := sub_and v B y
    have hM2 : M < 1024 := by exact Nat.lt_of_lt_of_le (sub_lt hM) (Nat.le_trans (Nat.pow_le_pow_right (by decide) hl) (by decide))
    obtain ⟨s, e1, e2, e3⟩ := sum_bd h.2.2.2 (by omega) hM
    have hp : pop M ≤ 10 := by exact pop_le (b := 10) (by omega) (by decide)
    have es : fL_sum N gl (nI M) = some (nI s) := by
      rw [L_sum hN0 gl (by omega), sumA_M (fun b hb => h.l hb) (fun i hi => (hM i hi).1) hl, e1]
    rw [e, es, bsome]
    by_cases c2 : 500 ≤ s
    · rw [if_pos (show (500 : Int32) ≤ nI s from nI_le (a := 500) c2 (by omega)), bsome]
      exact ⟨s, c2, by omega, rfl⟩
    · rw [if_neg (show ¬ (500 : Int32) ≤ nI s from nI_ge (b := 500) (by omega) (by decide))]
      exact ⟨700, by decide, by decide, rfl⟩
abbrev Tr1 (X : Option (VS × VV × (Nat → Int32) × (Nat → Int32) × (Nat → Int32) × (Nat → Int32) × (Nat → Int32) × (Nat → Int32) × (Nat → Int32) × Int32)) : Prop := ∃ u, X = some u ∧ u.2.2.2.2.2.2.2.2.2 = 1
theorem Low_any (N : Nat) (x : Int32) {m : Int32} {n : Nat} (e : m = nI n) (h0 : 0 < n) (hm : n < 2 ^ 31) : ∃ r, fL_low N x m = some r := by
  subst e
  obtain ⟨k, -, e⟩ := L_low N x h0 hm
  exact ⟨_, e⟩
theorem law_run (hN0 : 2097152 ≤ N) : ∀ (n i : Nat) {B : Nat} {v : VS} {z : VV} {gl ge gw gh gt gn gp : Nat → Int32}, i ≤ 38 → 38 - i < n → ZV z → LI B (400 * i) v gl ge gw gh gt gn gp → Tr1 (lL_law_119 L xs N tx rf n v z gl ge gw gh gt gn gp 1 (nI i)) := by
  intro n
  induction n with
  | zero => intro i B v z gl ge gw gh gt gn gp hi hn; omega
  | succ n ih =>
    intro i B v z gl ge gw gh gt gn gp hi hn hz h
    rw [lL_law_119]
    by_cases c : i = 38
    · subst c
      rw [if_pos (show (38 : Int32) ≤ nI 38 from by decide)]
      exact ⟨_, rfl, rfl⟩
    rw [if_neg (show ¬ (38 : Int32) ≤ nI i from nI_ge (b := 38) (by omega) (by decide)), if_neg (show ¬ (1 : Int32) = 0 from by decide)]
    unfold cq
    rw [if_neg (show ¬ nI i < 0 from nI_nlt (b := 0) (by omega) (by omega))]
    generalize cellI L xs (nI i) = x
    refine bxP (fun _ => True) ?_ (fun r1 _ => ?_)
    · by_cases c7 : (7 : Int32) ≤ nI i
      · rw [if_pos c7]
        obtain ⟨r, e⟩ : ∃ r, fL_low N (x >>> (18 &&& 31)) 15 = some r := Low_any N _ (n := 15) rfl (by decide) (by decide)
        exact ⟨r, by rw [e, bsome], trivial⟩
      · rw [if_neg c7]
        exact ⟨0, rfl, trivial⟩
    obtain ⟨B', v', z', gl', ge', gw', gh', gt', gn', gp', e, hz', hh⟩ := L_acts (tx := tx) hN0 (by omega) h hz r1 x
    have hl := hh.le
    rw [e, bsome]
    dsimp only
    rw [if_pos rfl, L_areBlocks hN0 hh, bsome, if_pos rfl]
    obtain ⟨s4, h4, e4⟩ : ∃ k, k < 40 ∧ fL_low N (x >>> (4 &&& 31)) 40 = some (nI k) := L_low N _ (by decide) (by decide)
    rw [e4, bsome, L_areStacks hN0 hh (by omega), bsome, if_pos rfl]
    obtain ⟨s6, h6, e6⟩ : ∃ k, k < 3 ∧ fL_low N (x >>> (6 &&& 31)) 3 = some (nI k) := L_low N _ (by decide) (by decide)
    have hw : How (nI s6) := by
      rcases (show s6 = 0 ∨ s6 = 1 ∨ s6 = 2 by omega) with rfl | rfl | rfl
      · exact .inl rfl
      · exact .inr (.inl rfl)
      · exact .inr (.inr rfl)
    rw [e6, bsome, L_areRanked hN0 hh (by omega) hw, bsome, if_pos rfl, L_free hN0 hl hh.2.2.1 hh.2.1 hh.n8, bsome]
    obtain ⟨s8, h8, e8⟩ : ∃ k, k < 3 ∧ fL_low N (x >>> (8 &&& 31)) 3 = some (nI k) := L_low N _ (by decide) (by decide)
    rw [e8, bsome]
    obtain ⟨R, hR1, hR2, eR⟩ := l_len hN0 hh s8 (x >>> (3 &&& 31)) (x >>> (5 &&& 31))
    rw [eR, bsome]
    obtain ⟨M, hM, hS, e1, e2⟩ := few_both hN0 hh.b hl hh.2.2.2 (fun b hb => hh.l hb) (nI R)
    rw [e1, bsome]
    have hi2 : nI i + 1 = nI (i + 1) := by exact nI_add i 1
    have again : Tr1 (lL_law_119 L xs N tx rf n v' z' gl' ge' gw' gh' gt' gn' gp' 1 (nI i + 1)) := by
      rw [hi2]
      exact ih (i + 1) (by omega) (by omega) hz' (hh.mono (by omega))
    by_cases c6 : 600000 < R
    · rw [if_pos (show (600000 : Int32) < nI R from nI_lt (a := 600000) c6 (by omega))]
      exact again
    · rw [if_neg (show ¬ (600000 : Int32) < nI R from nI_nlt (b := R) (a := 600000) (by omega) (by decide))]
      obtain ⟨f1, f2⟩ := c_few2 hR1 (by omega) hM e2
      obtain ⟨f3, f4⟩ := l_few2 hN0 hM
      rw [f1, bsome, f3, bsome, if_pos rfl, f2, bsome, f4, bsome, if_pos rfl, L_isOld hN0 hh.b hh.2.2.2 hl (fun b hb => hh.l hb) hR1 (by omega), bsome, if_pos rfl]
      obtain ⟨y, y1, y2⟩ := near_both hN0 hh.b hh.2.2.2 hl (fun b hb => hh.l hb) hR1 (show R ≤ 600000 by omega)
      rw [y2, bsome, y1, bsome, if_pos rfl]
      exact again
theorem law_is (hN0 : 2097152 ≤ N) (hz : ZV z) (h : LI B 0 v gl ge gw gh gt gn gp) : fL_law72 L xs N v tx z gl ge gw gh gt gn gp rf = some 1 := by
  unfold fL_law72
  have e5 : fL_areStacks N v gl ge gw gh gn gp 5 = some true := by exact L_areStacks hN0 h (p := 5) (by decide)
  obtain ⟨u, e, e1⟩ := law_run (L := L) (xs := xs) (tx := tx) (rf := rf) hN0 N 0 (by decide) (by omega) hz h
  have e' : lL_law_119 L xs N tx rf N v z gl ge gw gh gt gn gp 1 0 = some u := by exact e
  rw [L_areBlocks hN0 h, bsome, if_pos rfl, e5, bsome, if_pos rfl, e', bsome, e1]
end LF
/-- the law's case at its start -/
def gn0 : Nat → Int32 := upd (upd (upd (upd (fun _ => 0) (Int32.toNatClampNeg 0) 10) (Int32.toNatClampNeg 1) 300) (Int32.toNatClampNeg 2) 3) (Int32.toNatClampNeg 3) 40
