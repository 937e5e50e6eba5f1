/-! the fewest blocks: the class's search -/
theorem tb_lt {M i : Nat} (h : M < 2 ^ i) : M.testBit i = false := Nat.testBit_lt_two_pow h
theorem top_bit {M i : Nat} (h1 : 2 ^ i ≤ M) (h2 : M < 2 ^ (i + 1)) : ∃ Q, Q < 2 ^ i ∧ M = Q ||| 2 ^ i := by
  rw [Nat.pow_succ] at h2
  have hq : M - 2 ^ i < 2 ^ i := by omega
  refine ⟨M - 2 ^ i, hq, ?_⟩
  have h3 := Nat.two_pow_add_eq_or_of_lt hq 1
  rw [Nat.mul_one, Nat.or_comm] at h3
  rw [← h3]
  omega
theorem or_add {Q i : Nat} (h : Q < 2 ^ i) : Q ||| 2 ^ i = Q + 2 ^ i := by
  have h3 := Nat.two_pow_add_eq_or_of_lt h 1
  rw [Nat.mul_one, Nat.or_comm] at h3
  omega
theorem pop_le {M b : Nat} (h : M < 2 ^ b) (hb : b ≤ 20) : pop M ≤ b := by
  have e : pop M = fb_ct (fun i => M.testBit i) b := by
    unfold pop
    rw [← ct_cut (fun i => M.testBit i) hb]
    refine fb_ct_cong (fun k _ => ?_)
    by_cases c : k < b
    · simp [c]
    · have h2 : M.testBit k = false := tb_lt (Nat.lt_of_lt_of_le h (Nat.pow_le_pow_right (by decide) (by omega)))
      rw [h2]; simp
  rw [e]
  exact fb_ct_le _ b
theorem pop_z {M b : Nat} (h : M < 2 ^ b) (hb : b ≤ 20) (h0 : pop M = 0) : M = 0 := by
  apply Nat.eq_of_testBit_eq
  intro i
  rw [Nat.zero_testBit]
  rcases Nat.lt_or_ge i 20 with c | c
  · exact fb_ct_zero.mp h0 i c
  · exact tb_lt (Nat.lt_of_lt_of_le h (Nat.pow_le_pow_right (by decide) (by omega)))
section LeSs
variable {N B : Nat} {v : VS}
def Sub (v : VS) (B M : Nat) : Prop := ∀ i, M.testBit i = true → i < B ∧ fre v i = true
def Gd (v : VS) (B bel many : Nat) (l : Int32) (M : Nat) : Prop := M < 2 ^ bel ∧ Sub v B M ∧ pop M = many ∧ sumM v B M = l
theorem sum_bd {q : Nat} (hd : BD B q v) (hl : B ≤ 20) {M : Nat} (hs : Sub v B M) : ∃ s, sumM v B M = nI s ∧ 500 * pop M ≤ s ∧ s ≤ 100000 * pop M := by
  have key : ∀ n, n ≤ B → ∃ s, rng (fun i a => if M.testBit i = true then a + sN v i else a) n 0 = nI s ∧ 500 * fb_ct (fun i => M.testBit i) n ≤ s ∧ s ≤ 100000 * fb_ct (fun i => M.testBit i) n := by
    intro n
    induction n with
    | zero => intro _; exact ⟨0, rfl, Nat.le_refl _, Nat.le_refl _⟩
    | succ n ih =>
      intro hn
      obtain ⟨s, e1, e2, e3⟩ := ih (by omega)
      obtain ⟨k1, k2, k3⟩ := hd.n (show n < B by omega)
      rw [fb_ct_succ]
      show ∃ s, (if M.testBit n = true then rng _ n 0 + sN v n else rng _ n 0) = nI s ∧ _
      rw [e1]
      by_cases c : M.testBit n = true
      · rw [if_pos c, if_pos c, k1, nI_add]
        exact ⟨_, rfl, by omega, by omega⟩
      · rw [if_neg c, if_neg c]
        exact ⟨s, rfl, by omega, by omega⟩
  obtain ⟨s, e1, e2, e3⟩ := key B (Nat.le_refl B)
  have e : pop M = fb_ct (fun i => M.testBit i) B := by
    unfold pop
    rw [← ct_cut (fun i => M.testBit i) hl]
    refine fb_ct_cong (fun k _ => ?_)
    cases c : M.testBit k with
    | false => simp
    | true => simp [(hs k c).1]
  rw [e]
  exact ⟨s, e1, e2, e3⟩
theorem gd_pos {q : Nat} (hd : BD B q v) (hl : B ≤ 20) {bel many : Nat} {l : Int32} {M : Nat} (h : Gd v B bel many l M) (hm : many ≤ 6) : ¬ l < nI (many * 500) ∧ l ≤ nI (many * 100000) := by
  obtain ⟨s, e1, e2, e3⟩ := sum_bd hd hl h.2.1
  rw [h.2.2.1] at e2 e3
  rw [← h.2.2.2, e1]
  exact ⟨nI_nlt (by omega) (by omega), nI_le (by omega) (by omega)⟩
theorem gd_split {bel many : Nat} {l : Int32} {Q i : Nat} (hQ : Q < 2 ^ i) (hi : i < bel) (hb : bel ≤ 20) (hB : i < B) (hf : fre v i = true) : Gd v B bel (many + 1) l (Q ||| 2 ^ i) ↔ Gd v B i many (l - sN v i) Q := by
  have hQi := tb_lt hQ
  have ep := pop_or (T := Q) (b := i) (by omega) hQi
  have es := sumM_or v (T := Q) hB hQi
  have e5 : (sumM v B Q + sN v i = l) ↔ (sumM v B Q = l - sN v i) := by
    constructor
    · intro q; rw [← q, Int32.add_sub_cancel]
    · intro q; rw [q, Int32.sub_add_cancel]
  unfold Gd
  rw [ep, es, e5]
  constructor
  · rintro ⟨h1, h2, h3, h4⟩
    refine ⟨hQ, fun k hk => h2 k ?_, by omega, h4⟩
    rw [or_bit]
    by_cases c : k = i
    · rw [if_pos c]
    · rw [if_neg c]; exact hk
  · rintro ⟨h1, h2, h3, h4⟩
    refine ⟨?_, fun k hk => ?_, by omega, h4⟩
    · rw [or_add hQ]
      have h7 : 2 ^ (i + 1) ≤ 2 ^ bel := Nat.pow_le_pow_right (by decide) (by omega)
      rw [Nat.pow_succ] at h7
      omega
    · rw [or_bit] at hk
      by_cases c : k = i
      · rw [c]; exact ⟨hB, hf⟩
      · rw [if_neg c] at hk; exact h2 k hk
/-- the least good set, or none -/
def LeS (v : VS) (B bel many : Nat) (l r : Int32) : Prop := (r = 0 ∧ ∀ M, ¬ Gd v B bel many l M) ∨ ∃ M, Gd v B bel many l M ∧ (∀ W, Gd v B bel many l W → M ≤ W) ∧ r = nI M
theorem least (hN0 : 2097152 ≤ N) {q : Nat} (hd : BD B q v) (hl : B ≤ 20) : ∀ many d bel l, 1 ≤ many → many ≤ 6 → many ≤ d → bel ≤ 20 →
    ∃ r, fX0_leastSet N d (sN v) (nI (mkb (fre v) B)) (nI bel) (nI many) l = some r ∧ LeS v B bel many l r := by
  have hFM : mkb (fre v) B < 2 ^ 31 := Nat.lt_of_lt_of_le (mkb_lt _ B) (Nat.pow_le_pow_right (by decide) (by omega))
  intro many
  induction many with
  | zero => intro d bel l h; omega
  | succ mn ih =>
    intro d bel l h1 h6 hdp hbel
    obtain ⟨d, rfl⟩ : ∃ x, d = x + 1 := ⟨d - 1, by omega⟩
    rw [fX0_leastSet]
    unfold bX0_leastSet
    rw [if_neg (show ¬ nI (mn + 1) < 1 from nI_nlt (b := 1) (by omega) (by omega)), if_neg (show ¬ (6 : Int32) < nI (mn + 1) from nI_nlt (a := 6) (by omega) (by decide)), show nI (mn + 1) * 500 = nI ((mn + 1) * 500) from nI_mul _ 500, show nI (mn + 1) * 100000 = nI ((mn + 1) * 100000) from nI_mul _ 100000]
    by_cases c1 : l < nI ((mn + 1) * 500)
    · rw [if_pos c1]
      exact ⟨0, rfl, .inl ⟨rfl, fun M hM => (gd_pos hd hl hM h6).1 c1⟩⟩
    rw [if_neg c1]
    by_cases c3 : ¬ l ≤ nI ((mn + 1) * 100000)
    · rw [if_neg c3]
      exact ⟨0, rfl, .inl ⟨rfl, fun M hM => c3 (gd_pos hd hl hM h6).2⟩⟩
    have c2 : l ≤ nI ((mn + 1) * 100000) := Classical.not_not.mp c3
    rw [if_pos c2, nI_pred]
    have key : ∃ u, lX0_leastSet_37 N (sN v) (nI (mkb (fre v) B)) (nI bel) (nI (mn + 1)) l (fX0_leastSet N d) N (nI mn) = some u ∧
        ((u = .inl () ∧ ∀ M, ¬ Gd v B bel (mn + 1) l M) ∨ (∃ t, t < 20 ∧ u = .inr (.inl (nI t)) ∧ Gd v B bel (mn + 1) l (2 ^ t) ∧ ∀ W, Gd v B bel (mn + 1) l W → 2 ^ t ≤ W) ∨
          ∃ t Q, t < 20 ∧ u = .inr (.inr (nI t, nI Q)) ∧ Gd v B bel (mn + 1) l (Q ||| 2 ^ t) ∧ ∀ W, Gd v B bel (mn + 1) l W → (Q ||| 2 ^ t) ≤ W) := by
      rcases Nat.lt_or_ge bel mn with cb | cb
      · obtain ⟨n, hn⟩ : ∃ x, N = x + 1 := ⟨N - 1, by omega⟩
        refine ⟨.inl (), ?_, .inl ⟨rfl, fun M hM => ?_⟩⟩
        · have : ∀ M, M = n + 1 → lX0_leastSet_37 N (sN v) (nI (mkb (fre v) B)) (nI bel) (nI (mn + 1)) l (fX0_leastSet N d) M (nI mn) = some (.inl ()) := fun M hM => by
            subst hM
            rw [lX0_leastSet_37, if_pos (nI_le (by omega) (by omega))]
          exact this N hn
        · have := pop_le hM.1 hbel
          have := hM.2.2.1
          omega
      · refine for_ex (α := Unit) (B := bel) (fun n _ i => lX0_leastSet_37 N (sN v) (nI (mkb (fre v) B)) (nI bel) (nI (mn + 1)) l (fX0_leastSet N d) n i) (fun i _ => ∀ W, Gd v B bel (mn + 1) l W → 2 ^ i ≤ W) _
          (fun n a hI => ⟨.inl (), by rw [lX0_leastSet_37, if_pos (Int32.le_refl _)], .inl ⟨rfl, fun M hM => by have := hI M hM; have := hM.1; omega⟩⟩)
          (fun n a i hi hI => ?_) mn cb (by omega) () (fun W hW => ?_)
        · rw [lX0_leastSet_37, if_neg (nI_ge hi (by omega)), if_neg (show ¬ (20 : Int32) ≤ nI i from nI_ge (b := 20) (by omega) (by decide))]
          have up : (∀ W, Gd v B bel (mn + 1) l W → W < 2 ^ (i + 1) → False) → ∀ W, Gd v B bel (mn + 1) l W → 2 ^ (i + 1) ≤ W := fun h W hW => by
            rcases Nat.lt_or_ge W (2 ^ (i + 1)) with z | z
            · exact (h W hW z).elim
            · exact z
          cases cf : (mkb (fre v) B).testBit i with
          | false =>
            rw [if_pos ((bit_at0 hFM (by omega)).mpr cf)]
            refine .inl ⟨(), rfl, up (fun W hW hlt => ?_)⟩
            obtain ⟨Q, hQ, rfl⟩ := top_bit (hI W hW) hlt
            have h7 := hW.2.1 i (by rw [or_bit, if_pos rfl])
            rw [mkb_bit] at cf
            simp [h7.1, h7.2] at cf
          | true =>
            rw [if_neg (fun z => by rw [(bit_at0 hFM (by omega)).mp z] at cf; cases cf), ckI (by omega) (by decide), nI_clamp (by omega)]
            rw [mkb_bit] at cf
            simp only [Bool.and_eq_true, decide_eq_true_eq] at cf
            obtain ⟨hiB, hif⟩ := cf
            by_cases cm : mn = 0
            · subst cm
              rw [if_pos (show nI (0 + 1) = (1 : Int32) from rfl), if_pos (show nI (0 + 1) = (1 : Int32) from rfl)]
              simp only [d00, if_true]
              by_cases c3 : l - sN v i = 0
              · rw [if_pos c3]
                refine .inr ⟨_, rfl, .inr (.inl ⟨i, by omega, rfl, ?_, hI⟩)⟩
                have sub0 : Sub v B 0 := fun k hk => by
                  rw [Nat.zero_testBit] at hk
                  cases hk
                have h8 : Gd v B bel (0 + 1) l (0 ||| 2 ^ i) := (gd_split (Q := 0) (Nat.two_pow_pos i) hi hbel hiB hif).mpr ⟨Nat.two_pow_pos i, sub0, pop_0, by rw [sumM_0, c3]⟩
                rw [Nat.zero_or] at h8
                exact h8
              · rw [if_neg c3]
                refine .inl ⟨(), rfl, up (fun W hW hlt => ?_)⟩
                obtain ⟨Q, hQ, rfl⟩ := top_bit (hI W hW) hlt
                have h8 := (gd_split hQ hi hbel hiB hif).mp hW
                have h9 := pop_z hQ (by omega) h8.2.2.1
                subst h9
                exact c3 (by rw [← h8.2.2.2, sumM_0])
            · have c1n : ¬ nI (mn + 1) = 1 := fun z => cm (by have := (nI_eq (b := 1) (by omega) (by decide)).mp z; omega)
              obtain ⟨r, e1, e2⟩ := ih d i (l - sN v i) (by omega) (by omega) (by omega) (by omega)
              rw [if_neg c1n, if_neg c1n, show nI (mn + 1) - 1 = nI mn from nI_pred mn, e1, bsome]
              rcases e2 with ⟨rfl, e3⟩ | ⟨Q, e3, e4, rfl⟩
              · rw [if_pos rfl]
                refine .inl ⟨(), rfl, up (fun W hW hlt => ?_)⟩
                obtain ⟨Q, hQ, rfl⟩ := top_bit (hI W hW) hlt
                exact e3 Q ((gd_split hQ hi hbel hiB hif).mp hW)
              · have hQ := e3.1
                have hQ20 : 2 ^ i ≤ 2 ^ 20 := Nat.pow_le_pow_right (by decide) (by omega)
                have hQ0 : 0 < Q := by
                  rcases Nat.eq_zero_or_pos Q with z | z
                  · have h8 := e3.2.2.1
                    rw [z, pop_0] at h8
                    omega
                  · exact z
                rw [if_neg (nI_ne0 hQ0 (by omega))]
                refine .inr ⟨_, rfl, .inr (.inr ⟨i, Q, by omega, rfl, (gd_split hQ hi hbel hiB hif).mpr e3, fun W hW => ?_⟩)⟩
                rcases Nat.lt_or_ge W (2 ^ (i + 1)) with z | z
                · obtain ⟨P, hP, rfl⟩ := top_bit (hI W hW) z
                  have h8 := e4 P ((gd_split hP hi hbel hiB hif).mp hW)
                  rw [or_add hQ, or_add hP]
                  omega
                · rw [or_add hQ]
                  rw [Nat.pow_succ] at z
                  omega
        · rcases Nat.lt_or_ge W (2 ^ mn) with z | z
          · have := pop_le z (by omega)
            have := hW.2.2.1
            omega
          · exact z
    obtain ⟨u, e1, e2⟩ := key
    rw [e1, bsome]
    rcases e2 with ⟨rfl, e3⟩ | ⟨t, ht, rfl, e3, e4⟩ | ⟨t, Q, ht, rfl, e3, e4⟩
    · exact ⟨0, rfl, .inl ⟨rfl, e3⟩⟩
    · refine ⟨nI (2 ^ t), ?_, .inr ⟨_, e3, e4, rfl⟩⟩
      show some ((1 : Int32) <<< (nI t &&& 31)) = _
      rw [sh_1 t (by omega)]
    · refine ⟨nI (Q ||| 2 ^ t), ?_, .inr ⟨_, e3, e4, rfl⟩⟩
      show some (nI Q ||| ((1 : Int32) <<< (nI t &&& 31))) = _
      rw [sh_1 t (by omega), show nI Q ||| nI (2 ^ t) = nI (Q ||| 2 ^ t) from fa_or Q (2 ^ t)]
end LeSs
