/-! the old way: the law's loops beside the class's -/
section OL
variable {N B q : Nat} {v : VS} {gl : Nat → Int32}
/-- the block that the old way takes: the longest of those that fit, the lowest number of several -/
def BestO (v : VS) (B T R D : Nat) (a : Int32) : Prop := (a = -1 ∧ ∀ i, i < B → okS v T R D i = false) ∨ ∃ j, j < B ∧ a = nI j ∧ okS v T R D j = true ∧ ∀ i, i < B → okS v T R D i = true → nm v i < nm v j ∨ (nm v i = nm v j ∧ j ≤ i)
theorem best_uniq (hB : B ≤ 20) {T R D : Nat} {a b : Int32} (h : BestO v B T R D a) (h2 : BestO v B T R D b) : a = b := by
  rcases h with ⟨rfl, h⟩ | ⟨j, j1, rfl, j2, h⟩ <;> rcases h2 with ⟨rfl, h2⟩ | ⟨k, k1, rfl, k2, h2⟩
  · rfl
  · rw [h k k1] at k2
    cases k2
  · rw [h2 j j1] at j2
    cases j2
  · have a1 := h k k1 k2
    have a2 := h2 j j1 j2
    have : j = k := by omega
    rw [this]
theorem c_best (hd : BD B q v) (hB : B ≤ 20) (T R D : Nat) : BestO v B T R D (rng (nxS v T R D) B (-1)) := by
  have key : ∀ n, n ≤ B → BestO v n T R D (rng (nxS v T R D) n (-1)) := by
    intro n
    induction n with
    | zero => exact fun _ => .inl ⟨rfl, fun i hi => by omega⟩
    | succ n ih =>
      intro hn
      have ih := ih (by omega)
      show BestO v (n + 1) T R D (nxS v T R D n (rng (nxS v T R D) n (-1)))
      generalize rng (nxS v T R D) n (-1) = a at ih
      unfold nxS
      cases c : okS v T R D n with
      | false =>
        rw [if_neg (by decide)]
        rcases ih with ⟨rfl, h⟩ | ⟨j, j1, rfl, j2, h⟩
        · refine .inl ⟨rfl, fun i hi => ?_⟩
          rcases Nat.lt_or_ge i n with z | z
          · exact h i z
          · rw [show i = n by omega, c]
        · refine .inr ⟨j, by omega, rfl, j2, fun i hi hk => ?_⟩
          rcases Nat.lt_or_ge i n with z | z
          · exact h i z hk
          · rw [show i = n by omega, c] at hk
            cases hk
      | true =>
        rw [if_pos rfl]
        rcases ih with ⟨rfl, h⟩ | ⟨j, j1, rfl, j2, h⟩
        · rw [if_pos rfl]
          refine .inr ⟨n, by omega, rfl, c, fun i hi hk => ?_⟩
          rcases Nat.lt_or_ge i n with z | z
          · rw [h i z] at hk
            cases hk
          · exact .inr ⟨by rw [show i = n by omega], by omega⟩
        · obtain ⟨m1, m2, m3⟩ := hd.n (show n < B by omega)
          obtain ⟨l1, l2, l3⟩ := hd.n (show j < B by omega)
          rw [if_neg (nI_m1 (by omega)), nI_clamp (by omega), m1, l1]
          by_cases c2 : nm v n ≤ nm v j
          · rw [if_pos (nI_le c2 (by omega))]
            refine .inr ⟨j, by omega, rfl, j2, fun i hi hk => ?_⟩
            rcases Nat.lt_or_ge i n with z | z
            · exact h i z hk
            · rw [show i = n by omega]
              omega
          · rw [if_neg (nI_ge (by omega) (by omega))]
            refine .inr ⟨n, by omega, rfl, c, fun i hi hk => ?_⟩
            rcases Nat.lt_or_ge i n with z | z
            · have := h i z hk
              omega
            · rw [show i = n by omega]
              omega
  exact key B (Nat.le_refl B)
theorem L_zeros (hN0 : 2097152 ≤ N) {R : Nat} (h0 : 0 < R) (hR : R ≤ 600000) (l2 l3 l4 : Int32) : lL_isOld_22 N v gl l2 l3 l4 (nI R) N 1 = some (nI (10 ^ zz 6 R)) := by
  have hz := zz_lt h0 hR
  have key : ∀ k j f, j + k = zz 6 R → k < f → lL_isOld_22 N v gl l2 l3 l4 (nI R) f (nI (10 ^ j)) = some (nI (10 ^ zz 6 R)) := by
    intro k
    induction k with
    | zero =>
      intro j f hj hf
      obtain ⟨f, rfl⟩ : ∃ x, f = x + 1 := ⟨f - 1, by omega⟩
      have e : j = zz 6 R := by omega
      subst e
      have hp := p10 (zz 6 R) (by omega)
      have hp0 : 0 < 10 ^ zz 6 R := Nat.pow_pos (by decide)
      have h1 := zz_iff 6 (zz 6 R + 1) R (by omega)
      have h2 := (zz_iff 6 (zz 6 R) R (by omega)).mp (Nat.le_refl _)
      have h3 : R % 10 ^ (zz 6 R + 1) = R % 10 ^ zz 6 R + 10 ^ zz 6 R * (R / 10 ^ zz 6 R % 10) := by rw [Nat.pow_succ, Nat.mod_mul]
      have h4 : R / 10 ^ zz 6 R % 10 ≠ 0 := fun z => by
        rw [z, h2] at h3
        omega
      have hdl : R / 10 ^ zz 6 R ≤ R := Nat.div_le_self _ _
      rw [lL_isOld_22, cz_n hp0 (by omega), nI_div (by omega) hp0 (by omega), show nI (R / 10 ^ zz 6 R) - nI (R / 10 ^ zz 6 R) / 10 * 10 = nI (R / 10 ^ zz 6 R % 10) from remI (d := 10) (by omega) (by decide) (by decide), if_neg (nI_ne0 (by omega) (by omega))]
    | succ k ih =>
      intro j f hj hf
      obtain ⟨f, rfl⟩ : ∃ x, f = x + 1 := ⟨f - 1, by omega⟩
      have hp := p10 j (by omega)
      have hp0 : 0 < 10 ^ j := Nat.pow_pos (by decide)
      have h1 := (zz_iff 6 (j + 1) R (by omega)).mp (by omega)
      have h3 : R % 10 ^ (j + 1) = R % 10 ^ j + 10 ^ j * (R / 10 ^ j % 10) := by rw [Nat.pow_succ, Nat.mod_mul]
      have h4 : R / 10 ^ j % 10 = 0 := by
        rcases Nat.eq_zero_or_pos (R / 10 ^ j % 10) with c | c
        · exact c
        · have := Nat.mul_pos hp0 c
          omega
      have hdl : R / 10 ^ j ≤ R := Nat.div_le_self _ _
      rw [lL_isOld_22, cz_n hp0 (by omega), nI_div (by omega) hp0 (by omega), show nI (R / 10 ^ j) - nI (R / 10 ^ j) / 10 * 10 = nI (R / 10 ^ j % 10) from remI (d := 10) (by omega) (by decide) (by decide), h4, if_pos (show nI 0 = (0 : Int32) from rfl), show nI (10 ^ j) * 10 = nI (10 ^ (j + 1)) from by rw [Nat.pow_succ]; exact nI_mul _ 10]
      exact ih (j + 1) f (by omega) (by omega)
  exact key (zz 6 R) 0 N (by omega) (by omega)
theorem L_best (hN0 : 2097152 ≤ N) (hd : BD B q v) (hl : B ≤ 10) (hg : ∀ b, b < B → gl b = sN v b) {R T : Nat} (h0 : 0 < R) (hR : R ≤ 600000) (hT : T < 2 ^ 20) (l3 : Int32) : ∃ a, lL_isOld_50 N v gl (nI (mkb (fre v) B)) l3 (nI T) (nI R) (nI (10 ^ zz 6 R)) N (-1) 9 = some a ∧ BestO v B T R (10 ^ (zz 6 R + 1)) a := by
  have hz := zz_lt h0 hR
  have hp := p10 (zz 6 R) (by omega)
  have hp0 : 0 < 10 ^ zz 6 R := Nat.pow_pos (by decide)
  have hF : mkb (fre v) B < 2 ^ 31 := Nat.lt_of_lt_of_le (mkb_lt _ B) (Nat.pow_le_pow_right (by decide) (by omega))
  have key : ∀ k f a, k ≤ 10 → k < f → ((a = -1 ∧ ∀ i, k ≤ i → i < B → okS v T R (10 ^ (zz 6 R + 1)) i = false) ∨ ∃ j, k ≤ j ∧ j < B ∧ a = nI j ∧ okS v T R (10 ^ (zz 6 R + 1)) j = true ∧ ∀ i, k ≤ i → i < B → okS v T R (10 ^ (zz 6 R + 1)) i = true → nm v i < nm v j ∨ (nm v i = nm v j ∧ j ≤ i)) →
      ∃ r, lL_isOld_50 N v gl (nI (mkb (fre v) B)) l3 (nI T) (nI R) (nI (10 ^ zz 6 R)) f a (nI k - 1) = some r ∧ BestO v B T R (10 ^ (zz 6 R + 1)) r := by
    intro k
    induction k with
    | zero =>
      intro f a hk hf hI
      obtain ⟨f, rfl⟩ : ∃ x, f = x + 1 := ⟨f - 1, by omega⟩
      refine ⟨a, by rw [lL_isOld_50, if_pos (by decide)], ?_⟩
      rcases hI with ⟨rfl, h⟩ | ⟨j, -, j1, rfl, j2, h⟩
      · exact .inl ⟨rfl, fun i hi => h i (by omega) hi⟩
      · exact .inr ⟨j, j1, rfl, j2, fun i hi hk => h i (by omega) hi hk⟩
    | succ k ih =>
      intro f a hk hf hI
      obtain ⟨f, rfl⟩ : ∃ x, f = x + 1 := ⟨f - 1, by omega⟩
      have cI : ∀ {α : Type} (X : Option α), ck (nI k) 10 X = X := fun X => ckI (by omega) (by decide)
      have kI : (nI k).toNatClampNeg = k := nI_clamp (by omega)
      have hdn : nI k + (-1) = nI k - 1 := (Int32.sub_eq_add_neg _ _).symm
      have cZ : ∀ {α : Type} (X : Option α), cz (nI (10 ^ zz 6 R)) X = X := fun X => cz_n hp0 (by omega)
      have hbit : (mkb (fre v) B).testBit k = (decide (k < B) && fre v k) := mkb_bit _ k B
      have eA : ∃ w : Int32, ((if (((nI (mkb (fre v) B)) >>> (nI k &&& 31)) &&& 1) = (1 : Int32) then (if (((nI T) >>> (nI k &&& 31)) &&& 1) = (0 : Int32) then ((if nI R < gl k then some 0 else ((if (((nI R - gl k) / nI (10 ^ zz 6 R)) * nI (10 ^ zz 6 R)) = (nI R - gl k) then ((if (((nI R - gl k) / nI (10 ^ zz 6 R)) - ((nI R - gl k) / nI (10 ^ zz 6 R)) / 10 * 10) = (0 : Int32) then some 1 else some 0)) else some 0)))) else some 0) else some 0) : Option Int32) = some w ∧ ((w = 1 ∧ k < B ∧ okS v T R (10 ^ (zz 6 R + 1)) k = true) ∨ (w = 0 ∧ (k < B → okS v T R (10 ^ (zz 6 R + 1)) k = false))) := by
        unfold okS
        cases hF2 : (mkb (fre v) B).testBit k with
        | false =>
          refine ⟨0, by rw [if_neg (fun z => by rw [(bit_at1 hF (by omega)).mp z] at hF2; cases hF2)], .inr ⟨rfl, fun hk => ?_⟩⟩
          rw [hbit, decide_eq_true hk] at hF2
          have : fre v k = false := hF2
          rw [this]
          rfl
        | true =>
          rw [hbit] at hF2
          simp only [Bool.and_eq_true, decide_eq_true_eq] at hF2
          obtain ⟨hkB, hfr⟩ := hF2
          obtain ⟨n1, n2, n3⟩ := hd.n hkB
          rw [if_pos ((bit_at1 hF (by omega)).mpr (by rw [hbit, decide_eq_true hkB, hfr]; rfl)), hfr, hg k hkB, n1]
          cases hTb : T.testBit k with
          | true => exact ⟨0, by rw [if_neg (fun z => by rw [(bit_at0 (by omega) (by omega)).mp z] at hTb; cases hTb)], .inr ⟨rfl, fun _ => rfl⟩⟩
          | false =>
            rw [if_pos ((bit_at0 (by omega) (by omega)).mpr hTb)]
            by_cases c1 : R < nm v k
            · exact ⟨0, by rw [if_pos (nI_lt c1 (by omega))], .inr ⟨rfl, fun _ => by rw [decide_eq_false (show ¬ nm v k ≤ R by omega)]; rfl⟩⟩
            · rw [if_neg (nI_nlt (by omega) (by omega)), nI_sub (by omega), nI_div (by omega) hp0 (by omega), nI_mul, show nI ((R - nm v k) / 10 ^ zz 6 R) - nI ((R - nm v k) / 10 ^ zz 6 R) / 10 * 10 = nI ((R - nm v k) / 10 ^ zz 6 R % 10) from remI (d := 10) (by have := Nat.div_le_self (R - nm v k) (10 ^ zz 6 R); omega) (by decide) (by decide), decide_eq_true (show nm v k ≤ R by omega)]
              have m1 := Nat.div_mul_le_self (R - nm v k) (10 ^ zz 6 R)
              have m2 := Nat.div_add_mod (R - nm v k) (10 ^ zz 6 R)
              rw [Nat.mul_comm] at m2
              have m3 : (R - nm v k) % 10 ^ (zz 6 R + 1) = (R - nm v k) % 10 ^ zz 6 R + 10 ^ zz 6 R * ((R - nm v k) / 10 ^ zz 6 R % 10) := by rw [Nat.pow_succ, Nat.mod_mul]
              have e1 : (nI ((R - nm v k) / 10 ^ zz 6 R * 10 ^ zz 6 R) = nI (R - nm v k)) ↔ (R - nm v k) % 10 ^ zz 6 R = 0 := by
                rw [nI_eq (by omega) (by omega)]
                omega
              have e2 : (nI ((R - nm v k) / 10 ^ zz 6 R % 10) = 0) ↔ (R - nm v k) / 10 ^ zz 6 R % 10 = 0 := nI_eq (b := 0) (by omega) (by decide)
              by_cases c2 : (R - nm v k) % 10 ^ zz 6 R = 0
              · rw [if_pos (e1.mpr c2)]
                by_cases c3 : (R - nm v k) / 10 ^ zz 6 R % 10 = 0
                · refine ⟨1, by rw [if_pos (e2.mpr c3)], .inl ⟨rfl, hkB, ?_⟩⟩
                  rw [c3, c2] at m3
                  rw [decide_eq_true (show (R - nm v k) % 10 ^ (zz 6 R + 1) = 0 by omega)]
                  rfl
                · refine ⟨0, by rw [if_neg (fun z => c3 (e2.mp z))], .inr ⟨rfl, fun _ => ?_⟩⟩
                  have := Nat.mul_pos hp0 (Nat.pos_of_ne_zero c3)
                  rw [decide_eq_false (show ¬ (R - nm v k) % 10 ^ (zz 6 R + 1) = 0 by omega)]
                  rfl
              · refine ⟨0, by rw [if_neg (fun z => c2 (e1.mp z))], .inr ⟨rfl, fun _ => ?_⟩⟩
                rw [decide_eq_false (show ¬ (R - nm v k) % 10 ^ (zz 6 R + 1) = 0 by omega)]
                rfl
      obtain ⟨w, eA, hw⟩ := eA
      have hgo : ∀ a', ((a' = -1 ∧ ∀ i, k ≤ i → i < B → okS v T R (10 ^ (zz 6 R + 1)) i = false) ∨ ∃ j, k ≤ j ∧ j < B ∧ a' = nI j ∧ okS v T R (10 ^ (zz 6 R + 1)) j = true ∧ ∀ i, k ≤ i → i < B → okS v T R (10 ^ (zz 6 R + 1)) i = true → nm v i < nm v j ∨ (nm v i = nm v j ∧ j ≤ i)) →
          ∃ r, lL_isOld_50 N v gl (nI (mkb (fre v) B)) l3 (nI T) (nI R) (nI (10 ^ zz 6 R)) f a' (nI k - 1) = some r ∧ BestO v B T R (10 ^ (zz 6 R + 1)) r := fun a' ha => ih f a' (by omega) (by omega) ha
      rw [nI_pred, lL_isOld_50, if_neg (show ¬ nI k < 0 from nI_nlt (b := 0) (by omega) (by omega))]
      simp only [cI, kI, cZ, hdn]
      rw [eA, bsome]
      rcases hw with ⟨rfl, hkB, hok⟩ | ⟨rfl, hno⟩
      · rw [if_neg (show ¬ (1 : Int32) = 0 by decide)]
        obtain ⟨n1, n2, n3⟩ := hd.n hkB
        rcases hI with ⟨rfl, h⟩ | ⟨j, j0, j1, rfl, j2, h⟩
        · rw [if_pos rfl]
          refine hgo _ (.inr ⟨k, Nat.le_refl k, hkB, rfl, hok, fun i h1 h2 h3 => ?_⟩)
          rcases Nat.eq_or_lt_of_le h1 with z | z
          · subst z
            exact .inr ⟨rfl, Nat.le_refl _⟩
          · rw [h i z h2] at h3
            cases h3
        · obtain ⟨l1, l2, l4⟩ := hd.n j1
          rw [if_neg (nI_m1 (by omega)), ckI (by omega) (by decide), nI_clamp (by omega), hg k hkB, hg j j1, n1, l1]
          by_cases c2 : nm v k < nm v j
          · rw [if_pos (nI_lt c2 (by omega))]
            refine hgo _ (.inr ⟨j, by omega, j1, rfl, j2, fun i h1 h2 h3 => ?_⟩)
            rcases Nat.eq_or_lt_of_le h1 with z | z
            · subst z
              exact .inl c2
            · exact h i z h2 h3
          · rw [if_neg (nI_nlt (by omega) (by omega))]
            refine hgo _ (.inr ⟨k, Nat.le_refl k, hkB, rfl, hok, fun i h1 h2 h3 => ?_⟩)
            rcases Nat.eq_or_lt_of_le h1 with z | z
            · subst z
              exact .inr ⟨rfl, Nat.le_refl _⟩
            · have := h i z h2 h3
              omega
      · rw [if_pos rfl]
        refine hgo _ ?_
        rcases hI with ⟨rfl, h⟩ | ⟨j, j0, j1, rfl, j2, h⟩
        · refine .inl ⟨rfl, fun i h1 h2 => ?_⟩
          rcases Nat.eq_or_lt_of_le h1 with z | z
          · subst z
            exact hno h2
          · exact h i z h2
        · refine .inr ⟨j, by omega, j1, rfl, j2, fun i h1 h2 h3 => ?_⟩
          rcases Nat.eq_or_lt_of_le h1 with z | z
          · subst z
            rw [hno h2] at h3
            cases h3
          · exact h i z h2 h3
  exact key 10 N (-1) (by omega) (by omega) (.inl ⟨rfl, fun i h1 h2 => by omega⟩)
theorem i32_back {s r R : Int32} (e : s + r = R) : R - s = r := by
  rw [← e, Int32.add_comm, Int32.sub_eq_add_neg, Int32.add_assoc, ← Int32.sub_eq_add_neg, Int32.sub_self, Int32.add_zero]
theorem old_both (hN0 : 2097152 ≤ N) (hB : sB v = nI B) (hd : BD B q v) (hl : B ≤ 10) (hg : ∀ b, b < B → gl b = sN v b) (Rv : Int32) : ∀ d m T R f g, m + d = 6 → d + 1 < f → d + 2 < g → R ≤ 600000 → pop T = m → (∀ i, T.testBit i = true → i < B) → sumM v B T + nI R = Rv →
    ∃ T' R' fl u, lX0_takenByOldWay_7 N v f (nI R) (nI T) (nI m) = some u ∧ (u = .inl (nI T') ∨ u = .inr (nI T')) ∧ lL_isOld_9 N v gl (nI (mkb (fre v) B)) Rv g (nI T) (nI R) 0 = some (nI T', nI R', fl) ∧ R' ≤ 600000 ∧ (∀ i, T'.testBit i = true → i < B) ∧ sumM v B T' + nI R' = Rv ∧ ((fl = 0 ∧ R' = 0) ∨ (fl = 1 ∧ 0 < R')) := by
  have tlt : ∀ T : Nat, (∀ i, T.testBit i = true → i < B) → T < 2 ^ 20 := fun T h => Nat.lt_of_lt_of_le (Nat.lt_pow_two_of_testBit T (n := B) (fun i hi => by
    cases c : T.testBit i with
    | false => rfl
    | true => have := h i c; omega)) (Nat.pow_le_pow_right (by decide) (by omega))
  intro d
  induction d with
  | zero =>
    intro m T R f g hm hf hgf hR hpop hT hsum
    obtain ⟨f, rfl⟩ : ∃ x, f = x + 1 := ⟨f - 1, by omega⟩
    obtain ⟨g, rfl⟩ : ∃ x, g = x + 1 := ⟨g - 1, by omega⟩
    obtain ⟨g, rfl⟩ : ∃ x, g = x + 1 := ⟨g - 1, by omega⟩
    have e : m = 6 := by omega
    subst e
    have hT20 := tlt T hT
    by_cases c : R = 0
    · subst c
      exact ⟨T, 0, 0, _, by rw [lX0_takenByOldWay_7, if_pos (by decide)], .inl rfl, by rw [lL_isOld_9, if_pos (by decide)], by omega, hT, hsum, .inl ⟨rfl, rfl⟩⟩
    · obtain ⟨a, a1, a2⟩ := L_best hN0 hd hl hg (by omega) hR hT20 Rv
      have e3 : ((if a = ((-1) : Int32) then some 1 else ((fL_ones N (nI T)).bind fun r4 => (if r4 = (6 : Int32) then some 1 else some 0))) : Option (Int32)) = some 1 := by
        by_cases c2 : a = -1
        · rw [if_pos c2]
        · rw [if_neg c2, L_ones hN0 (by omega), bsome, hpop, if_pos (show nI 6 = (6 : Int32) from rfl)]
      refine ⟨T, R, 1, _, by rw [lX0_takenByOldWay_7, if_pos (by decide)], .inl rfl, ?_, hR, hT, hsum, .inr ⟨rfl, by omega⟩⟩
      rw [lL_isOld_9, if_neg (nI_nle (by omega) (by omega)), if_pos rfl, L_zeros hN0 (by omega) hR, bsome, a1, bsome, e3, bsome, if_neg (show ¬ (1 : Int32) = 0 by decide), bsome, if_neg (show ¬ (1 : Int32) = 0 by decide), nI_or0, i32_s0, lL_isOld_9, if_neg (nI_nle (by omega) (by omega)), if_neg (show ¬ (1 : Int32) = 0 by decide)]
  | succ d ih =>
    intro m T R f g hm hf hgf hR hpop hT hsum
    obtain ⟨f, rfl⟩ : ∃ x, f = x + 1 := ⟨f - 1, by omega⟩
    obtain ⟨g, rfl⟩ : ∃ x, g = x + 1 := ⟨g - 1, by omega⟩
    have hT20 := tlt T hT
    by_cases c : R = 0
    · subst c
      exact ⟨T, 0, 0, _, by rw [lX0_takenByOldWay_7, if_neg (show ¬ (6 : Int32) ≤ nI m from nI_ge (b := 6) (by omega) (by decide)), if_pos (by decide)], .inl rfl, by rw [lL_isOld_9, if_pos (by decide)], by omega, hT, hsum, .inl ⟨rfl, rfl⟩⟩
    · obtain ⟨a, a1, a2⟩ := L_best hN0 hd hl hg (by omega) hR hT20 Rv
      have x1 : fX0_nextOfOldWay N v (nI T) (nI R) = some (rng (nxS v T R (10 ^ (zz 6 R + 1))) B (-1)) := by
        exact (X0_nextOld hN0 hB (show B ≤ 20 by omega) hd (show 0 < R by omega) hR (show T < 2 ^ 31 by omega)).1
      have x2 : rng (nxS v T R (10 ^ (zz 6 R + 1))) B (-1) = a := by
        exact best_uniq (show B ≤ 20 by omega) (c_best hd (show B ≤ 20 by omega) T R (10 ^ (zz 6 R + 1))) a2
      rw [x2] at x1
      rw [lX0_takenByOldWay_7, if_neg (show ¬ (6 : Int32) ≤ nI m from nI_ge (b := 6) (by omega) (by decide)), if_neg (nI_nle (by omega) (by omega)), x1, bsome, lL_isOld_9, if_neg (nI_nle (by omega) (by omega)), if_pos rfl, L_zeros hN0 (by omega) hR, bsome, a1, bsome]
      rcases a2 with ⟨rfl, h⟩ | ⟨j, j1, rfl, j2, h⟩
      · obtain ⟨g, rfl⟩ : ∃ x, g = x + 1 := ⟨g - 1, by omega⟩
        refine ⟨T, R, 1, _, by rw [if_pos rfl], .inr rfl, ?_, hR, hT, hsum, .inr ⟨rfl, by omega⟩⟩
        rw [if_pos rfl, bsome, if_neg (show ¬ (1 : Int32) = 0 by decide), bsome, if_neg (show ¬ (1 : Int32) = 0 by decide), nI_or0, i32_s0, lL_isOld_9, if_neg (nI_nle (by omega) (by omega)), if_neg (show ¬ (1 : Int32) = 0 by decide)]
      · have hTj : T.testBit j = false := by
          unfold okS at j2
          simp only [Bool.and_eq_true, Bool.not_eq_true'] at j2
          exact j2.2.1
        have hnR : nm v j ≤ R := by
          unfold okS at j2
          simp only [Bool.and_eq_true, decide_eq_true_eq] at j2
          exact j2.2.2.1
        obtain ⟨n1, n2, n3⟩ := hd.n j1
        have e5 : ¬ nI m = (6 : Int32) := fun z => by
          have := (nI_eq (b := 6) (by omega) (by decide)).mp z
          omega
        have e4 : ((if nI j = ((-1) : Int32) then some 1 else ((fL_ones N (nI T)).bind fun r4 => (if r4 = (6 : Int32) then some 1 else some 0))) : Option (Int32)) = some 0 := by
          rw [if_neg (nI_m1 (by omega)), L_ones hN0 (by omega), bsome, hpop, if_neg e5]
        rw [if_neg (nI_m1 (by omega)), ckI (by omega) (by decide), nI_clamp (by omega), sh_1 j (by omega), fa_or, n1, nI_sub hnR, nI_1, e4, bsome, if_pos rfl, bsome, if_pos rfl, ckI (by omega) (by decide), fa_or, hg j j1, n1, nI_sub hnR]
        refine ih (m + 1) (T ||| 2 ^ j) (R - nm v j) f g (by omega) (by omega) (by omega) (by omega) (by rw [pop_or (by omega) hTj, hpop]) (fun i hi => ?_) ?_
        · rw [or_bit] at hi
          by_cases z : i = j
          · omega
          · rw [if_neg z] at hi
            exact hT i hi
        · rw [sumM_or v j1 hTj, n1, Int32.add_assoc, nI_add, show nm v j + (R - nm v j) = R by omega]
          exact hsum
theorem L_isOld (hN0 : 2097152 ≤ N) (hB : sB v = nI B) (hd : BD B q v) (hl : B ≤ 10) (hg : ∀ b, b < B → gl b = sN v b) {R : Nat} (h1 : 500 ≤ R) (h2 : R ≤ 600000) : fL_isOld N v gl (nI (mkb (fun b => decide (sK v b = -1)) B)) (nI R) = some true := by
  obtain ⟨T, R', fl, u, u1, u2, u3, u4, u5, u6, u7⟩ := old_both hN0 hB hd hl hg (nI R) 6 0 0 R N N (by omega) (by omega) (by omega) h2 pop_0 (fun i hi => by
    rw [Nat.zero_testBit] at hi
    cases hi) (by rw [sumM_0, Int32.zero_add])
  have hT20 : T < 2 ^ 20 := Nat.lt_of_lt_of_le (Nat.lt_pow_two_of_testBit T (n := B) (fun i hi => by
    cases c : T.testBit i with
    | false => rfl
    | true => have := u5 i c; omega)) (Nat.pow_le_pow_right (by decide) (by omega))
  have t1 : fX0_takenByOldWay N v (nI R) = some (nI T) := by
    unfold fX0_takenByOldWay
    rw [show (0 : Int32) = nI 0 from rfl, u1, bsome]
    rcases u2 with rfl | rfl <;> rfl
  have t2 : fX3_nominalOfSet N v (nI T) = some (sumM v B T) := X3_nominalOfSet hN0 hB (by omega) (by omega)
  have t3 : nI R - sumM v B T = nI R' := i32_back u6
  have t4 : fJ6_bitCount_0f7a4 N (nI T) = some (nI (pop T)) := bit_n N hT20
  have o0 : fX4_oldWay N v (nI R) 0 = some (if R' = 0 then nI (pop T) else -1) := by
    unfold fX4_oldWay
    rw [ccl N h1 h2, bsome, ccr N (by decide) (by decide), bsome, t1, bsome, t2, bsome, if_neg (by decide), t3, t4, bsome, if_pos rfl]
    have e : (nI R' = 0) ↔ R' = 0 := nI_inj2 u4
    by_cases c : R' = 0
    · rw [if_pos (e.mpr c), if_pos c]
    · rw [if_neg (fun z => c (e.mp z)), if_neg c]
  have o1 : fX4_oldWay N v (nI R) 1 = some (if R' = 0 then nI T else -1) := by
    unfold fX4_oldWay
    rw [ccl N h1 h2, bsome, ccr N (by decide) (by decide), bsome, t1, bsome, t2, bsome, if_neg (by decide), t3, if_neg (show ¬ (1 : Int32) = 0 by decide)]
    have e : (nI R' = 0) ↔ R' = 0 := nI_inj2 u4
    by_cases c : R' = 0
    · rw [if_pos (e.mpr c), if_pos c]
    · rw [if_neg (fun z => c (e.mp z)), if_neg c]
  have o2 : fX4_oldWay N v (nI R) 2 = some (nI R') := by
    unfold fX4_oldWay
    rw [ccl N h1 h2, bsome, ccr N (by decide) (by decide), bsome, t1, bsome, t2, bsome, if_pos rfl, t3]
  have u3' : lL_isOld_9 N v gl (nI (mkb (fun b => decide (sK v b = -1)) B)) (nI R) N 0 (nI R) 0 = some (nI T, nI R', fl) := u3
  unfold fL_isOld
  rw [u3', bsome, o0, bsome]
  rcases u7 with ⟨rfl, rfl⟩ | ⟨rfl, c⟩
  · simp only [if_true]
    rw [L_ones hN0 (by omega), bsome, bsome, if_pos rfl, o1, bsome, bsome, if_pos rfl, if_pos rfl, o2, bsome, if_pos rfl]
  · rw [if_neg (show ¬ R' = 0 by omega), if_neg (show ¬ (1 : Int32) = 0 by decide), bsome, if_pos rfl, o1, bsome, if_neg (show ¬ (1 : Int32) = 0 by decide), bsome, if_neg (show ¬ R' = 0 by omega), if_pos rfl, o2, bsome, if_pos rfl]
end OL
