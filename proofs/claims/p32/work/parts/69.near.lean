/-! the nearest length: the law's search through all sets, and the class's -/
section NE
variable {N B q : Nat} {v : VS} {gl : Nat → Int32} {C D : Int32 → Prop} {l a b o : Int32}
def leN (l a x : Int32) : Prop := aI (a.toInt - l.toInt) < aI (x.toInt - l.toInt) ∨ (aI (a.toInt - l.toInt) = aI (x.toInt - l.toInt) ∧ a.toInt ≤ x.toInt)
def BestN (C : Int32 → Prop) (l a : Int32) : Prop := (a = -1 ∧ ∀ x, ¬ C x) ∨ (C a ∧ ∀ x, C x → leN l a x)
theorem bestN_uniq (h : BestN C l a) (h2 : BestN C l b) : a = b := by
  rcases h with ⟨rfl, h⟩ | ⟨c, h⟩ <;> rcases h2 with ⟨rfl, h2⟩ | ⟨d, h2⟩
  · rfl
  · exact absurd d (h b)
  · exact absurd c (h2 a)
  · have e1 : leN l a b := h b d
    have e2 : leN l b a := h2 a c
    unfold leN at e1 e2
    rw [fa_eq]
    omega
theorem bestN_cong (e : ∀ x, C x ↔ D x) (h : BestN C l a) : BestN D l a := by
  rcases h with ⟨rfl, h⟩ | ⟨c, h⟩
  · exact .inl ⟨rfl, fun x z => h x ((e x).mpr z)⟩
  · exact .inr ⟨(e a).mp c, fun x z => h x ((e x).mpr z)⟩
def BdN (x : Int32) : Prop := 500 ≤ x.toInt ∧ x.toInt ≤ 1000000
theorem jabs_sub (ha : BdN a) (hl : BdN l) : (jabs (a - l)).toInt = aI (a.toInt - l.toInt) ∧ 0 ≤ aI (a.toInt - l.toInt) ∧ aI (a.toInt - l.toInt) ≤ 1000000 := by
  unfold BdN at ha hl
  have e : (a - l).toInt = a.toInt - l.toInt := fb_subI (by omega) (by omega)
  have e2 : (jabs (a - l)).toInt = aI (a - l).toInt := jabs_I (by rw [e]; omega)
  have e3 := aI_le (x := a.toInt - l.toInt) (c := 1000000) (by omega) (by omega)
  rw [e2, e]
  exact ⟨rfl, e3⟩
theorem bdN_ne (ha : BdN a) : ¬ a = -1 := fun z => by
  unfold BdN at ha
  rw [z, m1I] at ha
  omega
/-- how the law takes the nearer one -/
def nrL (a o l : Int32) : Int32 := if a = -1 then o else if jabs (o - l) < jabs (a - l) then o else if jabs (o - l) = jabs (a - l) then (if a ≤ o then a else o) else a
theorem nrL_nr (ha : a = -1 ∨ BdN a) (ho : BdN o) (hl : BdN l) : nrL a o l = nr a o l := by
  unfold nrL nr
  by_cases c : a = -1
  · rw [if_pos c, if_pos c]
  · rw [if_neg c, if_neg c]
    have ha : BdN a := ha.elim (fun z => absurd z c) id
    obtain ⟨a1, a2, a3⟩ := jabs_sub ha hl
    obtain ⟨o1, o2, o3⟩ := jabs_sub ho hl
    have e : (jabs (a - l) - jabs (o - l)).toInt = aI (a.toInt - l.toInt) - aI (o.toInt - l.toInt) := by
      rw [fb_subI (by omega) (by omega), a1, o1]
    have e0 : (jabs (a - l) - jabs (o - l) = 0) ↔ aI (a.toInt - l.toInt) = aI (o.toInt - l.toInt) := by
      rw [fa_eq, e, z0]
      omega
    have e1 : (jabs (a - l) - jabs (o - l) ≤ 0) ↔ aI (a.toInt - l.toInt) ≤ aI (o.toInt - l.toInt) := by
      rw [fa_le, e, z0]
      omega
    have e2 : (jabs (o - l) < jabs (a - l)) ↔ aI (o.toInt - l.toInt) < aI (a.toInt - l.toInt) := by
      rw [fa_lt, a1, o1]
    have e3 : (jabs (o - l) = jabs (a - l)) ↔ aI (o.toInt - l.toInt) = aI (a.toInt - l.toInt) := by
      rw [fa_eq, a1, o1]
    rcases Int.lt_trichotomy (aI (o.toInt - l.toInt)) (aI (a.toInt - l.toInt)) with z | z | z
    · rw [if_pos (e2.mpr z), if_neg (fun y => by have := e0.mp y; omega), if_neg (fun y => by have := e1.mp y; omega)]
    · rw [if_neg (fun y => by have := e2.mp y; omega), if_pos (e3.mpr z), if_pos (e0.mpr z.symm)]
      unfold jmin
      by_cases c2 : a ≤ o
      · rw [if_pos c2, if_neg (Int32.not_lt.mpr c2)]
      · rw [if_neg c2, if_pos (Int32.not_le.mp c2)]
    · rw [if_neg (fun y => by have := e2.mp y; omega), if_neg (fun y => by have := e3.mp y; omega), if_neg (fun y => by have := e0.mp y; omega), if_pos (e1.mpr (by omega))]
theorem nr_best (hl : BdN l) (hC : ∀ x, C x → BdN x) (ho : BdN o) (h : BestN C l a) : BestN (fun x => C x ∨ x = o) l (nr a o l) := by
  rcases h with ⟨rfl, h⟩ | ⟨ca, h⟩
  · unfold nr
    rw [if_pos rfl]
    refine .inr ⟨.inr rfl, fun x z => ?_⟩
    rcases z with z | z
    · exact absurd z (h x)
    · subst z
      exact .inr ⟨rfl, Int.le_refl _⟩
  · have ha := hC a ca
    rw [← nrL_nr (.inr ha) ho hl]
    obtain ⟨a1, a2, a3⟩ := jabs_sub ha hl
    obtain ⟨o1, o2, o3⟩ := jabs_sub ho hl
    have e2 : (jabs (o - l) < jabs (a - l)) ↔ aI (o.toInt - l.toInt) < aI (a.toInt - l.toInt) := by
      rw [fa_lt, a1, o1]
    have e3 : (jabs (o - l) = jabs (a - l)) ↔ aI (o.toInt - l.toInt) = aI (a.toInt - l.toInt) := by
      rw [fa_eq, a1, o1]
    have takeA : leN l a o → BestN (fun x => C x ∨ x = o) l a := fun g => .inr ⟨.inl ca, fun x z => by
      rcases z with z | z
      · exact h x z
      · rw [z]
        exact g⟩
    have takeO : leN l o a → BestN (fun x => C x ∨ x = o) l o := fun g => .inr ⟨.inr rfl, fun x z => by
      rcases z with z | z
      · have g2 : leN l a x := h x z
        unfold leN at g g2 ⊢
        omega
      · rw [z]
        exact .inr ⟨rfl, Int.le_refl _⟩⟩
    unfold nrL
    rw [if_neg (bdN_ne ha)]
    by_cases c1 : jabs (o - l) < jabs (a - l)
    · rw [if_pos c1]
      exact takeO (.inl (e2.mp c1))
    · rw [if_neg c1]
      by_cases c2 : jabs (o - l) = jabs (a - l)
      · rw [if_pos c2]
        by_cases c3 : a ≤ o
        · rw [if_pos c3]
          exact takeA (.inr ⟨(e3.mp c2).symm, (fa_le a o).mp c3⟩)
        · rw [if_neg c3]
          refine takeO (.inr ⟨e3.mp c2, ?_⟩)
          rw [fa_le] at c3
          omega
      · rw [if_neg c2]
        refine takeA (.inl ?_)
        have n1 : ¬ aI (o.toInt - l.toInt) < aI (a.toInt - l.toInt) := fun y => c1 (e2.mpr y)
        have n2 : ¬ aI (o.toInt - l.toInt) = aI (a.toInt - l.toInt) := fun y => c2 (e3.mpr y)
        omega
/-- what one or two free blocks make -/
def CiN (v : VS) (n : Nat) (x : Int32) : Prop := ∃ i, i < n ∧ fre v i = true ∧ (x = sN v i ∨ ∃ j, j < i ∧ fre v j = true ∧ x = sN v i + sN v j)
theorem bd1 (hd : BD B q v) {i : Nat} (hi : i < B) : BdN (sN v i) := by
  have := hd.1 i hi
  unfold BdN
  omega
theorem bd2 (hd : BD B q v) {i j : Nat} (hi : i < B) (hj : j < B) : BdN (sN v i + sN v j) := by
  have := sumI hd hi hj
  unfold BdN
  omega
theorem CiN_bd (hd : BD B q v) {n : Nat} (hn : n ≤ B) (x : Int32) (h : CiN v n x) : BdN x := by
  obtain ⟨i, h1, -, h3⟩ := h
  rcases h3 with rfl | ⟨j, h4, -, rfl⟩
  · exact bd1 hd (by omega)
  · exact bd2 hd (by omega) (by omega)
theorem c_near (hd : BD B q v) (hl : BdN l) : BestN (CiN v B) l (rng (fun i a => if fre v i = true then nrIn v l i a else a) B (-1)) := by
  have key : ∀ n, n ≤ B → BestN (CiN v n) l (rng (fun i a => if fre v i = true then nrIn v l i a else a) n (-1)) := by
    intro n
    induction n with
    | zero => exact fun _ => .inl ⟨rfl, fun x z => by obtain ⟨i, h1, -⟩ := z; omega⟩
    | succ n ih =>
      intro hn
      have ih := ih (by omega)
      show BestN (CiN v (n + 1)) l (if fre v n = true then nrIn v l n (rng (fun i a => if fre v i = true then nrIn v l i a else a) n (-1)) else rng (fun i a => if fre v i = true then nrIn v l i a else a) n (-1))
      generalize rng (fun i a => if fre v i = true then nrIn v l i a else a) n (-1) = a at ih
      by_cases c : fre v n = true
      · rw [if_pos c]
        have inner : ∀ m, m ≤ n → BestN (fun x => (CiN v n x ∨ x = sN v n) ∨ ∃ j, j < m ∧ fre v j = true ∧ x = sN v n + sN v j) l (rng (fun j a => if fre v j = true then nr a (sN v n + sN v j) l else a) m (nr a (sN v n) l)) := by
          intro m
          induction m with
          | zero =>
            intro _
            refine bestN_cong (fun x => ?_) (nr_best hl (CiN_bd hd (by omega)) (bd1 hd (show n < B by omega)) ih)
            constructor
            · exact fun z => .inl z
            · intro z
              rcases z with z | ⟨j, hj, -⟩
              · exact z
              · omega
          | succ m ihm =>
            intro hm
            have ihm := ihm (by omega)
            show BestN _ l (if fre v m = true then nr (rng (fun j a => if fre v j = true then nr a (sN v n + sN v j) l else a) m (nr a (sN v n) l)) (sN v n + sN v m) l else rng (fun j a => if fre v j = true then nr a (sN v n + sN v j) l else a) m (nr a (sN v n) l))
            by_cases cm : fre v m = true
            · rw [if_pos cm]
              refine bestN_cong (fun x => ?_) (nr_best hl (fun x z => ?_) (bd2 hd (show n < B by omega) (show m < B by omega)) ihm)
              · constructor
                · intro z
                  rcases z with (z | ⟨j, h1, h2, h3⟩) | z
                  · exact .inl z
                  · exact .inr ⟨j, by omega, h2, h3⟩
                  · exact .inr ⟨m, by omega, cm, z⟩
                · intro z
                  rcases z with z | ⟨j, h1, h2, h3⟩
                  · exact .inl (.inl z)
                  · rcases Nat.lt_or_ge j m with y | y
                    · exact .inl (.inr ⟨j, y, h2, h3⟩)
                    · rw [show j = m by omega] at h3
                      exact .inr h3
              · rcases z with (z | z) | ⟨j, h1, h2, h3⟩
                · exact CiN_bd hd (by omega) x z
                · rw [z]
                  exact bd1 hd (by omega)
                · rw [h3]
                  exact bd2 hd (by omega) (by omega)
            · rw [if_neg cm]
              refine bestN_cong (fun x => ?_) ihm
              constructor
              · intro z
                rcases z with z | ⟨j, h1, h2, h3⟩
                · exact .inl z
                · exact .inr ⟨j, by omega, h2, h3⟩
              · intro z
                rcases z with z | ⟨j, h1, h2, h3⟩
                · exact .inl z
                · rcases Nat.lt_or_ge j m with y | y
                  · exact .inr ⟨j, y, h2, h3⟩
                  · rw [show j = m by omega] at h2
                    exact absurd h2 cm
        refine bestN_cong (fun x => ?_) (inner n (Nat.le_refl n))
        constructor
        · intro z
          rcases z with (⟨i, h1, h2, h3⟩ | z) | ⟨j, h1, h2, h3⟩
          · exact ⟨i, by omega, h2, h3⟩
          · exact ⟨n, by omega, c, .inl z⟩
          · exact ⟨n, by omega, c, .inr ⟨j, h1, h2, h3⟩⟩
        · intro z
          obtain ⟨i, h1, h2, h3⟩ := z
          rcases Nat.lt_or_ge i n with y | y
          · exact .inl (.inl ⟨i, y, h2, h3⟩)
          · rw [show i = n by omega] at h3
            rcases h3 with h3 | h3
            · exact .inl (.inr h3)
            · exact .inr h3
      · rw [if_neg c]
        refine bestN_cong (fun x => ?_) ih
        constructor
        · intro z
          obtain ⟨i, h1, h2, h3⟩ := z
          exact ⟨i, by omega, h2, h3⟩
        · intro z
          obtain ⟨i, h1, h2, h3⟩ := z
          rcases Nat.lt_or_ge i n with y | y
          · exact ⟨i, y, h2, h3⟩
          · rw [show i = n by omega] at h2
            exact absurd h2 c
  exact key B (Nat.le_refl B)
/-- sets of one or two free blocks -/
def GdN (v : VS) (B M : Nat) : Prop := Sub v B M ∧ 0 < M ∧ pop M ≤ 2
theorem two_top {M : Nat} (h0 : 0 < M) : ∃ i Q, Q < 2 ^ i ∧ M = Q ||| 2 ^ i := by
  obtain ⟨Q, h1, h2⟩ := top_bit (M := M) (i := M.log2) (Nat.log2_self_le (by omega)) Nat.lt_log2_self
  exact ⟨M.log2, Q, h1, h2⟩
theorem gdN_iff (hB : B ≤ 10) (x : Int32) : (∃ M, M < 1024 ∧ GdN v B M ∧ x = sumM v B M) ↔ CiN v B x := by
  constructor
  · rintro ⟨M, -, ⟨g1, g2, g3⟩, rfl⟩
    obtain ⟨i, Q, hQ, rfl⟩ := two_top g2
    obtain ⟨hiB, hif⟩ := g1 i (by rw [or_bit, if_pos rfl])
    have hQi : Q.testBit i = false := tb_lt hQ
    rw [pop_or (by omega) hQi] at g3
    rw [sumM_or v hiB hQi]
    rcases Nat.eq_zero_or_pos Q with z | z
    · subst z
      exact ⟨i, hiB, hif, .inl (by rw [sumM_0, Int32.zero_add])⟩
    · obtain ⟨j, P, hP, rfl⟩ := two_top z
      have hji : j < i := by
        rcases Nat.lt_or_ge j i with y | y
        · exact y
        · have h2 : 2 ^ i ≤ 2 ^ j := Nat.pow_le_pow_right (by decide) y
          have h3 : P ||| 2 ^ j = P + 2 ^ j := or_add hP
          omega
      have hjb : j < B ∧ fre v j = true := by
        refine g1 j ?_
        rw [or_bit]
        by_cases y : j = i
        · rw [if_pos y]
        · rw [if_neg y, or_bit, if_pos rfl]
      have hPj : P.testBit j = false := tb_lt hP
      rw [pop_or (by omega) hPj] at g3
      have hP0 : P = 0 := pop_z (b := j) hP (by omega) (by omega)
      subst hP0
      rw [sumM_or v hjb.1 hPj, sumM_0, Int32.zero_add]
      exact ⟨i, hiB, hif, .inr ⟨j, hji, hjb.2, Int32.add_comm _ _⟩⟩
  · rintro ⟨i, hiB, hif, hx⟩
    have s0 : Sub v B 0 := fun k hk => by
      rw [Nat.zero_testBit] at hk
      cases hk
    have z0i : (0 : Nat).testBit i = false := Nat.zero_testBit i
    have lt : ∀ M, Sub v B M → M < 1024 := fun M h => Nat.lt_of_lt_of_le (sub_lt h) (Nat.le_trans (Nat.pow_le_pow_right (by decide) hB) (by decide))
    have s1 : ∀ M k, Sub v B M → k < B → fre v k = true → Sub v B (M ||| 2 ^ k) := fun M k h hk hf m hm => by
      rw [or_bit] at hm
      by_cases y : m = k
      · rw [y]
        exact ⟨hk, hf⟩
      · rw [if_neg y] at hm
        exact h m hm
    have pos : ∀ M k, 0 < M ||| 2 ^ k := fun M k => Nat.lt_of_lt_of_le (Nat.two_pow_pos k) Nat.right_le_or
    rcases hx with rfl | ⟨j, hji, hjf, rfl⟩
    · have g := s1 0 i s0 hiB hif
      refine ⟨0 ||| 2 ^ i, lt _ g, ⟨g, pos _ _, ?_⟩, ?_⟩
      · rw [pop_or (by omega) z0i, pop_0]
        omega
      · rw [sumM_or v hiB z0i, sumM_0, Int32.zero_add]
    · have z0j : (0 : Nat).testBit j = false := Nat.zero_testBit j
      have g := s1 0 j s0 (by omega) hjf
      have hij : (0 ||| 2 ^ j).testBit i = false := by
        rw [or_bit, if_neg (by omega)]
        exact z0i
      have g2 := s1 (0 ||| 2 ^ j) i g hiB hif
      refine ⟨(0 ||| 2 ^ j) ||| 2 ^ i, lt _ g2, ⟨g2, pos _ _, ?_⟩, ?_⟩
      · rw [pop_or (by omega) hij, pop_or (by omega) z0j, pop_0]
        omega
      · rw [sumM_or v hiB hij, sumM_or v (show j < B by omega) z0j, sumM_0, Int32.zero_add, Int32.add_comm]
theorem L_near (hN0 : 2097152 ≤ N) (hd : BD B q v) (hB : B ≤ 10) (hg : ∀ b, b < B → gl b = sN v b) (hl : BdN l) : ∃ r, fL_nearest N gl (nI (mkb (fre v) B)) l = some r ∧ BestN (CiN v B) l r := by
  have hF : mkb (fre v) B < 1024 := Nat.lt_of_lt_of_le (mkb_lt _ B) (Nat.le_trans (Nat.pow_le_pow_right (by decide) hB) (by decide))
  have bdM : ∀ M, M < 1024 → GdN v B M → BdN (sumM v B M) := fun M h1 h2 => CiN_bd hd (Nat.le_refl B) _ ((gdN_iff hB _).mp ⟨M, h1, h2, rfl⟩)
  have h1 : ∃ r, lL_nearest_5 N gl (nI (mkb (fre v) B)) l N (-1) (nI 1) = some r ∧ BestN (CiN v B) l r := by
    refine for_ex (α := Int32) (B := 1024) (fun n a i => lL_nearest_5 N gl (nI (mkb (fre v) B)) l n a i)
      (fun i a => 1 ≤ i ∧ BestN (fun x => ∃ M, M < i ∧ GdN v B M ∧ x = sumM v B M) l a) (fun r => BestN (CiN v B) l r)
      (fun n a hI => ⟨a, by rw [lL_nearest_5, if_pos (by decide)], bestN_cong (gdN_iff hB) hI.2⟩)
      (fun n a i hi hI => .inl ?_) 1 (by omega) (by omega) (-1) ⟨by omega, .inl ⟨rfl, fun x z => by obtain ⟨M, m1, m2, -⟩ := z; have := m2.2.1; omega⟩⟩
    obtain ⟨hi1, hI⟩ := hI
    have e1 : (nI i &&& nI (mkb (fre v) B) = nI i) ↔ Sub v B i := by
      rw [fa_and, nI_eq (Nat.lt_of_le_of_lt Nat.and_le_left (by omega)) (by omega)]
      exact and_sub v B i
    have e7 : ((3 : Int32) ≤ nI (pop i)) ↔ ¬ pop i ≤ 2 := by
      have : pop i ≤ 20 := fb_ct_le _ 20
      exact (nI_leI (a := 3) (by decide) (by omega)).trans (by omega)
    have keep : ¬ GdN v B i → (1 ≤ i + 1 ∧ BestN (fun x => ∃ M, M < i + 1 ∧ GdN v B M ∧ x = sumM v B M) l a) := fun hn => by
      refine ⟨by omega, bestN_cong (fun x => ?_) hI⟩
      constructor
      · rintro ⟨M, m1, m2, m3⟩
        exact ⟨M, by omega, m2, m3⟩
      · rintro ⟨M, m1, m2, m3⟩
        rcases Nat.lt_or_ge M i with z | z
        · exact ⟨M, z, m2, m3⟩
        · rw [show M = i by omega] at m2
          exact absurd m2 hn
    rw [lL_nearest_5, if_neg (show ¬ (1024 : Int32) ≤ nI i from nI_ge (b := 1024) hi (by decide))]
    by_cases c1 : Sub v B i
    · rw [if_pos (e1.mpr c1), L_ones hN0 (by omega), bsome]
      by_cases c2 : pop i ≤ 2
      · have gi : GdN v B i := ⟨c1, by omega, c2⟩
        have bi := bdM i hi gi
        have ba : a = -1 ∨ BdN a := by
          rcases hI with ⟨z, -⟩ | ⟨⟨M, m1, m2, m3⟩, -⟩
          · exact .inl z
          · rw [m3]
            exact .inr (bdM M (by omega) m2)
        rw [if_neg (fun z => e7.mp z c2), L_sum hN0 gl (by omega), bsome, sumA_M hg (fun k hk => (c1 k hk).1) hB, L_size, L_size, bsome, bsome, bsome, bsome]
        refine ⟨nrL a (sumM v B i) l, ?_, by omega, ?_⟩
        · show _ = lL_nearest_5 N gl (nI (mkb (fre v) B)) l n (nrL a (sumM v B i) l) (nI i + 1)
          unfold nrL
          by_cases d1 : a = -1
          · rw [if_pos d1, if_pos d1]
          · rw [if_neg d1, if_neg d1]
            by_cases d2 : jabs (sumM v B i - l) < jabs (a - l)
            · rw [if_pos d2, if_pos d2]
            · rw [if_neg d2, if_neg d2]
              by_cases d3 : jabs (sumM v B i - l) = jabs (a - l)
              · rw [if_pos d3, if_pos d3]
                by_cases d4 : a ≤ sumM v B i
                · rw [if_pos d4, if_pos d4]
                · rw [if_neg d4, if_neg d4]
              · rw [if_neg d3, if_neg d3]
        · rw [nrL_nr ba bi hl]
          refine bestN_cong (fun x => ?_) (nr_best hl (fun x z => ?_) bi hI)
          · constructor
            · intro z
              rcases z with ⟨M, m1, m2, m3⟩ | z
              · exact ⟨M, by omega, m2, m3⟩
              · exact ⟨i, by omega, gi, z⟩
            · rintro ⟨M, m1, m2, m3⟩
              rcases Nat.lt_or_ge M i with z | z
              · exact .inl ⟨M, z, m2, m3⟩
              · rw [show M = i by omega] at m3
                exact .inr m3
          · obtain ⟨M, m1, m2, m3⟩ := z
            rw [m3]
            exact bdM M (by omega) m2
      · rw [if_pos (e7.mpr c2)]
        exact ⟨a, rfl, keep (fun g => c2 g.2.2)⟩
    · rw [if_neg (fun z => c1 (e1.mp z))]
      exact ⟨a, rfl, keep (fun g => c1 g.1)⟩
  obtain ⟨r, r1, r2⟩ := h1
  refine ⟨r, ?_, r2⟩
  have r1' : lL_nearest_5 N gl (nI (mkb (fre v) B)) l N (-1) 1 = some r := by exact r1
  unfold fL_nearest
  rw [r1']
  rfl
theorem near_both (hN0 : 2097152 ≤ N) (hB : sB v = nI B) (hd : BD B q v) (hl : B ≤ 10) (hg : ∀ b, b < B → gl b = sN v b) {R : Nat} (h1 : 500 ≤ R) (h2 : R ≤ 600000) : ∃ x, fL_nearest N gl (nI (mkb (fun b => decide (sK v b = -1)) B)) (nI R) = some x ∧ fX4_nearest N v (nI R) = some x := by
  have hb : BdN (nI R) := by
    unfold BdN
    rw [nI_toInt (by omega)]
    omega
  obtain ⟨x, x1, x2⟩ := L_near hN0 hd hl hg hb
  have e : x = rng (fun i a => if fre v i = true then nrIn v (nI R) i a else a) B (-1) := bestN_uniq x2 (c_near hd hb)
  refine ⟨x, x1, ?_⟩
  unfold fX4_nearest
  rw [ccl N h1 h2, bsome, X0_nearestTo hN0 hB (by omega), bsome, e]
end NE
