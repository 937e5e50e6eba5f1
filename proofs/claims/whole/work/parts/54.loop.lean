/-! the law's loop -/
theorem and31 (w : Int32) : ∃ t, t < 32 ∧ w &&& 31 = nI t := by
  refine ⟨(w &&& 31).toBitVec.toNat, ?_, ?_⟩
  · have : (w &&& 31).toBitVec = w.toBitVec &&& 31#32 := rfl
    rw [this, BitVec.toNat_and]
    exact Nat.lt_of_le_of_lt Nat.and_le_right (by decide)
  · exact Int32.toBitVec_inj.mp (by show (w &&& 31).toBitVec = BitVec.ofNat 32 _; simp)
theorem vp_n {i n : Nat} (h : i < n) (hn : n < 2 ^ 31) : vp_in (nI i) n := by
  rintro (q | q)
  · exact absurd (nI_pos' (n := i) (by omega)) (Int32.not_le.mpr q)
  · rw [nI_clamp (by omega)] at q
    omega
theorem past3 {L c : Nat} (hL : L ≤ 1536) (hc : c ≤ 512) (h : ¬ Int32.ofNat L - 3 < nI (3 * c)) : 3 * c + 3 ≤ L := by
  by_cases h3 : 3 ≤ L
  · have e : Int32.ofNat L - 3 = nI (L - 3) := nI_sub (a := L) (b := 3) h3
    rw [e, nI_ltI (by omega) (by omega)] at h
    omega
  · exfalso
    refine h ?_
    rw [fa_lt, nI_toInt (by omega)]
    rcases (show L = 0 ∨ L = 1 ∨ L = 2 by omega) with rfl | rfl | rfl
    · rw [show (Int32.ofNat 0 - 3).toInt = -3 by decide +kernel]; omega
    · rw [show (Int32.ofNat 1 - 3).toInt = -2 by decide +kernel]; omega
    · rw [show (Int32.ofNat 2 - 3).toInt = -1 by decide +kernel]; omega
set_option maxRecDepth 100000 in
set_option maxHeartbeats 4000000 in
theorem law_loop {k : Kt} {nm : String} (C : gC k cL_law 9 RL wsL_law room_1 nm) {b L : Nat} {xs : Nat → Int32} (X : LX k b L xs) (hL : L ≤ 1536) {rG rV rN rL : Nat} {aS aT aM : Nat → Nat} (RET : ∀ (ws : va_W) (lv : List (Nat × Value)) (cs sl : Nat), cs ≤ 601024 → sl ≤ 7293034 → gG k ws lv cs sl 1817 []) :
    ∀ (n c : Nat), c + n = 512 → ∀ (aV a0 a1 : Nat → Nat) (v : VS) (z : VV) (tx : VT) (n0 n1 : Option VS) (m : VM) (g : Nat → Int64), SM (400 * c) v z tx n0 n1 m → gG k (wAll (kD k) rG rV rN rL aS aT aM aV a0 a1 v z tx n0 n1 m g) (lvW b rG rL aM (nI (3 * c))) (100 + 10 * c) (3000 + 163 * c) 23 [] := by
  intro n
  induction n with
  | zero =>
    intro c hc aV a0 a1 v z tx n0 n1 m g h
    refine g_iload (pc := 23) (x := nI (3 * c)) C dL_law_23 rfl ?_
    refine g_aload_n (pc := 25) (x := b) C dL_law_25 rfl ?_
    refine g_xlen (pc := 26) C X dL_law_26 ?_
    refine g_iconst (pc := 27) (v := 3) C dL_law_27 (by decide) ?_
    refine g_isub (pc := 28) C dL_law_28 ?_
    refine g_icmpgtC (pc := 29) (tgt := 1817) C dL_law_29 (by decide) (fun _ => RET _ _ _ _ (by omega) (by omega)) (fun hq => ?_)
    have := past3 hL (by omega) hq
    omega
  | succ n ih =>
    intro c hc aV a0 a1 v z tx n0 n1 m g h
    refine g_iload (pc := 23) (x := nI (3 * c)) C dL_law_23 rfl ?_
    refine g_aload_n (pc := 25) (x := b) C dL_law_25 rfl ?_
    refine g_xlen (pc := 26) C X dL_law_26 ?_
    refine g_iconst (pc := 27) (v := 3) C dL_law_27 (by decide) ?_
    refine g_isub (pc := 28) C dL_law_28 ?_
    refine g_icmpgtC (pc := 29) (tgt := 1817) C dL_law_29 (by decide) (fun _ => RET _ _ _ _ (by omega) (by omega)) (fun hq => ?_)
    have hlt := past3 hL (by omega) hq
    have K : KK k b rG rV rN rL aS aT aM (400 * c + 400) (nI (3 * c)) (100 + 10 * c + 10) (3000 + 163 * c + 163) := by
      intro aV a0 a1 v z tx n0 n1 m g hs
      refine g_iinc (pc := 1811) (x := nI (3 * c)) (v := nI (3 * (c + 1))) (lv' := lvW b rG rL aM (nI (3 * (c + 1)))) C dL_law_1811 rfl (nI_add (3 * c) 3) (by decide) rfl ?_
      refine g_goto (pc := 1814) (tgt := 23) C dL_law_1814 (by decide) ?_
      have e := ih (c + 1) (by omega) aV a0 a1 v z tx n0 n1 m g hs
      rw [show 100 + 10 * (c + 1) = 100 + 10 * c + 10 by omega, show 3000 + 163 * (c + 1) = 3000 + 163 * c + 163 by omega] at e
      exact e
    have h1 : vp_in (nI (3 * c) + 1) L := by
      rw [show nI (3 * c) + 1 = nI (3 * c + 1) from nI_add (3 * c) 1]
      exact vp_n (by omega) (by omega)
    have h2 : vp_in (nI (3 * c) + 2) L := by
      rw [show nI (3 * c) + 2 = nI (3 * c + 2) from nI_add (3 * c) 2]
      exact vp_n (by omega) (by omega)
    have hcs : 100 + 10 * c + 10 ≤ room_1.cells := by show 100 + 10 * c + 10 ≤ 601024; omega
    have hsl : 3000 + 163 * c + 163 ≤ room_1.slots := by show 3000 + 163 * c + 163 ≤ 7293034; omega
    refine g_aload_n (pc := 32) (x := b) C dL_law_32 rfl ?_
    refine g_iload (pc := 33) (x := nI (3 * c)) C dL_law_33 rfl ?_
    refine g_xld (pc := 35) C X (vp_n (by omega) (by omega)) rfl dL_law_35 ?_
    refine g_bipush (pc := 36) (v := 31) C dL_law_36 (by decide) ?_
    refine g_iand (pc := 38) C dL_law_38 ?_
    obtain ⟨t, ht, e⟩ := and31 (xs (nI (3 * c)).toNatClampNeg)
    rw [e]
    have hN0 : 2097152 ≤ 2097152 := Nat.le_refl _
    rcases (show t = 0 ∨ t = 1 ∨ t = 2 ∨ t = 3 ∨ t = 4 ∨ t = 5 ∨ t = 6 ∨ t = 7 ∨ t = 8 ∨ t = 9 ∨ t = 10 ∨ t = 11 ∨ t = 12 ∨ t = 13 ∨ t = 14 ∨ t = 15 ∨ t = 16 ∨ t = 17 ∨ t = 18 ∨ t = 19 ∨ t = 20 ∨ t = 21 ∨ t = 22 ∨ t = 23 ∨ t = 24 ∨ t = 25 ∨ t = 26 ∨ t = 27 ∨ t = 28 ∨ 29 ≤ t by omega) with rfl | rfl | rfl | rfl | rfl | rfl | rfl | rfl | rfl | rfl | rfl | rfl | rfl | rfl | rfl | rfl | rfl | rfl | rfl | rfl | rfl | rfl | rfl | rfl | rfl | rfl | rfl | rfl | rfl | hd
    · refine g_tsw (pc := 39) (y := nI 0) (off := 129) (tgt := 168) C dL_law_39 rfl (by decide) (by decide) (by decide +kernel) (by decide) ?_
      exact op_block C X hN0 (by omega) h h1 h2 hcs hsl K
    · refine g_tsw (pc := 39) (y := nI 1) (off := 197) (tgt := 236) C dL_law_39 rfl (by decide) (by decide) (by decide +kernel) (by decide) ?_
      exact op_discard C X hN0 (by omega) h h1 h2 hcs hsl K
    · refine g_tsw (pc := 39) (y := nI 2) (off := 253) (tgt := 292) C dL_law_39 rfl (by decide) (by decide) (by decide +kernel) (by decide) ?_
      exact op_calibrate C X hN0 (by omega) h h1 h2 hcs hsl K
    · refine g_tsw (pc := 39) (y := nI 3) (off := 309) (tgt := 348) C dL_law_39 rfl (by decide) (by decide) (by decide +kernel) (by decide) ?_
      exact op_hold C X hN0 (by omega) h h1 h2 hcs hsl K
    · refine g_tsw (pc := 39) (y := nI 4) (off := 377) (tgt := 416) C dL_law_39 rfl (by decide) (by decide) (by decide +kernel) (by decide) ?_
      exact op_rest C X hN0 (by omega) h h1 h2 hcs hsl K
    · refine g_tsw (pc := 39) (y := nI 5) (off := 433) (tgt := 472) C dL_law_39 rfl (by decide) (by decide) (by decide +kernel) (by decide) ?_
      exact op_set C X hN0 (by omega) h h1 h2 hcs hsl K
    · refine g_tsw (pc := 39) (y := nI 6) (off := 501) (tgt := 540) C dL_law_39 rfl (by decide) (by decide) (by decide +kernel) (by decide) ?_
      exact op_wring C X hN0 (by omega) h h1 h2 hcs hsl K
    · refine g_tsw (pc := 39) (y := nI 7) (off := 569) (tgt := 608) C dL_law_39 rfl (by decide) (by decide) (by decide +kernel) (by decide) ?_
      exact op_takeOff C X hN0 (by omega) h h1 h2 hcs hsl K
    · refine g_tsw (pc := 39) (y := nI 8) (off := 625) (tgt := 664) C dL_law_39 rfl (by decide) (by decide) (by decide +kernel) (by decide) ?_
      exact op_make C X hN0 (by omega) h h1 h2 hcs hsl K
    · refine g_tsw (pc := 39) (y := nI 9) (off := 693) (tgt := 732) C dL_law_39 rfl (by decide) (by decide) (by decide +kernel) (by decide) ?_
      exact op_append C X hN0 (by omega) h h1 h2 hcs hsl K
    · refine g_tsw (pc := 39) (y := nI 10) (off := 749) (tgt := 788) C dL_law_39 rfl (by decide) (by decide) (by decide +kernel) (by decide) ?_
      exact op_clearBuffer C X hN0 (by omega) h h1 h2 hcs hsl K
    · refine g_tsw (pc := 39) (y := nI 11) (off := 762) (tgt := 801) C dL_law_39 rfl (by decide) (by decide) (by decide +kernel) (by decide) ?_
      exact op_firstError C X hN0 (by omega) h h1 h2 hcs hsl K
    · refine g_tsw (pc := 39) (y := nI 12) (off := 775) (tgt := 814) C dL_law_39 rfl (by decide) (by decide) (by decide +kernel) (by decide) ?_
      exact op_execute C X hN0 (by omega) h h1 h2 hcs hsl K
    · refine g_tsw (pc := 39) (y := nI 13) (off := 819) (tgt := 858) C dL_law_39 rfl (by decide) (by decide) (by decide +kernel) (by decide) ?_
      exact op_undo C X hN0 (by omega) h h1 h2 hcs hsl K
    · refine g_tsw (pc := 39) (y := nI 14) (off := 863) (tgt := 902) C dL_law_39 rfl (by decide) (by decide) (by decide +kernel) (by decide) ?_
      by_cases hp0 : xs (nI (3 * c) + 1).toNatClampNeg = 0
      · exact op_keep0 C X hN0 (by omega) h h1 h2 hp0 hcs hsl K
      · exact op_keep1 C X hN0 (by omega) h h1 h2 hp0 hcs hsl K
    · refine g_tsw (pc := 39) (y := nI 15) (off := 919) (tgt := 958) C dL_law_39 rfl (by decide) (by decide) (by decide +kernel) (by decide) ?_
      by_cases hp0 : xs (nI (3 * c) + 1).toNatClampNeg = 0
      · exact op_goBack0 C X hN0 (by omega) h h1 h2 hp0 hcs hsl K
      · exact op_goBack1 C X hN0 (by omega) h h1 h2 hp0 hcs hsl K
    · refine g_tsw (pc := 39) (y := nI 16) (off := 975) (tgt := 1014) C dL_law_39 rfl (by decide) (by decide) (by decide +kernel) (by decide) ?_
      exact op_blockOf C X hN0 (by omega) h h1 h2 hcs hsl K
    · refine g_tsw (pc := 39) (y := nI 17) (off := 1043) (tgt := 1082) C dL_law_39 rfl (by decide) (by decide) (by decide +kernel) (by decide) ?_
      exact op_stackOf C X hN0 (by omega) h h1 h2 hcs hsl K
    · refine g_tsw (pc := 39) (y := nI 18) (off := 1111) (tgt := 1150) C dL_law_39 rfl (by decide) (by decide) (by decide +kernel) (by decide) ?_
      exact op_ranked C X hN0 (by omega) h h1 h2 hcs hsl K
    · refine g_tsw (pc := 39) (y := nI 19) (off := 1179) (tgt := 1218) C dL_law_39 rfl (by decide) (by decide) (by decide +kernel) (by decide) ?_
      exact op_lengths C X hN0 (by omega) h h1 h2 hcs hsl K
    · refine g_tsw (pc := 39) (y := nI 20) (off := 1235) (tgt := 1274) C dL_law_39 rfl (by decide) (by decide) (by decide +kernel) (by decide) ?_
      exact op_count C X hN0 (by omega) h h1 h2 hcs hsl K
    · refine g_tsw (pc := 39) (y := nI 21) (off := 1291) (tgt := 1330) C dL_law_39 rfl (by decide) (by decide) (by decide +kernel) (by decide) ?_
      exact op_setting C X hN0 (by omega) h h1 h2 hcs hsl K
    · refine g_tsw (pc := 39) (y := nI 22) (off := 1347) (tgt := 1386) C dL_law_39 rfl (by decide) (by decide) (by decide +kernel) (by decide) ?_
      exact op_refusal C X hN0 (by omega) h h1 h2 hcs hsl K
    · refine g_tsw (pc := 39) (y := nI 23) (off := 1415) (tgt := 1454) C dL_law_39 rfl (by decide) (by decide) (by decide +kernel) (by decide) ?_
      exact op_fewest C X hN0 (by omega) h h1 h2 hcs hsl K
    · refine g_tsw (pc := 39) (y := nI 24) (off := 1483) (tgt := 1522) C dL_law_39 rfl (by decide) (by decide) (by decide +kernel) (by decide) ?_
      exact op_oldWay C X hN0 (by omega) h h1 h2 hcs hsl K
    · refine g_tsw (pc := 39) (y := nI 25) (off := 1551) (tgt := 1590) C dL_law_39 rfl (by decide) (by decide) (by decide +kernel) (by decide) ?_
      exact op_nearest C X hN0 (by omega) h h1 h2 hcs hsl K
    · refine g_tsw (pc := 39) (y := nI 26) (off := 1607) (tgt := 1646) C dL_law_39 rfl (by decide) (by decide) (by decide +kernel) (by decide) ?_
      exact op_coolIn C X hN0 (by omega) h h1 h2 hcs hsl K
    · refine g_tsw (pc := 39) (y := nI 27) (off := 1663) (tgt := 1702) C dL_law_39 rfl (by decide) (by decide) (by decide +kernel) (by decide) ?_
      exact op_lengthIn C X hN0 (by omega) h h1 h2 hcs hsl K
    · refine g_tsw (pc := 39) (y := nI 28) (off := 1731) (tgt := 1770) C dL_law_39 rfl (by decide) (by decide) (by decide +kernel) (by decide) ?_
      exact op_meanError C X hN0 (by omega) h h1 h2 hcs hsl K
    · refine g_tswd (pc := 39) (tgt := 1811) C dL_law_39 (.inr ?_) (by decide) (K aV a0 a1 v z tx n0 n1 m g (h.mono (by omega)) |> g_widen (by omega) (by omega))
      rw [nI_toInt (by omega)]
      omega
