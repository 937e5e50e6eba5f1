/-! the law's remaining calls: execute, keep, goBack, the text's two, the mean error -/
theorem PH.mono {D : va_G} {o : Nat} {g : Nat → Int64} {cl : List (String × Int32)} {PC PC' : Option Value → va_W → Prop} {PX : String → va_W → Prop} {rv : Option Value} {w : va_W} (hp : PH D o g cl PC PX rv w) (h : ∀ rv w, PC rv w → PC' rv w) : PH D o g cl PC' PX rv w := by
  rcases hp with ⟨x, w1, h1, h2⟩ | h2
  · exact .inl ⟨x, w1, h _ _ h1, h2⟩
  · exact .inr h2
theorem PH_outE {α : Type} {D : va_G} {o : Nat} {g : Nat → Int64} {r : (Nat × VT) ⊕ α} {pv : α → Int32} {PW : α → va_W → Prop} {PE : VT → va_W → Prop} {rv : Option Value} {w : va_W} {m' : VM} {y : Int32} {SMy : α → Prop} {SMe : VT → Prop}
    (hr : (∃ t, r = .inl (1, t) ∧ mThr m' = nI 1 ∧ SMe t) ∨ ∃ a, r = .inr a ∧ pv a = y ∧ mThr m' = 0 ∧ SMy a)
    (hp : PH D o g csL_execute (fun rv w => ∃ a, r = .inr a ∧ rv = some (.int (pv a)) ∧ PW a w) (fun X w => ∃ e, r = .inl e ∧ X = xnm e.1 ∧ PE e.2 w) rv w) :
    ∃ (j : Int32) (g' : Nat → Int64) (w1 : va_W), rv = some (.int j) ∧ w = wL D o g' ++ w1 ∧ mThr m' = j ∧ (j = 0 → g' (Int32.toNatClampNeg 0) = y.toInt64) ∧ ((∃ t, PE t w1 ∧ SMe t) ∨ ∃ a, PW a w1 ∧ SMy a) := by
  rcases hr with ⟨t, rfl, ht, hs⟩ | ⟨a, rfl, ha, ht, hs⟩
  · rcases hp with ⟨x, w1, ⟨a, h, -⟩, -⟩ | ⟨X, w1, j, ⟨e2, h1, h2, h3⟩, h4, h5, h6⟩
    · cases h
    · cases h1
      have h8 : j = 1 := congrArg Prod.snd (List.mem_singleton.mp h4)
      exact ⟨j, g, w1, h5, h6, by rw [ht, h8]; rfl, fun q => by rw [h8] at q; exact absurd q (by decide), .inl ⟨t, h3, hs⟩⟩
  · rcases hp with ⟨x, w1, ⟨a2, h1, h2, h3⟩, h4, h5⟩ | ⟨X, w1, j, ⟨e2, h1, -⟩, -⟩
    · cases h1
      have h6 : x = pv a := by
        injection h2 with h2
        injection h2
      exact ⟨0, _, w1, h4, h5, ht, fun _ => by rw [updL_0, h6, ha], .inr ⟨a, h3, hs⟩⟩
    · cases h1
theorem RsE.out {q q2 : Nat} {v : VS} {z : VV} {tx : VT} {n0 n1 : Option VS} {X : Option ((Nat × VT) ⊕ (VS × VT × VV × Int32))} {Y : Option (VM × Int32)} (h : RsE q q2 v z tx n0 n1 X Y) : ∃ r m' y, X = some r ∧ Y = some (m', y) ∧ ((∃ t, r = .inl (1, t) ∧ mThr m' = nI 1 ∧ (fun t : VT => SM q v z t n0 n1 m') t) ∨ ∃ a, r = .inr a ∧ (fun b : VS × VT × VV × Int32 => b.2.2.2) a = y ∧ mThr m' = 0 ∧ (fun b : VS × VT × VV × Int32 => SM q2 b.1 b.2.2.1 b.2.1 n0 n1 m') a) := by
  rcases h with ⟨t, m', b, h2, h3, h4, h5⟩ | ⟨v', t, z', x, m', h1, h2, h3, h4⟩
  · exact ⟨_, m', b, h2, h3, .inl ⟨t, rfl, h4, h5⟩⟩
  · exact ⟨_, m', x, h1, h2, .inr ⟨_, rfl, rfl, h3, h4⟩⟩
set_option maxRecDepth 100000 in
set_option maxHeartbeats 4000000 in
theorem op_execute {k : Kt} {nm : String} (C : gC k cL_law 9 RL wsL_law room_1 nm) {b L : Nat} {xs : Nat → Int32} (X : LX k b L xs) {N : Nat} (hN0 : 2097152 ≤ N) {rG rV rN rL : Nat} {aS aT aM aV a0 a1 : Nat → Nat} {v : VS} {z : VV} {tx : VT} {n0 n1 : Option VS} {m : VM} {g : Nat → Int64} {q : Nat} (hq : q ≤ 800000) (h : SM q v z tx n0 n1 m) {i : Int32} (h1 : vp_in (i + 1) L) (h2 : vp_in (i + 2) L) {cs sl : Nat} (hcs : cs + 10 ≤ room_1.cells) (hsl : sl + 163 ≤ room_1.slots) (K : KK k b rG rV rN rL aS aT aM (q + 400) i (cs + 10) (sl + 163)) : gG k (wAll (kD k) rG rV rN rL aS aT aM aV a0 a1 v z tx n0 n1 m g) (lvW b rG rL aM i) cs sl 814 [] := by
  obtain ⟨p1, e1⟩ : ∃ p1, xs (i + 1).toNatClampNeg = p1 := ⟨_, rfl⟩
  obtain ⟨p2, e2⟩ : ∃ p2, xs (i + 2).toNatClampNeg = p2 := ⟨_, rfl⟩
  unfold wAll lvW
  obtain ⟨r, m2, y, hX, hY, hr⟩ := (sim_execute hN0 hq h).out
  refine g_aload_n (pc := 814) (x := rG) C dL_law_814 rfl ?_
  refine g_aload_n (pc := 815) (x := rL) C dL_law_815 rfl ?_
  refine g_callM (pc := 816) (wr := (wN (kD k) rN (fN a0 a1 n0 n1) ++ (wO (kD k) a0 n0 ++ (wO (kD k) a1 n1 ++ wM (kD k) aM m)))) (rest := []) C ((pmc (pmc (pmc (pm0 (List.Perm.refl _))))).trans as5) (cL_execute_ (kL k) C.tr (kD k) rG rL g _ _ (wG (kD k) rG (aS 0) rV rN (aT 0) ++ (wS (kD k) aS v ++ (wT (kD k) aT tx ++ wV (kD k) rV aV z))) rfl _ _ (cX4_execute_ (kL k) C.tr (kD k) N rG rN aS aT rV aV v tx z r hX) (fun rv w h => by
      obtain ⟨a, -, e, -⟩ := h
      exact ⟨_, e⟩) (fun X w h => by
      obtain ⟨e, h1, h2, -⟩ := h
      rcases hr with ⟨t, rfl, -⟩ | ⟨a, rfl, -⟩
      · cases h1
        exact h2
      · cases h1)) (fun ht => vx_cwSW 2 ht gL_law_L_execute rfl rfl rfl hsL_execute ⟨(Nat.le_of_ble_eq_true rfl), (Nat.le_of_ble_eq_true rfl)⟩) rfl rfl (Nat.le_of_ble_eq_true rfl) dL_law_816 ⟨by show cs + 1 ≤ _; omega, by show sl + 6 ≤ _; omega⟩ (fun rv w1 hp => ?_)
  obtain ⟨j, g2, w2, rfl, rfl, hj, h0, hw⟩ := PH_outE (pv := fun b : VS × VT × VV × Int32 => b.2.2.2) (PW := fun (b : VS × VT × VV × Int32) (w : va_W) => ∃ a : Nat → Nat, w = (wG (kD k) rG (aS 0) rV rN (aT 0) ++ (wS (kD k) aS b.1 ++ (wT (kD k) aT b.2.1 ++ wV (kD k) rV a b.2.2.1)))) (PE := fun (t : VT) (w : va_W) => w = (wG (kD k) rG (aS 0) rV rN (aT 0) ++ (wS (kD k) aS v ++ (wT (kD k) aT t ++ wV (kD k) rV aV z)))) hr hp
  obtain ⟨v2, z2, t2, aV2, rfl, hs⟩ : ∃ v2 z2 t2 aV2, w2 = (wG (kD k) rG (aS 0) rV rN (aT 0) ++ (wS (kD k) aS v2 ++ (wT (kD k) aT t2 ++ wV (kD k) rV aV2 z2))) ∧ SM (q + 400) v2 z2 t2 n0 n1 m2 := by
    rcases hw with ⟨t, rfl, hs⟩ | ⟨a, ⟨aV2, rfl⟩, hs⟩
    · exact ⟨_, _, _, _, rfl, hs.mono (by omega)⟩
    · exact ⟨_, _, _, _, rfl, hs.mono (by omega)⟩
  refine g_Perm as5.symm ?_
  refine g_stack (st' := [.int j]) rfl ?_
  refine g_istore (pc := 819) (lv' := [(5, .int j), (4, .int i), (3, .ref rL), (2, .ref (aM 0)), (1, .ref rG), (0, .ref b)]) C dL_law_819 (by decide) rfl ?_
  refine g_aload_n (pc := 821) (x := aM 0) C dL_law_821 rfl ?_
  refine g_callV (pc := 822) (wc := wM (kD k) aM m) (wr := (wL (kD k) rL g2 ++ (wG (kD k) rG (aS 0) rV rN (aT 0) ++ (wS (kD k) aS v2 ++ (wT (kD k) aT t2 ++ (wV (kD k) rV aV2 z2 ++ (wN (kD k) rN (fN a0 a1 n0 n1) ++ (wO (kD k) a0 n0 ++ wO (kD k) a1 n1)))))))) C (pm0 (pm0 (pm0 (pm0 (pm0 (pm0 (pm0 pmL))))))) (gr_V (y := yX5_execute) (As := []) (rest := []) C (cX5_execute_ (kL k) C.tr (kD k) N aM m  (m2, y) hY) (fun ht => cwV 0 ht gL_law_X5_execute rfl rfl rfl hdX5_execute ⟨(Nat.le_of_ble_eq_true rfl), (Nat.le_of_ble_eq_true rfl)⟩) 0 rfl rfl _ (rg_map _ _) (rg_nd _) rfl rfl (Nat.le_of_ble_eq_true rfl) dL_law_822 ⟨by show cs + 1 + 0 ≤ _; omega, by show sl + 6 + 0 ≤ _; omega⟩) (fun rv w1 hp => ?_)
  obtain ⟨rfl, rfl⟩ := hp
  refine g_stack (st' := [.int y]) rfl ?_
  refine g_istore (pc := 825) (lv' := [(6, .int y), (5, .int j), (4, .int i), (3, .ref rL), (2, .ref (aM 0)), (1, .ref rG), (0, .ref b)]) C dL_law_825 (by decide) rfl ?_
  refine g_aload_n (pc := 827) (x := aM 0) C dL_law_827 rfl ?_
  refine g_callV (pc := 828) (wc := wM (kD k) aM m2) (wr := (wL (kD k) rL g2 ++ (wG (kD k) rG (aS 0) rV rN (aT 0) ++ (wS (kD k) aS v2 ++ (wT (kD k) aT t2 ++ (wV (kD k) rV aV2 z2 ++ (wN (kD k) rN (fN a0 a1 n0 n1) ++ (wO (kD k) a0 n0 ++ wO (kD k) a1 n1)))))))) C (List.Perm.refl _) (gr_V (y := yX5_thrown) (As := []) (rest := []) C (cX5_thrown_ (kL k) C.tr (kD k) N aM m2 (mThr m2) rfl) (fun ht => cwV 0 ht gL_law_X5_thrown rfl rfl rfl hdX5_thrown ⟨(Nat.le_of_ble_eq_true rfl), (Nat.le_of_ble_eq_true rfl)⟩) 0 rfl rfl _ (rg_map _ _) (rg_nd _) rfl rfl (Nat.le_of_ble_eq_true rfl) dL_law_828 ⟨by show cs + 1 + 0 + 0 ≤ _; omega, by show sl + 6 + 0 + 0 ≤ _; omega⟩) (fun rv w1 hp => ?_)
  obtain ⟨rfl, rfl⟩ := hp
  refine g_stack (st' := [.int (mThr m2)]) rfl ?_
  refine g_iload (pc := 831) (x := j) C dL_law_831 rfl ?_
  refine g_icmpeqC (pc := 833) (tgt := 838) C hj dL_law_833 (by decide) ?_
  have END : gG k (wM (kD k) aM m2 ++ (wL (kD k) rL g2 ++ (wG (kD k) rG (aS 0) rV rN (aT 0) ++ (wS (kD k) aS v2 ++ (wT (kD k) aT t2 ++ (wV (kD k) rV aV2 z2 ++ (wN (kD k) rN (fN a0 a1 n0 n1) ++ (wO (kD k) a0 n0 ++ wO (kD k) a1 n1)))))))) [(6, .int y), (5, .int j), (4, .int i), (3, .ref rL), (2, .ref (aM 0)), (1, .ref rG), (0, .ref b)] (cs + 1 + 0 + 0) (sl + 6 + 0 + 0) 855 [] := by
    refine g_goto (pc := 855) (tgt := 1811) C dL_law_855 (by decide) ?_
    refine g_lv [2, 3, 4, 5, 6] (lv' := lvW b rG rL aM i) rfl ?_
    refine g_widen (c2 := cs + 10) (s2 := sl + 163) (by omega) (by omega) ?_
    exact g_Perm ((pm0 (List.Perm.refl _)).trans (pmc ((pm0 (List.Perm.refl _)).trans (pmc ((pm0 (List.Perm.refl _)).trans (pmc ((pm0 (pm0 (List.Perm.refl _))).trans (pmc ((pm0 (List.Perm.refl _)).trans (pmc ((pm0 (List.Perm.refl _)).trans (pmc ((pm0 (List.Perm.refl _)).trans (pmc pmL)))))))))))))) (K aV2 a0 a1 v2 z2 t2 n0 n1 m2 g2 hs)
  refine g_iload (pc := 838) (x := j) C dL_law_838 rfl ?_
  refine g_ifneC (pc := 840) (tgt := 855) C dL_law_840 (by decide) (fun _ => END) (fun hj0 => ?_)
  refine g_aload_n (pc := 843) (x := rL) C dL_law_843 rfl ?_
  refine g_iconst (pc := 844) (v := 0) C dL_law_844 (by decide) ?_
  refine g_lald (pc := 845) (X := some ()) (r := ()) (n := 1) (f := g2) rfl C 10 rfl dL_law_845 (fun _ => ?_)
  refine g_iload (pc := 846) (x := y) C dL_law_846 rfl ?_
  refine g_i2l (pc := 848) C dL_law_848 ?_
  refine g_lcmp0 (pc := 849) C (h0 hj0) dL_law_849 ?_
  exact g_ifeqC (pc := 850) (tgt := 855) C dL_law_850 (by decide) (fun _ => END) (fun hz => absurd rfl hz)
theorem keep_0 (N : Nat) (v : VS) (n0 n1 : Option VS) : fX4_keep N v n0 n1 0 = some (.inr (some (cpy (n0.getD iS) v), n1, sB v)) ∧ fX4_keepIn N v n0 0 = some (.inr (cpy (n0.getD iS) v)) := by
  unfold fX4_keep fX4_keepIn
  rw [cr, bsome, if_pos (show (0 : Int32) ≤ 0 ∧ (0 : Int32) ≤ 1 by decide), ser, if_pos rfl, X3_copyFrom, bsome, bsome, ser]
  exact ⟨rfl, rfl⟩
theorem keep_1 (N : Nat) (v : VS) (n0 n1 : Option VS) : fX4_keep N v n0 n1 1 = some (.inr (n0, some (cpy (n1.getD iS) v), sB v)) ∧ fX4_keepIn N v n1 1 = some (.inr (cpy (n1.getD iS) v)) := by
  unfold fX4_keep fX4_keepIn
  rw [cr, bsome, if_pos (show (0 : Int32) ≤ 1 ∧ (1 : Int32) ≤ 1 by decide), ser, if_neg (show ¬ (1 : Int32) = 0 by decide), X3_copyFrom, bsome, bsome, ser]
  exact ⟨rfl, rfl⟩
theorem keep_x (N : Nat) (v : VS) (n0 n1 s : Option VS) {p : Int32} (hp : ¬ (0 ≤ p ∧ p ≤ 1)) : fX4_keep N v n0 n1 p = some (.inl 1) ∧ fX4_keepIn N v s p = some (.inl 1) := by
  unfold fX4_keep fX4_keepIn
  rw [cr, bsome, if_neg hp, sel, bsome, sel]
  exact ⟨rfl, rfl⟩
theorem rg01 {p : Int32} (h : 0 ≤ p ∧ p ≤ 1) : p = 0 ∨ p = 1 := by
  obtain ⟨j, hj, rfl⟩ := rg8 (a := 1) rfl (by decide) h
  rcases (show j = 0 ∨ j = 1 by omega) with rfl | rfl
  · exact .inl rfl
  · exact .inr rfl
theorem vp_01 {p : Int32} (h : vp_in p 2) : p = 0 ∨ p = 1 := by
  refine rg01 ⟨Int32.not_lt.mp (fun q => h (.inl q)), ?_⟩
  refine Int32.not_lt.mp (fun q => h (.inr ?_))
  have h1 : ¬ p < 0 := fun q => h (.inl q)
  rw [fa_lt] at q h1
  rw [show (1 : Int32).toInt = 1 by decide +kernel] at q
  show 2 ≤ p.toInt.toNat
  omega
theorem fN_0 (a0 a1 a : Nat → Nat) (n0 n1 : Option VS) (c : VS) : va_up (fN a0 a1 n0 n1) (Int32.toNatClampNeg 0) (some (a 0)) = fN a a1 (some c) n1 := by
  funext i
  simp only [va_up, fN, show Int32.toNatClampNeg 0 = 0 by decide +kernel]
  by_cases h : i = 0
  · rw [if_pos h, if_pos h]; rfl
  · rw [if_neg h, if_neg h, if_neg h]
theorem fN_1 (a0 a1 a : Nat → Nat) (n0 n1 : Option VS) (c : VS) : va_up (fN a0 a1 n0 n1) (Int32.toNatClampNeg 1) (some (a 0)) = fN a0 a n0 (some c) := by
  funext i
  simp only [va_up, fN, show Int32.toNatClampNeg 1 = 1 by decide +kernel]
  by_cases h : i = 1
  · subst h; rfl
  · rw [if_neg h, if_neg h, if_neg h]
theorem fN_at0 (a0 a1 : Nat → Nat) (n0 n1 : Option VS) : fN a0 a1 n0 n1 (Int32.toNatClampNeg 0) = n0.map (fun _ => a0 0) := by
  rw [show Int32.toNatClampNeg 0 = 0 by decide +kernel]; rfl
theorem fN_at1 (a0 a1 : Nat → Nat) (n0 n1 : Option VS) : fN a0 a1 n0 n1 (Int32.toNatClampNeg 1) = n1.map (fun _ => a1 0) := by
  rw [show Int32.toNatClampNeg 1 = 1 by decide +kernel]; rfl
theorem vp_i0 : vp_in 0 2 := fun q => q.elim (fun q => absurd q (by decide)) (fun q => absurd q (by decide +kernel))
theorem vp_i1 : vp_in 1 2 := fun q => q.elim (fun q => absurd q (by decide)) (fun q => absurd q (by decide +kernel))
theorem ok_keep : okC [(1, 1)] csL_keep := by decide +kernel
/-- keep, at the slot that is looked at -/
theorem keep_out {N q : Nat} {v : VS} {z : VV} {tx : VT} {n0 n1 : Option VS} {m : VM} {p : Int32} (hN0 : 2097152 ≤ N) (h : SM q v z tx n0 n1 m) : ∃ r m' y, fX4_keepIn N v (if p = 0 then n0 else n1) p = some r ∧ fX5_keep N m p = some (m', y) ∧ ((∃ e kc, (e, kc) ∈ [(1, 1)] ∧ r = .inl e ∧ mThr m' = nI kc ∧ SM q v z tx n0 n1 m') ∨ ∃ c, r = .inr c ∧ (fun _ : VS => sB v) c = y ∧ mThr m' = 0 ∧ (fun c : VS => vp_in p 2 ∧ SM q v z tx (if p = 0 then some c else n0) (if p = 0 then n1 else some c) m') c) := by
  have hs := sim_keep hN0 h p
  by_cases hp : 0 ≤ p ∧ p ≤ 1
  · rcases rg01 hp with rfl | rfl
    · obtain ⟨k1, k2⟩ := keep_0 N v n0 n1
      rcases hs with ⟨m', b, h2, -⟩ | ⟨a0, a1, x, m', h2, h3, h4, h5⟩
      · rw [k1] at h2; cases h2
      · rw [k1] at h2
        cases h2
        exact ⟨_, m', _, k2, h3, .inr ⟨_, rfl, rfl, h4, vp_i0, h5⟩⟩
    · obtain ⟨k1, k2⟩ := keep_1 N v n0 n1
      rcases hs with ⟨m', b, h2, -⟩ | ⟨a0, a1, x, m', h2, h3, h4, h5⟩
      · rw [k1] at h2; cases h2
      · rw [k1] at h2
        cases h2
        exact ⟨_, m', _, k2, h3, .inr ⟨_, rfl, rfl, h4, vp_i1, h5⟩⟩
  · obtain ⟨k1, k2⟩ := keep_x N v n0 n1 (if p = 0 then n0 else n1) hp
    rcases hs with ⟨m', b, h2, h3, h4, h5⟩ | ⟨a0, a1, x, m', h2, -⟩
    · exact ⟨_, m', b, k2, h3, .inl ⟨1, 1, List.mem_singleton.mpr rfl, rfl, h4, h5⟩⟩
    · rw [k1] at h2; cases h2
theorem ok_goBack : okC [(1, 1), (2, 2)] csL_goBack := by decide +kernel
theorem goBack_out {N q : Nat} {v : VS} {z : VV} {tx : VT} {n0 n1 : Option VS} {m : VM} {p : Int32} (hN0 : 2097152 ≤ N) (h : SM q v z tx n0 n1 m) : ∃ r m' y, fX4_goBackTo N v z (if p = 0 then n0 else n1) p = some r ∧ fX5_goBack N m p = some (m', y) ∧ ((∃ e kc, (e, kc) ∈ [(1, 1), (2, 2)] ∧ r = .inl e ∧ mThr m' = nI kc ∧ SM q v z tx n0 n1 m') ∨ ∃ c, r = .inr c ∧ (fun b : VS × VV => sB b.1) c = y ∧ mThr m' = 0 ∧ (fun b : VS × VV => SM q b.1 b.2 tx n0 n1 m') c) := by
  have hs := sim_goBack hN0 h p
  unfold fX4_goBack at hs
  unfold fX4_goBackTo
  rw [cr, bsome] at hs
  rw [cr, bsome]
  by_cases hp : 0 ≤ p ∧ p ≤ 1
  · rw [if_pos hp, ser] at hs
    rw [if_pos hp, ser]
    have hk : ∀ X : Option (Nat ⊕ (VS × VV)), ck p 2 X = X := fun X => by rcases rg01 hp with rfl | rfl <;> rfl
    rw [hk]
    cases hc : (if p = 0 then n0 else n1) with
    | none =>
      rw [hc] at hs
      rcases hs with ⟨e, k, m', b, h1, h2, h3, h4, h5⟩ | ⟨v', z', x, m', h1, -⟩
      · cases h2
        exact ⟨_, m', b, rfl, h3, .inl ⟨2, k, h1, rfl, h4, h5⟩⟩
      · cases h1
    | some s =>
      rw [hc] at hs
      rcases hs with ⟨e, k, m', b, h1, h2, h3, h4, h5⟩ | ⟨v', z', x, m', h1, h2, h3, h4⟩
      · obtain ⟨z1, hz, h2⟩ := bd_e h2
        rw [X3_copyFrom, bsome] at h2
        cases h2
      · obtain ⟨z1, hz, h1⟩ := bd_e h1
        rw [X3_copyFrom, bsome] at h1
        cases h1
        exact ⟨.inr (cpy v s, z'), m', _, by show ((fX2_push N v z).bind _) = _; rw [hz, bsome, X3_copyFrom, bsome], h2, .inr ⟨_, rfl, rfl, h3, h4⟩⟩
  · rw [if_neg hp, sel] at hs
    rw [if_neg hp, sel]
    rcases hs with ⟨e, k, m', b, h1, h2, h3, h4, h5⟩ | ⟨v', z', x, m', h1, -⟩
    · cases h2
      exact ⟨_, m', b, rfl, h3, .inl ⟨1, k, h1, rfl, h4, h5⟩⟩
    · cases h1
set_option maxRecDepth 100000 in
set_option maxHeartbeats 4000000 in
theorem op_keep0 {k : Kt} {nm : String} (C : gC k cL_law 9 RL wsL_law room_1 nm) {b L : Nat} {xs : Nat → Int32} (X : LX k b L xs) {N : Nat} (hN0 : 2097152 ≤ N) {rG rV rN rL : Nat} {aS aT aM aV a0 a1 : Nat → Nat} {v : VS} {z : VV} {tx : VT} {n0 n1 : Option VS} {m : VM} {g : Nat → Int64} {q : Nat} (hq : q ≤ 800000) (h : SM q v z tx n0 n1 m) {i : Int32} (h1 : vp_in (i + 1) L) (h2 : vp_in (i + 2) L) (hp0 : xs (i + 1).toNatClampNeg = 0) {cs sl : Nat} (hcs : cs + 10 ≤ room_1.cells) (hsl : sl + 163 ≤ room_1.slots) (K : KK k b rG rV rN rL aS aT aM (q + 400) i (cs + 10) (sl + 163)) : gG k (wAll (kD k) rG rV rN rL aS aT aM aV a0 a1 v z tx n0 n1 m g) (lvW b rG rL aM i) cs sl 902 [] := by
  obtain ⟨p1, e1⟩ : ∃ p1, xs (i + 1).toNatClampNeg = p1 := ⟨_, rfl⟩
  obtain ⟨p2, e2⟩ : ∃ p2, xs (i + 2).toNatClampNeg = p2 := ⟨_, rfl⟩
  unfold wAll lvW
  rw [e1] at hp0
  obtain ⟨r, m2, y, hX, hY, hr⟩ := keep_out (p := p1) hN0 h
  rw [if_pos hp0] at hX
  simp only [if_pos hp0] at hr
  refine g_aload_n (pc := 902) (x := rG) C dL_law_902 rfl ?_
  refine g_aload_n (pc := 903) (x := b) C dL_law_903 rfl ?_
  refine g_iload (pc := 904) (x := i) C dL_law_904 rfl ?_
  refine g_iconst (pc := 906) (v := 1) C dL_law_906 (by decide) ?_
  refine g_iadd (pc := 907) C dL_law_907 ?_
  refine g_xld (pc := 908) C X h1 e1 dL_law_908 ?_
  refine g_aload_n (pc := 909) (x := rL) C dL_law_909 rfl ?_
  refine g_callM (pc := 910) (wr := (wV (kD k) rV aV z ++ (wT (kD k) aT tx ++ (wO (kD k) a1 n1 ++ wM (kD k) aM m)))) (rest := []) C ((pmc (pmc (pmc ((pm0 (pm0 (List.Perm.refl _))).trans (pmc (pm0 (pm0 (List.Perm.refl _)))))))).trans as5) (cL_keep_ (kL k) C.tr (kD k) rG rL g p1 _ _ (wG (kD k) rG (aS 0) rV rN (aT 0) ++ (wS (kD k) aS v ++ (wN (kD k) rN (fN a0 a1 n0 n1) ++ wO (kD k) a0 n0))) rfl _ _ (cX4_keep_ (kL k) C.tr (kD k) N rG rV rN (aT 0) aS a0 v n0 (fN a0 a1 n0 n1) p1 (fun hq => by rw [hp0]; exact fN_at0 a0 a1 n0 n1) r hX) (fun rv w h => by
      obtain ⟨c, a, -, e, -⟩ := h
      exact ⟨_, e⟩) (fun X w h => by
      obtain ⟨t, ht, e⟩ := PX_in ok_keep hr X w h
      rw [List.mem_singleton.mp ht] at e
      exact e)) (fun ht => vx_cwSW 3 ht gL_law_L_keep rfl rfl rfl hsL_keep ⟨(Nat.le_of_ble_eq_true rfl), (Nat.le_of_ble_eq_true rfl)⟩) rfl rfl (Nat.le_of_ble_eq_true rfl) dL_law_910 ⟨by show cs + 10 ≤ _; omega, by show sl + 163 ≤ _; omega⟩ (fun rv w1 hp => ?_)
  obtain ⟨j, g2, w2, rfl, rfl, hj, h0, hw⟩ := PH_out (pv := fun _ : VS => sB v) (PW := fun (c : VS) (w : va_W) => ∃ a : Nat → Nat, w = (wG (kD k) rG (aS 0) rV rN (aT 0) ++ (wS (kD k) aS v ++ (wN (kD k) rN (va_up (fN a0 a1 n0 n1) p1.toNatClampNeg (some (a 0))) ++ wS (kD k) a c)))) (w0 := (wG (kD k) rG (aS 0) rV rN (aT 0) ++ (wS (kD k) aS v ++ (wN (kD k) rN (fN a0 a1 n0 n1) ++ wO (kD k) a0 n0)))) ok_keep hr (hp.mono (fun rv w h => by
    obtain ⟨c, a, h1, h2, h3⟩ := h
    exact ⟨c, h1, h2, a, h3⟩))
  obtain ⟨a, s, rfl, hs⟩ : ∃ (a : Nat → Nat) (s : Option VS), w2 = (wG (kD k) rG (aS 0) rV rN (aT 0) ++ (wS (kD k) aS v ++ (wN (kD k) rN (fN a a1 s n1) ++ wO (kD k) a s))) ∧ SM (q + 400) v z tx s n1 m2 := by
    rcases hw with ⟨rfl, hs⟩ | ⟨c, ⟨a, rfl⟩, h9, hs⟩
    · exact ⟨a0, n0, rfl, hs.mono (by omega)⟩
    · exact ⟨a, some c, by rw [hp0, fN_0 a0 a1 a n0 n1 c]; rfl, hs.mono (by omega)⟩
  refine g_Perm as5.symm ?_
  refine g_stack (st' := [.int j]) rfl ?_
  refine g_istore (pc := 913) (lv' := [(5, .int j), (4, .int i), (3, .ref rL), (2, .ref (aM 0)), (1, .ref rG), (0, .ref b)]) C dL_law_913 (by decide) rfl ?_
  refine g_aload_n (pc := 915) (x := aM 0) C dL_law_915 rfl ?_
  refine g_aload_n (pc := 916) (x := b) C dL_law_916 rfl ?_
  refine g_iload (pc := 917) (x := i) C dL_law_917 rfl ?_
  refine g_iconst (pc := 919) (v := 1) C dL_law_919 (by decide) ?_
  refine g_iadd (pc := 920) C dL_law_920 ?_
  refine g_xld (pc := 921) C X h1 e1 dL_law_921 ?_
  refine g_callV (pc := 922) (wc := wM (kD k) aM m) (wr := (wL (kD k) rL g2 ++ (wG (kD k) rG (aS 0) rV rN (aT 0) ++ (wS (kD k) aS v ++ (wN (kD k) rN (fN a a1 s n1) ++ (wO (kD k) a s ++ (wV (kD k) rV aV z ++ (wT (kD k) aT tx ++ wO (kD k) a1 n1)))))))) C (pm0 (pm0 (pm0 (pm0 (pm0 (pm0 (pm0 pmL))))))) (gr_V (y := yX5_keep) (As := [.int p1]) (rest := []) C (cX5_keep_ (kL k) C.tr (kD k) N aM m p1 (m2, y) hY) (fun ht => cwV 1 ht gL_law_X5_keep rfl rfl rfl hdX5_keep ⟨(Nat.le_of_ble_eq_true rfl), (Nat.le_of_ble_eq_true rfl)⟩) 0 rfl rfl _ (rg_map _ _) (rg_nd _) rfl rfl (Nat.le_of_ble_eq_true rfl) dL_law_922 ⟨by show cs + 10 + 0 ≤ _; omega, by show sl + 163 + 0 ≤ _; omega⟩) (fun rv w1 hp => ?_)
  obtain ⟨rfl, rfl⟩ := hp
  refine g_stack (st' := [.int y]) rfl ?_
  refine g_istore (pc := 925) (lv' := [(6, .int y), (5, .int j), (4, .int i), (3, .ref rL), (2, .ref (aM 0)), (1, .ref rG), (0, .ref b)]) C dL_law_925 (by decide) rfl ?_
  refine g_aload_n (pc := 927) (x := aM 0) C dL_law_927 rfl ?_
  refine g_callV (pc := 928) (wc := wM (kD k) aM m2) (wr := (wL (kD k) rL g2 ++ (wG (kD k) rG (aS 0) rV rN (aT 0) ++ (wS (kD k) aS v ++ (wN (kD k) rN (fN a a1 s n1) ++ (wO (kD k) a s ++ (wV (kD k) rV aV z ++ (wT (kD k) aT tx ++ wO (kD k) a1 n1)))))))) C (List.Perm.refl _) (gr_V (y := yX5_thrown) (As := []) (rest := []) C (cX5_thrown_ (kL k) C.tr (kD k) N aM m2 (mThr m2) rfl) (fun ht => cwV 0 ht gL_law_X5_thrown rfl rfl rfl hdX5_thrown ⟨(Nat.le_of_ble_eq_true rfl), (Nat.le_of_ble_eq_true rfl)⟩) 0 rfl rfl _ (rg_map _ _) (rg_nd _) rfl rfl (Nat.le_of_ble_eq_true rfl) dL_law_928 ⟨by show cs + 10 + 0 + 0 ≤ _; omega, by show sl + 163 + 0 + 0 ≤ _; omega⟩) (fun rv w1 hp => ?_)
  obtain ⟨rfl, rfl⟩ := hp
  refine g_stack (st' := [.int (mThr m2)]) rfl ?_
  refine g_iload (pc := 931) (x := j) C dL_law_931 rfl ?_
  refine g_icmpeqC (pc := 933) (tgt := 938) C hj dL_law_933 (by decide) ?_
  have END : gG k (wM (kD k) aM m2 ++ (wL (kD k) rL g2 ++ (wG (kD k) rG (aS 0) rV rN (aT 0) ++ (wS (kD k) aS v ++ (wN (kD k) rN (fN a a1 s n1) ++ (wO (kD k) a s ++ (wV (kD k) rV aV z ++ (wT (kD k) aT tx ++ wO (kD k) a1 n1)))))))) [(6, .int y), (5, .int j), (4, .int i), (3, .ref rL), (2, .ref (aM 0)), (1, .ref rG), (0, .ref b)] (cs + 10 + 0 + 0) (sl + 163 + 0 + 0) 955 [] := by
    refine g_goto (pc := 955) (tgt := 1811) C dL_law_955 (by decide) ?_
    refine g_lv [2, 3, 4, 5, 6] (lv' := lvW b rG rL aM i) rfl ?_
    refine g_widen (c2 := cs + 10) (s2 := sl + 163) (by omega) (by omega) ?_
    exact g_Perm ((pm0 (List.Perm.refl _)).trans (pmc ((pm0 (List.Perm.refl _)).trans (pmc ((pm0 (List.Perm.refl _)).trans (pmc ((pm0 (pm0 (pm0 (List.Perm.refl _)))).trans (pmc ((pm0 (pm0 (pm0 (List.Perm.refl _)))).trans (pmc ((pm0 (List.Perm.refl _)).trans (pmc ((pm0 (List.Perm.refl _)).trans (pmc pmL)))))))))))))) (K aV a a1 v z tx s n1 m2 g2 hs)
  refine g_iload (pc := 938) (x := j) C dL_law_938 rfl ?_
  refine g_ifneC (pc := 940) (tgt := 955) C dL_law_940 (by decide) (fun _ => END) (fun hj0 => ?_)
  refine g_aload_n (pc := 943) (x := rL) C dL_law_943 rfl ?_
  refine g_iconst (pc := 944) (v := 0) C dL_law_944 (by decide) ?_
  refine g_lald (pc := 945) (X := some ()) (r := ()) (n := 1) (f := g2) rfl C 10 rfl dL_law_945 (fun _ => ?_)
  refine g_iload (pc := 946) (x := y) C dL_law_946 rfl ?_
  refine g_i2l (pc := 948) C dL_law_948 ?_
  refine g_lcmp0 (pc := 949) C (h0 hj0) dL_law_949 ?_
  exact g_ifeqC (pc := 950) (tgt := 955) C dL_law_950 (by decide) (fun _ => END) (fun hz => absurd rfl hz)
set_option maxRecDepth 100000 in
set_option maxHeartbeats 4000000 in
theorem op_keep1 {k : Kt} {nm : String} (C : gC k cL_law 9 RL wsL_law room_1 nm) {b L : Nat} {xs : Nat → Int32} (X : LX k b L xs) {N : Nat} (hN0 : 2097152 ≤ N) {rG rV rN rL : Nat} {aS aT aM aV a0 a1 : Nat → Nat} {v : VS} {z : VV} {tx : VT} {n0 n1 : Option VS} {m : VM} {g : Nat → Int64} {q : Nat} (hq : q ≤ 800000) (h : SM q v z tx n0 n1 m) {i : Int32} (h1 : vp_in (i + 1) L) (h2 : vp_in (i + 2) L) (hp0 : ¬ xs (i + 1).toNatClampNeg = 0) {cs sl : Nat} (hcs : cs + 10 ≤ room_1.cells) (hsl : sl + 163 ≤ room_1.slots) (K : KK k b rG rV rN rL aS aT aM (q + 400) i (cs + 10) (sl + 163)) : gG k (wAll (kD k) rG rV rN rL aS aT aM aV a0 a1 v z tx n0 n1 m g) (lvW b rG rL aM i) cs sl 902 [] := by
  obtain ⟨p1, e1⟩ : ∃ p1, xs (i + 1).toNatClampNeg = p1 := ⟨_, rfl⟩
  obtain ⟨p2, e2⟩ : ∃ p2, xs (i + 2).toNatClampNeg = p2 := ⟨_, rfl⟩
  unfold wAll lvW
  rw [e1] at hp0
  obtain ⟨r, m2, y, hX, hY, hr⟩ := keep_out (p := p1) hN0 h
  rw [if_neg hp0] at hX
  simp only [if_neg hp0] at hr
  refine g_aload_n (pc := 902) (x := rG) C dL_law_902 rfl ?_
  refine g_aload_n (pc := 903) (x := b) C dL_law_903 rfl ?_
  refine g_iload (pc := 904) (x := i) C dL_law_904 rfl ?_
  refine g_iconst (pc := 906) (v := 1) C dL_law_906 (by decide) ?_
  refine g_iadd (pc := 907) C dL_law_907 ?_
  refine g_xld (pc := 908) C X h1 e1 dL_law_908 ?_
  refine g_aload_n (pc := 909) (x := rL) C dL_law_909 rfl ?_
  refine g_callM (pc := 910) (wr := (wV (kD k) rV aV z ++ (wT (kD k) aT tx ++ (wO (kD k) a0 n0 ++ wM (kD k) aM m)))) (rest := []) C ((pmc (pmc (pmc ((pm0 (pm0 (List.Perm.refl _))).trans (pmc (pm0 (pm0 (pm0 (List.Perm.refl _))))))))).trans as5) (cL_keep_ (kL k) C.tr (kD k) rG rL g p1 _ _ (wG (kD k) rG (aS 0) rV rN (aT 0) ++ (wS (kD k) aS v ++ (wN (kD k) rN (fN a0 a1 n0 n1) ++ wO (kD k) a1 n1))) rfl _ _ (cX4_keep_ (kL k) C.tr (kD k) N rG rV rN (aT 0) aS a1 v n1 (fN a0 a1 n0 n1) p1 (fun hq => by
      rcases vp_01 hq with e | e
      · exact absurd e hp0
      · rw [e]; exact fN_at1 a0 a1 n0 n1) r hX) (fun rv w h => by
      obtain ⟨c, a, -, e, -⟩ := h
      exact ⟨_, e⟩) (fun X w h => by
      obtain ⟨t, ht, e⟩ := PX_in ok_keep hr X w h
      rw [List.mem_singleton.mp ht] at e
      exact e)) (fun ht => vx_cwSW 3 ht gL_law_L_keep rfl rfl rfl hsL_keep ⟨(Nat.le_of_ble_eq_true rfl), (Nat.le_of_ble_eq_true rfl)⟩) rfl rfl (Nat.le_of_ble_eq_true rfl) dL_law_910 ⟨by show cs + 10 ≤ _; omega, by show sl + 163 ≤ _; omega⟩ (fun rv w1 hp => ?_)
  obtain ⟨j, g2, w2, rfl, rfl, hj, h0, hw⟩ := PH_out (pv := fun _ : VS => sB v) (PW := fun (c : VS) (w : va_W) => ∃ a : Nat → Nat, w = (wG (kD k) rG (aS 0) rV rN (aT 0) ++ (wS (kD k) aS v ++ (wN (kD k) rN (va_up (fN a0 a1 n0 n1) p1.toNatClampNeg (some (a 0))) ++ wS (kD k) a c)))) (w0 := (wG (kD k) rG (aS 0) rV rN (aT 0) ++ (wS (kD k) aS v ++ (wN (kD k) rN (fN a0 a1 n0 n1) ++ wO (kD k) a1 n1)))) ok_keep hr (hp.mono (fun rv w h => by
    obtain ⟨c, a, h1, h2, h3⟩ := h
    exact ⟨c, h1, h2, a, h3⟩))
  obtain ⟨a, s, rfl, hs⟩ : ∃ (a : Nat → Nat) (s : Option VS), w2 = (wG (kD k) rG (aS 0) rV rN (aT 0) ++ (wS (kD k) aS v ++ (wN (kD k) rN (fN a0 a n0 s) ++ wO (kD k) a s))) ∧ SM (q + 400) v z tx n0 s m2 := by
    rcases hw with ⟨rfl, hs⟩ | ⟨c, ⟨a, rfl⟩, h9, hs⟩
    · exact ⟨a1, n1, rfl, hs.mono (by omega)⟩
    · have hp1 : p1 = 1 := (vp_01 h9).resolve_left hp0
      exact ⟨a, some c, by rw [hp1, fN_1 a0 a1 a n0 n1 c]; rfl, hs.mono (by omega)⟩
  refine g_Perm as5.symm ?_
  refine g_stack (st' := [.int j]) rfl ?_
  refine g_istore (pc := 913) (lv' := [(5, .int j), (4, .int i), (3, .ref rL), (2, .ref (aM 0)), (1, .ref rG), (0, .ref b)]) C dL_law_913 (by decide) rfl ?_
  refine g_aload_n (pc := 915) (x := aM 0) C dL_law_915 rfl ?_
  refine g_aload_n (pc := 916) (x := b) C dL_law_916 rfl ?_
  refine g_iload (pc := 917) (x := i) C dL_law_917 rfl ?_
  refine g_iconst (pc := 919) (v := 1) C dL_law_919 (by decide) ?_
  refine g_iadd (pc := 920) C dL_law_920 ?_
  refine g_xld (pc := 921) C X h1 e1 dL_law_921 ?_
  refine g_callV (pc := 922) (wc := wM (kD k) aM m) (wr := (wL (kD k) rL g2 ++ (wG (kD k) rG (aS 0) rV rN (aT 0) ++ (wS (kD k) aS v ++ (wN (kD k) rN (fN a0 a n0 s) ++ (wO (kD k) a s ++ (wV (kD k) rV aV z ++ (wT (kD k) aT tx ++ wO (kD k) a0 n0)))))))) C (pm0 (pm0 (pm0 (pm0 (pm0 (pm0 (pm0 pmL))))))) (gr_V (y := yX5_keep) (As := [.int p1]) (rest := []) C (cX5_keep_ (kL k) C.tr (kD k) N aM m p1 (m2, y) hY) (fun ht => cwV 1 ht gL_law_X5_keep rfl rfl rfl hdX5_keep ⟨(Nat.le_of_ble_eq_true rfl), (Nat.le_of_ble_eq_true rfl)⟩) 0 rfl rfl _ (rg_map _ _) (rg_nd _) rfl rfl (Nat.le_of_ble_eq_true rfl) dL_law_922 ⟨by show cs + 10 + 0 ≤ _; omega, by show sl + 163 + 0 ≤ _; omega⟩) (fun rv w1 hp => ?_)
  obtain ⟨rfl, rfl⟩ := hp
  refine g_stack (st' := [.int y]) rfl ?_
  refine g_istore (pc := 925) (lv' := [(6, .int y), (5, .int j), (4, .int i), (3, .ref rL), (2, .ref (aM 0)), (1, .ref rG), (0, .ref b)]) C dL_law_925 (by decide) rfl ?_
  refine g_aload_n (pc := 927) (x := aM 0) C dL_law_927 rfl ?_
  refine g_callV (pc := 928) (wc := wM (kD k) aM m2) (wr := (wL (kD k) rL g2 ++ (wG (kD k) rG (aS 0) rV rN (aT 0) ++ (wS (kD k) aS v ++ (wN (kD k) rN (fN a0 a n0 s) ++ (wO (kD k) a s ++ (wV (kD k) rV aV z ++ (wT (kD k) aT tx ++ wO (kD k) a0 n0)))))))) C (List.Perm.refl _) (gr_V (y := yX5_thrown) (As := []) (rest := []) C (cX5_thrown_ (kL k) C.tr (kD k) N aM m2 (mThr m2) rfl) (fun ht => cwV 0 ht gL_law_X5_thrown rfl rfl rfl hdX5_thrown ⟨(Nat.le_of_ble_eq_true rfl), (Nat.le_of_ble_eq_true rfl)⟩) 0 rfl rfl _ (rg_map _ _) (rg_nd _) rfl rfl (Nat.le_of_ble_eq_true rfl) dL_law_928 ⟨by show cs + 10 + 0 + 0 ≤ _; omega, by show sl + 163 + 0 + 0 ≤ _; omega⟩) (fun rv w1 hp => ?_)
  obtain ⟨rfl, rfl⟩ := hp
  refine g_stack (st' := [.int (mThr m2)]) rfl ?_
  refine g_iload (pc := 931) (x := j) C dL_law_931 rfl ?_
  refine g_icmpeqC (pc := 933) (tgt := 938) C hj dL_law_933 (by decide) ?_
  have END : gG k (wM (kD k) aM m2 ++ (wL (kD k) rL g2 ++ (wG (kD k) rG (aS 0) rV rN (aT 0) ++ (wS (kD k) aS v ++ (wN (kD k) rN (fN a0 a n0 s) ++ (wO (kD k) a s ++ (wV (kD k) rV aV z ++ (wT (kD k) aT tx ++ wO (kD k) a0 n0)))))))) [(6, .int y), (5, .int j), (4, .int i), (3, .ref rL), (2, .ref (aM 0)), (1, .ref rG), (0, .ref b)] (cs + 10 + 0 + 0) (sl + 163 + 0 + 0) 955 [] := by
    refine g_goto (pc := 955) (tgt := 1811) C dL_law_955 (by decide) ?_
    refine g_lv [2, 3, 4, 5, 6] (lv' := lvW b rG rL aM i) rfl ?_
    refine g_widen (c2 := cs + 10) (s2 := sl + 163) (by omega) (by omega) ?_
    exact g_Perm ((pm0 (List.Perm.refl _)).trans (pmc ((pm0 (List.Perm.refl _)).trans (pmc ((pm0 (List.Perm.refl _)).trans (pmc ((pm0 (pm0 (pm0 (List.Perm.refl _)))).trans (pmc ((pm0 (pm0 (pm0 (List.Perm.refl _)))).trans (pmc ((pm0 (List.Perm.refl _)).trans (pmc ((pm0 pmL).trans (pmc pmL)))))))))))))) (K aV a0 a v z tx n0 s m2 g2 hs)
  refine g_iload (pc := 938) (x := j) C dL_law_938 rfl ?_
  refine g_ifneC (pc := 940) (tgt := 955) C dL_law_940 (by decide) (fun _ => END) (fun hj0 => ?_)
  refine g_aload_n (pc := 943) (x := rL) C dL_law_943 rfl ?_
  refine g_iconst (pc := 944) (v := 0) C dL_law_944 (by decide) ?_
  refine g_lald (pc := 945) (X := some ()) (r := ()) (n := 1) (f := g2) rfl C 10 rfl dL_law_945 (fun _ => ?_)
  refine g_iload (pc := 946) (x := y) C dL_law_946 rfl ?_
  refine g_i2l (pc := 948) C dL_law_948 ?_
  refine g_lcmp0 (pc := 949) C (h0 hj0) dL_law_949 ?_
  exact g_ifeqC (pc := 950) (tgt := 955) C dL_law_950 (by decide) (fun _ => END) (fun hz => absurd rfl hz)
set_option maxRecDepth 100000 in
set_option maxHeartbeats 4000000 in
theorem op_goBack0 {k : Kt} {nm : String} (C : gC k cL_law 9 RL wsL_law room_1 nm) {b L : Nat} {xs : Nat → Int32} (X : LX k b L xs) {N : Nat} (hN0 : 2097152 ≤ N) {rG rV rN rL : Nat} {aS aT aM aV a0 a1 : Nat → Nat} {v : VS} {z : VV} {tx : VT} {n0 n1 : Option VS} {m : VM} {g : Nat → Int64} {q : Nat} (hq : q ≤ 800000) (h : SM q v z tx n0 n1 m) {i : Int32} (h1 : vp_in (i + 1) L) (h2 : vp_in (i + 2) L) (hp0 : xs (i + 1).toNatClampNeg = 0) {cs sl : Nat} (hcs : cs + 10 ≤ room_1.cells) (hsl : sl + 163 ≤ room_1.slots) (K : KK k b rG rV rN rL aS aT aM (q + 400) i (cs + 10) (sl + 163)) : gG k (wAll (kD k) rG rV rN rL aS aT aM aV a0 a1 v z tx n0 n1 m g) (lvW b rG rL aM i) cs sl 958 [] := by
  obtain ⟨p1, e1⟩ : ∃ p1, xs (i + 1).toNatClampNeg = p1 := ⟨_, rfl⟩
  obtain ⟨p2, e2⟩ : ∃ p2, xs (i + 2).toNatClampNeg = p2 := ⟨_, rfl⟩
  unfold wAll lvW
  rw [e1] at hp0
  obtain ⟨r, m2, y, hX, hY, hr⟩ := goBack_out (p := p1) hN0 h
  rw [if_pos hp0] at hX
  refine g_aload_n (pc := 958) (x := rG) C dL_law_958 rfl ?_
  refine g_aload_n (pc := 959) (x := b) C dL_law_959 rfl ?_
  refine g_iload (pc := 960) (x := i) C dL_law_960 rfl ?_
  refine g_iconst (pc := 962) (v := 1) C dL_law_962 (by decide) ?_
  refine g_iadd (pc := 963) C dL_law_963 ?_
  refine g_xld (pc := 964) C X h1 e1 dL_law_964 ?_
  refine g_aload_n (pc := 965) (x := rL) C dL_law_965 rfl ?_
  refine g_callM (pc := 966) (wr := (wT (kD k) aT tx ++ (wO (kD k) a1 n1 ++ wM (kD k) aM m))) (rest := []) C ((pmc (pmc (pmc (pmc ((pm0 (List.Perm.refl _)).trans (pmc (pm0 (List.Perm.refl _)))))))).trans as6) (cL_goBack_ (kL k) C.tr (kD k) rG rL g p1 _ _ (wG (kD k) rG (aS 0) rV rN (aT 0) ++ (wS (kD k) aS v ++ (wV (kD k) rV aV z ++ (wN (kD k) rN (fN a0 a1 n0 n1) ++ wO (kD k) a0 n0)))) rfl _ _ (cX4_goBack_ (kL k) C.tr (kD k) N rG rV rN (aT 0) aS aV a0 v z n0 (fN a0 a1 n0 n1) p1 (fun hq => by rw [hp0]; exact fN_at0 a0 a1 n0 n1) r hX) (fun rv w h => by
      obtain ⟨c, a, -, e, -⟩ := h
      exact ⟨_, e⟩) (fun X w h => by
      obtain ⟨t, ht, e⟩ := PX_in ok_goBack hr X w h
      rcases List.mem_cons.mp ht with rfl | ht
      · exact .inl e
      · rw [List.mem_singleton.mp ht] at e
        exact .inr e)) (fun ht => vx_cwSW 3 ht gL_law_L_goBack rfl rfl rfl hsL_goBack ⟨(Nat.le_of_ble_eq_true rfl), (Nat.le_of_ble_eq_true rfl)⟩) rfl rfl (Nat.le_of_ble_eq_true rfl) dL_law_966 ⟨by show cs + 2 ≤ _; omega, by show sl + 12 ≤ _; omega⟩ (fun rv w1 hp => ?_)
  obtain ⟨j, g2, w2, rfl, rfl, hj, h0, hw⟩ := PH_out (pv := fun b : VS × VV => sB b.1) (PW := fun (b : VS × VV) (w : va_W) => ∃ a : Nat → Nat, w = (wG (kD k) rG (aS 0) rV rN (aT 0) ++ (wS (kD k) aS b.1 ++ (wV (kD k) rV a b.2 ++ (wN (kD k) rN (fN a0 a1 n0 n1) ++ wO (kD k) a0 n0))))) (w0 := (wG (kD k) rG (aS 0) rV rN (aT 0) ++ (wS (kD k) aS v ++ (wV (kD k) rV aV z ++ (wN (kD k) rN (fN a0 a1 n0 n1) ++ wO (kD k) a0 n0))))) ok_goBack hr (hp.mono (fun rv w h => by
    obtain ⟨c, a, h1, h2, h3⟩ := h
    exact ⟨c, h1, h2, a, h3⟩))
  obtain ⟨v2, z2, aV2, rfl, hs⟩ : ∃ v2 z2 aV2, w2 = (wG (kD k) rG (aS 0) rV rN (aT 0) ++ (wS (kD k) aS v2 ++ (wV (kD k) rV aV2 z2 ++ (wN (kD k) rN (fN a0 a1 n0 n1) ++ wO (kD k) a0 n0)))) ∧ SM (q + 400) v2 z2 tx n0 n1 m2 := by
    rcases hw with ⟨rfl, hs⟩ | ⟨a, ⟨aV2, rfl⟩, hs⟩
    · exact ⟨_, _, _, rfl, hs.mono (by omega)⟩
    · exact ⟨_, _, _, rfl, hs.mono (by omega)⟩
  refine g_Perm as6.symm ?_
  refine g_stack (st' := [.int j]) rfl ?_
  refine g_istore (pc := 969) (lv' := [(5, .int j), (4, .int i), (3, .ref rL), (2, .ref (aM 0)), (1, .ref rG), (0, .ref b)]) C dL_law_969 (by decide) rfl ?_
  refine g_aload_n (pc := 971) (x := aM 0) C dL_law_971 rfl ?_
  refine g_aload_n (pc := 972) (x := b) C dL_law_972 rfl ?_
  refine g_iload (pc := 973) (x := i) C dL_law_973 rfl ?_
  refine g_iconst (pc := 975) (v := 1) C dL_law_975 (by decide) ?_
  refine g_iadd (pc := 976) C dL_law_976 ?_
  refine g_xld (pc := 977) C X h1 e1 dL_law_977 ?_
  refine g_callV (pc := 978) (wc := wM (kD k) aM m) (wr := (wL (kD k) rL g2 ++ (wG (kD k) rG (aS 0) rV rN (aT 0) ++ (wS (kD k) aS v2 ++ (wV (kD k) rV aV2 z2 ++ (wN (kD k) rN (fN a0 a1 n0 n1) ++ (wO (kD k) a0 n0 ++ (wT (kD k) aT tx ++ wO (kD k) a1 n1)))))))) C (pm0 (pm0 (pm0 (pm0 (pm0 (pm0 (pm0 pmL))))))) (gr_V (y := yX5_goBack) (As := [.int p1]) (rest := []) C (cX5_goBack_ (kL k) C.tr (kD k) N aM m p1 (m2, y) hY) (fun ht => cwV 1 ht gL_law_X5_goBack rfl rfl rfl hdX5_goBack ⟨(Nat.le_of_ble_eq_true rfl), (Nat.le_of_ble_eq_true rfl)⟩) 0 rfl rfl _ (rg_map _ _) (rg_nd _) rfl rfl (Nat.le_of_ble_eq_true rfl) dL_law_978 ⟨by show cs + 2 + 0 ≤ _; omega, by show sl + 12 + 0 ≤ _; omega⟩) (fun rv w1 hp => ?_)
  obtain ⟨rfl, rfl⟩ := hp
  refine g_stack (st' := [.int y]) rfl ?_
  refine g_istore (pc := 981) (lv' := [(6, .int y), (5, .int j), (4, .int i), (3, .ref rL), (2, .ref (aM 0)), (1, .ref rG), (0, .ref b)]) C dL_law_981 (by decide) rfl ?_
  refine g_aload_n (pc := 983) (x := aM 0) C dL_law_983 rfl ?_
  refine g_callV (pc := 984) (wc := wM (kD k) aM m2) (wr := (wL (kD k) rL g2 ++ (wG (kD k) rG (aS 0) rV rN (aT 0) ++ (wS (kD k) aS v2 ++ (wV (kD k) rV aV2 z2 ++ (wN (kD k) rN (fN a0 a1 n0 n1) ++ (wO (kD k) a0 n0 ++ (wT (kD k) aT tx ++ wO (kD k) a1 n1)))))))) C (List.Perm.refl _) (gr_V (y := yX5_thrown) (As := []) (rest := []) C (cX5_thrown_ (kL k) C.tr (kD k) N aM m2 (mThr m2) rfl) (fun ht => cwV 0 ht gL_law_X5_thrown rfl rfl rfl hdX5_thrown ⟨(Nat.le_of_ble_eq_true rfl), (Nat.le_of_ble_eq_true rfl)⟩) 0 rfl rfl _ (rg_map _ _) (rg_nd _) rfl rfl (Nat.le_of_ble_eq_true rfl) dL_law_984 ⟨by show cs + 2 + 0 + 0 ≤ _; omega, by show sl + 12 + 0 + 0 ≤ _; omega⟩) (fun rv w1 hp => ?_)
  obtain ⟨rfl, rfl⟩ := hp
  refine g_stack (st' := [.int (mThr m2)]) rfl ?_
  refine g_iload (pc := 987) (x := j) C dL_law_987 rfl ?_
  refine g_icmpeqC (pc := 989) (tgt := 994) C hj dL_law_989 (by decide) ?_
  have END : gG k (wM (kD k) aM m2 ++ (wL (kD k) rL g2 ++ (wG (kD k) rG (aS 0) rV rN (aT 0) ++ (wS (kD k) aS v2 ++ (wV (kD k) rV aV2 z2 ++ (wN (kD k) rN (fN a0 a1 n0 n1) ++ (wO (kD k) a0 n0 ++ (wT (kD k) aT tx ++ wO (kD k) a1 n1)))))))) [(6, .int y), (5, .int j), (4, .int i), (3, .ref rL), (2, .ref (aM 0)), (1, .ref rG), (0, .ref b)] (cs + 2 + 0 + 0) (sl + 12 + 0 + 0) 1011 [] := by
    refine g_goto (pc := 1011) (tgt := 1811) C dL_law_1011 (by decide) ?_
    refine g_lv [2, 3, 4, 5, 6] (lv' := lvW b rG rL aM i) rfl ?_
    refine g_widen (c2 := cs + 10) (s2 := sl + 163) (by omega) (by omega) ?_
    exact g_Perm ((pm0 (List.Perm.refl _)).trans (pmc ((pm0 (List.Perm.refl _)).trans (pmc ((pm0 (List.Perm.refl _)).trans (pmc ((pm0 (List.Perm.refl _)).trans (pmc ((pm0 (pm0 (pm0 (List.Perm.refl _)))).trans (pmc ((pm0 (List.Perm.refl _)).trans (pmc ((pm0 (List.Perm.refl _)).trans (pmc pmL)))))))))))))) (K aV2 a0 a1 v2 z2 tx n0 n1 m2 g2 hs)
  refine g_iload (pc := 994) (x := j) C dL_law_994 rfl ?_
  refine g_ifneC (pc := 996) (tgt := 1011) C dL_law_996 (by decide) (fun _ => END) (fun hj0 => ?_)
  refine g_aload_n (pc := 999) (x := rL) C dL_law_999 rfl ?_
  refine g_iconst (pc := 1000) (v := 0) C dL_law_1000 (by decide) ?_
  refine g_lald (pc := 1001) (X := some ()) (r := ()) (n := 1) (f := g2) rfl C 10 rfl dL_law_1001 (fun _ => ?_)
  refine g_iload (pc := 1002) (x := y) C dL_law_1002 rfl ?_
  refine g_i2l (pc := 1004) C dL_law_1004 ?_
  refine g_lcmp0 (pc := 1005) C (h0 hj0) dL_law_1005 ?_
  exact g_ifeqC (pc := 1006) (tgt := 1011) C dL_law_1006 (by decide) (fun _ => END) (fun hz => absurd rfl hz)
set_option maxRecDepth 100000 in
set_option maxHeartbeats 4000000 in
theorem op_goBack1 {k : Kt} {nm : String} (C : gC k cL_law 9 RL wsL_law room_1 nm) {b L : Nat} {xs : Nat → Int32} (X : LX k b L xs) {N : Nat} (hN0 : 2097152 ≤ N) {rG rV rN rL : Nat} {aS aT aM aV a0 a1 : Nat → Nat} {v : VS} {z : VV} {tx : VT} {n0 n1 : Option VS} {m : VM} {g : Nat → Int64} {q : Nat} (hq : q ≤ 800000) (h : SM q v z tx n0 n1 m) {i : Int32} (h1 : vp_in (i + 1) L) (h2 : vp_in (i + 2) L) (hp0 : ¬ xs (i + 1).toNatClampNeg = 0) {cs sl : Nat} (hcs : cs + 10 ≤ room_1.cells) (hsl : sl + 163 ≤ room_1.slots) (K : KK k b rG rV rN rL aS aT aM (q + 400) i (cs + 10) (sl + 163)) : gG k (wAll (kD k) rG rV rN rL aS aT aM aV a0 a1 v z tx n0 n1 m g) (lvW b rG rL aM i) cs sl 958 [] := by
  obtain ⟨p1, e1⟩ : ∃ p1, xs (i + 1).toNatClampNeg = p1 := ⟨_, rfl⟩
  obtain ⟨p2, e2⟩ : ∃ p2, xs (i + 2).toNatClampNeg = p2 := ⟨_, rfl⟩
  unfold wAll lvW
  rw [e1] at hp0
  obtain ⟨r, m2, y, hX, hY, hr⟩ := goBack_out (p := p1) hN0 h
  rw [if_neg hp0] at hX
  refine g_aload_n (pc := 958) (x := rG) C dL_law_958 rfl ?_
  refine g_aload_n (pc := 959) (x := b) C dL_law_959 rfl ?_
  refine g_iload (pc := 960) (x := i) C dL_law_960 rfl ?_
  refine g_iconst (pc := 962) (v := 1) C dL_law_962 (by decide) ?_
  refine g_iadd (pc := 963) C dL_law_963 ?_
  refine g_xld (pc := 964) C X h1 e1 dL_law_964 ?_
  refine g_aload_n (pc := 965) (x := rL) C dL_law_965 rfl ?_
  refine g_callM (pc := 966) (wr := (wT (kD k) aT tx ++ (wO (kD k) a0 n0 ++ wM (kD k) aM m))) (rest := []) C ((pmc (pmc (pmc (pmc ((pm0 (List.Perm.refl _)).trans (pmc (pm0 (pm0 (List.Perm.refl _))))))))).trans as6) (cL_goBack_ (kL k) C.tr (kD k) rG rL g p1 _ _ (wG (kD k) rG (aS 0) rV rN (aT 0) ++ (wS (kD k) aS v ++ (wV (kD k) rV aV z ++ (wN (kD k) rN (fN a0 a1 n0 n1) ++ wO (kD k) a1 n1)))) rfl _ _ (cX4_goBack_ (kL k) C.tr (kD k) N rG rV rN (aT 0) aS aV a1 v z n1 (fN a0 a1 n0 n1) p1 (fun hq => by
      rcases vp_01 hq with e | e
      · exact absurd e hp0
      · rw [e]; exact fN_at1 a0 a1 n0 n1) r hX) (fun rv w h => by
      obtain ⟨c, a, -, e, -⟩ := h
      exact ⟨_, e⟩) (fun X w h => by
      obtain ⟨t, ht, e⟩ := PX_in ok_goBack hr X w h
      rcases List.mem_cons.mp ht with rfl | ht
      · exact .inl e
      · rw [List.mem_singleton.mp ht] at e
        exact .inr e)) (fun ht => vx_cwSW 3 ht gL_law_L_goBack rfl rfl rfl hsL_goBack ⟨(Nat.le_of_ble_eq_true rfl), (Nat.le_of_ble_eq_true rfl)⟩) rfl rfl (Nat.le_of_ble_eq_true rfl) dL_law_966 ⟨by show cs + 2 ≤ _; omega, by show sl + 12 ≤ _; omega⟩ (fun rv w1 hp => ?_)
  obtain ⟨j, g2, w2, rfl, rfl, hj, h0, hw⟩ := PH_out (pv := fun b : VS × VV => sB b.1) (PW := fun (b : VS × VV) (w : va_W) => ∃ a : Nat → Nat, w = (wG (kD k) rG (aS 0) rV rN (aT 0) ++ (wS (kD k) aS b.1 ++ (wV (kD k) rV a b.2 ++ (wN (kD k) rN (fN a0 a1 n0 n1) ++ wO (kD k) a1 n1))))) (w0 := (wG (kD k) rG (aS 0) rV rN (aT 0) ++ (wS (kD k) aS v ++ (wV (kD k) rV aV z ++ (wN (kD k) rN (fN a0 a1 n0 n1) ++ wO (kD k) a1 n1))))) ok_goBack hr (hp.mono (fun rv w h => by
    obtain ⟨c, a, h1, h2, h3⟩ := h
    exact ⟨c, h1, h2, a, h3⟩))
  obtain ⟨v2, z2, aV2, rfl, hs⟩ : ∃ v2 z2 aV2, w2 = (wG (kD k) rG (aS 0) rV rN (aT 0) ++ (wS (kD k) aS v2 ++ (wV (kD k) rV aV2 z2 ++ (wN (kD k) rN (fN a0 a1 n0 n1) ++ wO (kD k) a1 n1)))) ∧ SM (q + 400) v2 z2 tx n0 n1 m2 := by
    rcases hw with ⟨rfl, hs⟩ | ⟨a, ⟨aV2, rfl⟩, hs⟩
    · exact ⟨_, _, _, rfl, hs.mono (by omega)⟩
    · exact ⟨_, _, _, rfl, hs.mono (by omega)⟩
  refine g_Perm as6.symm ?_
  refine g_stack (st' := [.int j]) rfl ?_
  refine g_istore (pc := 969) (lv' := [(5, .int j), (4, .int i), (3, .ref rL), (2, .ref (aM 0)), (1, .ref rG), (0, .ref b)]) C dL_law_969 (by decide) rfl ?_
  refine g_aload_n (pc := 971) (x := aM 0) C dL_law_971 rfl ?_
  refine g_aload_n (pc := 972) (x := b) C dL_law_972 rfl ?_
  refine g_iload (pc := 973) (x := i) C dL_law_973 rfl ?_
  refine g_iconst (pc := 975) (v := 1) C dL_law_975 (by decide) ?_
  refine g_iadd (pc := 976) C dL_law_976 ?_
  refine g_xld (pc := 977) C X h1 e1 dL_law_977 ?_
  refine g_callV (pc := 978) (wc := wM (kD k) aM m) (wr := (wL (kD k) rL g2 ++ (wG (kD k) rG (aS 0) rV rN (aT 0) ++ (wS (kD k) aS v2 ++ (wV (kD k) rV aV2 z2 ++ (wN (kD k) rN (fN a0 a1 n0 n1) ++ (wO (kD k) a1 n1 ++ (wT (kD k) aT tx ++ wO (kD k) a0 n0)))))))) C (pm0 (pm0 (pm0 (pm0 (pm0 (pm0 (pm0 pmL))))))) (gr_V (y := yX5_goBack) (As := [.int p1]) (rest := []) C (cX5_goBack_ (kL k) C.tr (kD k) N aM m p1 (m2, y) hY) (fun ht => cwV 1 ht gL_law_X5_goBack rfl rfl rfl hdX5_goBack ⟨(Nat.le_of_ble_eq_true rfl), (Nat.le_of_ble_eq_true rfl)⟩) 0 rfl rfl _ (rg_map _ _) (rg_nd _) rfl rfl (Nat.le_of_ble_eq_true rfl) dL_law_978 ⟨by show cs + 2 + 0 ≤ _; omega, by show sl + 12 + 0 ≤ _; omega⟩) (fun rv w1 hp => ?_)
  obtain ⟨rfl, rfl⟩ := hp
  refine g_stack (st' := [.int y]) rfl ?_
  refine g_istore (pc := 981) (lv' := [(6, .int y), (5, .int j), (4, .int i), (3, .ref rL), (2, .ref (aM 0)), (1, .ref rG), (0, .ref b)]) C dL_law_981 (by decide) rfl ?_
  refine g_aload_n (pc := 983) (x := aM 0) C dL_law_983 rfl ?_
  refine g_callV (pc := 984) (wc := wM (kD k) aM m2) (wr := (wL (kD k) rL g2 ++ (wG (kD k) rG (aS 0) rV rN (aT 0) ++ (wS (kD k) aS v2 ++ (wV (kD k) rV aV2 z2 ++ (wN (kD k) rN (fN a0 a1 n0 n1) ++ (wO (kD k) a1 n1 ++ (wT (kD k) aT tx ++ wO (kD k) a0 n0)))))))) C (List.Perm.refl _) (gr_V (y := yX5_thrown) (As := []) (rest := []) C (cX5_thrown_ (kL k) C.tr (kD k) N aM m2 (mThr m2) rfl) (fun ht => cwV 0 ht gL_law_X5_thrown rfl rfl rfl hdX5_thrown ⟨(Nat.le_of_ble_eq_true rfl), (Nat.le_of_ble_eq_true rfl)⟩) 0 rfl rfl _ (rg_map _ _) (rg_nd _) rfl rfl (Nat.le_of_ble_eq_true rfl) dL_law_984 ⟨by show cs + 2 + 0 + 0 ≤ _; omega, by show sl + 12 + 0 + 0 ≤ _; omega⟩) (fun rv w1 hp => ?_)
  obtain ⟨rfl, rfl⟩ := hp
  refine g_stack (st' := [.int (mThr m2)]) rfl ?_
  refine g_iload (pc := 987) (x := j) C dL_law_987 rfl ?_
  refine g_icmpeqC (pc := 989) (tgt := 994) C hj dL_law_989 (by decide) ?_
  have END : gG k (wM (kD k) aM m2 ++ (wL (kD k) rL g2 ++ (wG (kD k) rG (aS 0) rV rN (aT 0) ++ (wS (kD k) aS v2 ++ (wV (kD k) rV aV2 z2 ++ (wN (kD k) rN (fN a0 a1 n0 n1) ++ (wO (kD k) a1 n1 ++ (wT (kD k) aT tx ++ wO (kD k) a0 n0)))))))) [(6, .int y), (5, .int j), (4, .int i), (3, .ref rL), (2, .ref (aM 0)), (1, .ref rG), (0, .ref b)] (cs + 2 + 0 + 0) (sl + 12 + 0 + 0) 1011 [] := by
    refine g_goto (pc := 1011) (tgt := 1811) C dL_law_1011 (by decide) ?_
    refine g_lv [2, 3, 4, 5, 6] (lv' := lvW b rG rL aM i) rfl ?_
    refine g_widen (c2 := cs + 10) (s2 := sl + 163) (by omega) (by omega) ?_
    exact g_Perm ((pm0 (List.Perm.refl _)).trans (pmc ((pm0 (List.Perm.refl _)).trans (pmc ((pm0 (List.Perm.refl _)).trans (pmc ((pm0 (List.Perm.refl _)).trans (pmc ((pm0 (pm0 (pm0 (List.Perm.refl _)))).trans (pmc ((pm0 (List.Perm.refl _)).trans (pmc ((pm0 pmL).trans (pmc pmL)))))))))))))) (K aV2 a0 a1 v2 z2 tx n0 n1 m2 g2 hs)
  refine g_iload (pc := 994) (x := j) C dL_law_994 rfl ?_
  refine g_ifneC (pc := 996) (tgt := 1011) C dL_law_996 (by decide) (fun _ => END) (fun hj0 => ?_)
  refine g_aload_n (pc := 999) (x := rL) C dL_law_999 rfl ?_
  refine g_iconst (pc := 1000) (v := 0) C dL_law_1000 (by decide) ?_
  refine g_lald (pc := 1001) (X := some ()) (r := ()) (n := 1) (f := g2) rfl C 10 rfl dL_law_1001 (fun _ => ?_)
  refine g_iload (pc := 1002) (x := y) C dL_law_1002 rfl ?_
  refine g_i2l (pc := 1004) C dL_law_1004 ?_
  refine g_lcmp0 (pc := 1005) C (h0 hj0) dL_law_1005 ?_
  exact g_ifeqC (pc := 1006) (tgt := 1011) C dL_law_1006 (by decide) (fun _ => END) (fun hz => absurd rfl hz)
set_option maxRecDepth 100000 in
set_option maxHeartbeats 4000000 in
theorem op_clearBuffer {k : Kt} {nm : String} (C : gC k cL_law 9 RL wsL_law room_1 nm) {b L : Nat} {xs : Nat → Int32} (X : LX k b L xs) {N : Nat} (hN0 : 2097152 ≤ N) {rG rV rN rL : Nat} {aS aT aM aV a0 a1 : Nat → Nat} {v : VS} {z : VV} {tx : VT} {n0 n1 : Option VS} {m : VM} {g : Nat → Int64} {q : Nat} (hq : q ≤ 800000) (h : SM q v z tx n0 n1 m) {i : Int32} (h1 : vp_in (i + 1) L) (h2 : vp_in (i + 2) L) {cs sl : Nat} (hcs : cs + 10 ≤ room_1.cells) (hsl : sl + 163 ≤ room_1.slots) (K : KK k b rG rV rN rL aS aT aM (q + 400) i (cs + 10) (sl + 163)) : gG k (wAll (kD k) rG rV rN rL aS aT aM aV a0 a1 v z tx n0 n1 m g) (lvW b rG rL aM i) cs sl 788 [] := by
  obtain ⟨p1, e1⟩ : ∃ p1, xs (i + 1).toNatClampNeg = p1 := ⟨_, rfl⟩
  obtain ⟨p2, e2⟩ : ∃ p2, xs (i + 2).toNatClampNeg = p2 := ⟨_, rfl⟩
  unfold wAll lvW
  obtain ⟨t2, y, m2, hX, hY, hs⟩ := sim_clear (N := N) h
  have hs := hs.mono (show q ≤ q + 400 by omega)
  refine g_aload_n (pc := 788) (x := rG) C dL_law_788 rfl ?_
  refine g_callV (pc := 789) (wc := (wG (kD k) rG (aS 0) rV rN (aT 0) ++ wT (kD k) aT tx)) (wr := (wL (kD k) rL g ++ (wS (kD k) aS v ++ (wV (kD k) rV aV z ++ (wN (kD k) rN (fN a0 a1 n0 n1) ++ (wO (kD k) a0 n0 ++ (wO (kD k) a1 n1 ++ wM (kD k) aM m))))))) C (((pm0 (List.Perm.refl _)).trans (pmc (pm0 (pm0 (pm0 (List.Perm.refl _)))))).trans as2) (gr_V (y := yX4_clearBuffer) (As := []) (rest := []) C (cX4_clearBuffer_ (kL k) C.tr (kD k) N rG (aS 0) rV rN aT tx (t2, y) hX) (fun ht => cwV 0 ht gL_law_X4_clearBuffer rfl rfl rfl hdX4_clearBuffer ⟨(Nat.le_of_ble_eq_true rfl), (Nat.le_of_ble_eq_true rfl)⟩) 0 rfl rfl _ (rg_map _ _) (rg_nd _) rfl rfl (Nat.le_of_ble_eq_true rfl) dL_law_789 ⟨by show cs + 0 ≤ _; omega, by show sl + 0 ≤ _; omega⟩) (fun rv w1 hp => ?_)
  obtain ⟨rfl, rfl⟩ := hp
  refine g_stack (st' := [.int y]) rfl ?_
  refine g_Perm as2.symm ?_
  refine g_aload_n (pc := 792) (x := aM 0) C dL_law_792 rfl ?_
  refine g_callV (pc := 793) (wc := wM (kD k) aM m) (wr := (wG (kD k) rG (aS 0) rV rN (aT 0) ++ (wT (kD k) aT t2 ++ (wL (kD k) rL g ++ (wS (kD k) aS v ++ (wV (kD k) rV aV z ++ (wN (kD k) rN (fN a0 a1 n0 n1) ++ (wO (kD k) a0 n0 ++ wO (kD k) a1 n1)))))))) C (pm0 (pm0 (pm0 (pm0 (pm0 (pm0 (pm0 pmL))))))) (gr_V (y := yX5_clearBuffer) (As := []) (rest := [.int y]) C (cX5_clearBuffer_ (kL k) C.tr (kD k) N aM m (m2, y) hY) (fun ht => cwV 0 ht gL_law_X5_clearBuffer rfl rfl rfl hdX5_clearBuffer ⟨(Nat.le_of_ble_eq_true rfl), (Nat.le_of_ble_eq_true rfl)⟩) 0 rfl rfl _ (rg_map _ _) (rg_nd _) rfl rfl (Nat.le_of_ble_eq_true rfl) dL_law_793 ⟨by show cs + 0 + 0 ≤ _; omega, by show sl + 0 + 0 ≤ _; omega⟩) (fun rv w1 hp => ?_)
  obtain ⟨rfl, rfl⟩ := hp
  refine g_stack (st' := [.int y, .int y]) rfl ?_
  refine g_icmpeqC (pc := 796) (tgt := 1811) C rfl dL_law_796 (by decide) ?_
  refine g_widen (c2 := cs + 10) (s2 := sl + 163) (by omega) (by omega) ?_
  exact g_Perm ((pm0 (pm0 (pm0 (List.Perm.refl _)))).trans (pmc ((pm0 (List.Perm.refl _)).trans (pmc ((pm0 (pm0 (List.Perm.refl _))).trans (pmc ((pm0 (pm0 (List.Perm.refl _))).trans (pmc ((pm0 (List.Perm.refl _)).trans (pmc ((pm0 (List.Perm.refl _)).trans (pmc ((pm0 (List.Perm.refl _)).trans (pmc pmL)))))))))))))) (K aV a0 a1 v z t2 n0 n1 m2 g hs)
set_option maxRecDepth 100000 in
set_option maxHeartbeats 4000000 in
theorem op_firstError {k : Kt} {nm : String} (C : gC k cL_law 9 RL wsL_law room_1 nm) {b L : Nat} {xs : Nat → Int32} (X : LX k b L xs) {N : Nat} (hN0 : 2097152 ≤ N) {rG rV rN rL : Nat} {aS aT aM aV a0 a1 : Nat → Nat} {v : VS} {z : VV} {tx : VT} {n0 n1 : Option VS} {m : VM} {g : Nat → Int64} {q : Nat} (hq : q ≤ 800000) (h : SM q v z tx n0 n1 m) {i : Int32} (h1 : vp_in (i + 1) L) (h2 : vp_in (i + 2) L) {cs sl : Nat} (hcs : cs + 10 ≤ room_1.cells) (hsl : sl + 163 ≤ room_1.slots) (K : KK k b rG rV rN rL aS aT aM (q + 400) i (cs + 10) (sl + 163)) : gG k (wAll (kD k) rG rV rN rL aS aT aM aV a0 a1 v z tx n0 n1 m g) (lvW b rG rL aM i) cs sl 801 [] := by
  obtain ⟨p1, e1⟩ : ∃ p1, xs (i + 1).toNatClampNeg = p1 := ⟨_, rfl⟩
  obtain ⟨p2, e2⟩ : ∃ p2, xs (i + 2).toNatClampNeg = p2 := ⟨_, rfl⟩
  unfold wAll lvW
  obtain ⟨t2, y, m2, hX, hY, hs⟩ := sim_first hN0 h
  have hs := hs.mono (show q ≤ q + 400 by omega)
  refine g_aload_n (pc := 801) (x := rG) C dL_law_801 rfl ?_
  refine g_callV (pc := 802) (wc := (wG (kD k) rG (aS 0) rV rN (aT 0) ++ wT (kD k) aT tx)) (wr := (wL (kD k) rL g ++ (wS (kD k) aS v ++ (wV (kD k) rV aV z ++ (wN (kD k) rN (fN a0 a1 n0 n1) ++ (wO (kD k) a0 n0 ++ (wO (kD k) a1 n1 ++ wM (kD k) aM m))))))) C (((pm0 (List.Perm.refl _)).trans (pmc (pm0 (pm0 (pm0 (List.Perm.refl _)))))).trans as2) (gr_V (y := yX4_firstError) (As := []) (rest := []) C (cX4_firstError_ (kL k) C.tr (kD k) N rG (aS 0) rV rN aT tx (t2, y) hX) (fun ht => cwV 0 ht gL_law_X4_firstError rfl rfl rfl hdX4_firstError ⟨(Nat.le_of_ble_eq_true rfl), (Nat.le_of_ble_eq_true rfl)⟩) 0 rfl rfl _ (rg_map _ _) (rg_nd _) rfl rfl (Nat.le_of_ble_eq_true rfl) dL_law_802 ⟨by show cs + 0 ≤ _; omega, by show sl + 0 ≤ _; omega⟩) (fun rv w1 hp => ?_)
  obtain ⟨rfl, rfl⟩ := hp
  refine g_stack (st' := [.int y]) rfl ?_
  refine g_Perm as2.symm ?_
  refine g_aload_n (pc := 805) (x := aM 0) C dL_law_805 rfl ?_
  refine g_callV (pc := 806) (wc := wM (kD k) aM m) (wr := (wG (kD k) rG (aS 0) rV rN (aT 0) ++ (wT (kD k) aT t2 ++ (wL (kD k) rL g ++ (wS (kD k) aS v ++ (wV (kD k) rV aV z ++ (wN (kD k) rN (fN a0 a1 n0 n1) ++ (wO (kD k) a0 n0 ++ wO (kD k) a1 n1)))))))) C (pm0 (pm0 (pm0 (pm0 (pm0 (pm0 (pm0 pmL))))))) (gr_V (y := yX5_firstError) (As := []) (rest := [.int y]) C (cX5_firstError_ (kL k) C.tr (kD k) N aM m (m2, y) hY) (fun ht => cwV 0 ht gL_law_X5_firstError rfl rfl rfl hdX5_firstError ⟨(Nat.le_of_ble_eq_true rfl), (Nat.le_of_ble_eq_true rfl)⟩) 0 rfl rfl _ (rg_map _ _) (rg_nd _) rfl rfl (Nat.le_of_ble_eq_true rfl) dL_law_806 ⟨by show cs + 0 + 0 ≤ _; omega, by show sl + 0 + 0 ≤ _; omega⟩) (fun rv w1 hp => ?_)
  obtain ⟨rfl, rfl⟩ := hp
  refine g_stack (st' := [.int y, .int y]) rfl ?_
  refine g_icmpeqC (pc := 809) (tgt := 1811) C rfl dL_law_809 (by decide) ?_
  refine g_widen (c2 := cs + 10) (s2 := sl + 163) (by omega) (by omega) ?_
  exact g_Perm ((pm0 (pm0 (pm0 (List.Perm.refl _)))).trans (pmc ((pm0 (List.Perm.refl _)).trans (pmc ((pm0 (pm0 (List.Perm.refl _))).trans (pmc ((pm0 (pm0 (List.Perm.refl _))).trans (pmc ((pm0 (List.Perm.refl _)).trans (pmc ((pm0 (List.Perm.refl _)).trans (pmc ((pm0 (List.Perm.refl _)).trans (pmc pmL)))))))))))))) (K aV a0 a1 v z t2 n0 n1 m2 g hs)
set_option maxRecDepth 100000 in
set_option maxHeartbeats 4000000 in
theorem op_meanError {k : Kt} {nm : String} (C : gC k cL_law 9 RL wsL_law room_1 nm) {b L : Nat} {xs : Nat → Int32} (X : LX k b L xs) {N : Nat} (hN0 : 2097152 ≤ N) {rG rV rN rL : Nat} {aS aT aM aV a0 a1 : Nat → Nat} {v : VS} {z : VV} {tx : VT} {n0 n1 : Option VS} {m : VM} {g : Nat → Int64} {q : Nat} (hq : q ≤ 800000) (h : SM q v z tx n0 n1 m) {i : Int32} (h1 : vp_in (i + 1) L) (h2 : vp_in (i + 2) L) {cs sl : Nat} (hcs : cs + 10 ≤ room_1.cells) (hsl : sl + 163 ≤ room_1.slots) (K : KK k b rG rV rN rL aS aT aM (q + 400) i (cs + 10) (sl + 163)) : gG k (wAll (kD k) rG rV rN rL aS aT aM aV a0 a1 v z tx n0 n1 m g) (lvW b rG rL aM i) cs sl 1770 [] := by
  obtain ⟨p1, e1⟩ : ∃ p1, xs (i + 1).toNatClampNeg = p1 := ⟨_, rfl⟩
  obtain ⟨p2, e2⟩ : ∃ p2, xs (i + 2).toNatClampNeg = p2 := ⟨_, rfl⟩
  unfold wAll lvW
  obtain ⟨x, hX, hY⟩ := sim_meanError hN0 h
  have hs := (h.th 0).mono (show q ≤ q + 400 by omega)
  refine g_aload_n (pc := 1770) (x := rG) C dL_law_1770 rfl ?_
  refine g_callV (pc := 1771) (wc := (wG (kD k) rG (aS 0) rV rN (aT 0) ++ wS (kD k) aS v)) (wr := (wL (kD k) rL g ++ (wV (kD k) rV aV z ++ (wT (kD k) aT tx ++ (wN (kD k) rN (fN a0 a1 n0 n1) ++ (wO (kD k) a0 n0 ++ (wO (kD k) a1 n1 ++ wM (kD k) aM m))))))) C (((pm0 (List.Perm.refl _)).trans (pmc (pm0 (List.Perm.refl _)))).trans as2) (gr_V (y := yX4_meanError) (As := []) (rest := []) C (cX4_meanError_ (kL k) C.tr (kD k) N rG rV rN (aT 0) aS v x hX) (fun ht => cwV 0 ht gL_law_X4_meanError rfl rfl rfl hdX4_meanError ⟨(Nat.le_of_ble_eq_true rfl), (Nat.le_of_ble_eq_true rfl)⟩) 0 rfl rfl _ (rg_map _ _) (rg_nd _) rfl rfl (Nat.le_of_ble_eq_true rfl) dL_law_1771 ⟨by show cs + 0 ≤ _; omega, by show sl + 0 ≤ _; omega⟩) (fun rv w1 hp => ?_)
  obtain ⟨rfl, rfl⟩ := hp
  refine g_stack (st' := [.double x]) rfl ?_
  refine g_Perm as2.symm ?_
  refine g_dstore (pc := 1774) (lv' := [(5, .double x), (4, .int i), (3, .ref rL), (2, .ref (aM 0)), (1, .ref rG), (0, .ref b)]) C dL_law_1774 (by decide) rfl ?_
  refine g_aload_n (pc := 1776) (x := aM 0) C dL_law_1776 rfl ?_
  refine g_callV (pc := 1777) (wc := wM (kD k) aM m) (wr := (wG (kD k) rG (aS 0) rV rN (aT 0) ++ (wS (kD k) aS v ++ (wL (kD k) rL g ++ (wV (kD k) rV aV z ++ (wT (kD k) aT tx ++ (wN (kD k) rN (fN a0 a1 n0 n1) ++ (wO (kD k) a0 n0 ++ wO (kD k) a1 n1)))))))) C (pm0 (pm0 (pm0 (pm0 (pm0 (pm0 (pm0 pmL))))))) (gr_V (y := yX5_meanError) (As := []) (rest := []) C (cX5_meanError_ (kL k) C.tr (kD k) N aM m (mTh m 0, x) hY) (fun ht => cwV 0 ht gL_law_X5_meanError rfl rfl rfl hdX5_meanError ⟨(Nat.le_of_ble_eq_true rfl), (Nat.le_of_ble_eq_true rfl)⟩) 0 rfl rfl _ (rg_map _ _) (rg_nd _) rfl rfl (Nat.le_of_ble_eq_true rfl) dL_law_1777 ⟨by show cs + 0 + 0 ≤ _; omega, by show sl + 0 + 0 ≤ _; omega⟩) (fun rv w1 hp => ?_)
  obtain ⟨rfl, rfl⟩ := hp
  refine g_stack (st' := [.double x]) rfl ?_
  refine g_dstore (pc := 1780) (lv' := [(7, .double x), (5, .double x), (4, .int i), (3, .ref rL), (2, .ref (aM 0)), (1, .ref rG), (0, .ref b)]) C dL_law_1780 (by decide) rfl ?_
  have END : gG k (wM (kD k) aM (mTh m 0) ++ (wG (kD k) rG (aS 0) rV rN (aT 0) ++ (wS (kD k) aS v ++ (wL (kD k) rL g ++ (wV (kD k) rV aV z ++ (wT (kD k) aT tx ++ (wN (kD k) rN (fN a0 a1 n0 n1) ++ (wO (kD k) a0 n0 ++ wO (kD k) a1 n1)))))))) [(7, .double x), (5, .double x), (4, .int i), (3, .ref rL), (2, .ref (aM 0)), (1, .ref rG), (0, .ref b)] (cs + 0 + 0) (sl + 0 + 0) 1808 [] := by
    refine g_goto (pc := 1808) (tgt := 1811) C dL_law_1808 (by decide) ?_
    refine g_lv [2, 3, 4, 5, 6] (lv' := lvW b rG rL aM i) rfl ?_
    refine g_widen (c2 := cs + 10) (s2 := sl + 163) (by omega) (by omega) ?_
    exact g_Perm ((pm0 (pm0 (pm0 (List.Perm.refl _)))).trans (pmc ((pm0 (List.Perm.refl _)).trans (pmc ((pm0 (List.Perm.refl _)).trans (pmc ((pm0 (List.Perm.refl _)).trans (pmc ((pm0 (List.Perm.refl _)).trans (pmc ((pm0 (List.Perm.refl _)).trans (pmc ((pm0 (List.Perm.refl _)).trans (pmc pmL)))))))))))))) (K aV a0 a1 v z tx n0 n1 (mTh m 0) g hs)
  refine g_dload (pc := 1782) (x := x) C dL_law_1782 rfl ?_
  refine g_dload (pc := 1784) (x := x) C dL_law_1784 rfl ?_
  refine g_dcmp (pc := 1786) C dL_law_1786 ?_
  refine g_ifeqC (pc := 1787) (tgt := 1808) C dL_law_1787 (by decide) (fun _ => END) (fun hz => ?_)
  refine g_dload (pc := 1790) (x := x) C dL_law_1790 rfl ?_
  refine g_dload (pc := 1792) (x := x) C dL_law_1792 rfl ?_
  refine g_dcmp (pc := 1794) C dL_law_1794 ?_
  refine g_ifeqC (pc := 1795) (tgt := 1806) C dL_law_1795 (by decide) (fun hq => absurd hq hz) (fun _ => ?_)
  refine g_dload (pc := 1798) (x := x) C dL_law_1798 rfl ?_
  refine g_dload (pc := 1800) (x := x) C dL_law_1800 rfl ?_
  refine g_dcmp (pc := 1802) C dL_law_1802 ?_
  exact g_ifneC (pc := 1803) (tgt := 1808) C dL_law_1803 (by decide) (fun _ => END) (fun hq => absurd hq hz)
