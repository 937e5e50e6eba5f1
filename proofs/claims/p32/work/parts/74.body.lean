/-! the law's body from its entry -/
theorem df4 : ∀ j, j < 4 → defaultValue (tyX4 j) = vp_V [.null, .null, .null, .null] j := by
  intro j hj
  rcases (show j = 0 ∨ j = 1 ∨ j = 2 ∨ j = 3 by omega) with rfl | rfl | rfl | rfl <;> rfl
theorem pm_startG {α : Type} (G S V N T l e w h t n p : List α) : List.Perm (n ++ ((((((((((G ++ S) ++ V) ++ N) ++ T) ++ l) ++ e) ++ w) ++ h) ++ t) ++ p)) (G ++ (S ++ (T ++ (V ++ (l ++ (e ++ (w ++ (h ++ (t ++ (n ++ (p ++ N))))))))))) := by
  classical
  exact List.perm_iff_count.mpr (fun a => by simp only [List.count_append]; omega)
theorem pm_nG {α : Type} (W n p : List α) : List.Perm ((W ++ n) ++ p) (n ++ (W ++ p)) := by
  classical
  exact List.perm_iff_count.mpr (fun a => by simp only [List.count_append]; omega)
theorem pm_start (G S V N T l e w h t n p : va_W) : List.Perm (n ++ ((((((((((G ++ S) ++ V) ++ N) ++ T) ++ l) ++ e) ++ w) ++ h) ++ t) ++ p)) (G ++ (S ++ (T ++ (V ++ (l ++ (e ++ (w ++ (h ++ (t ++ (n ++ (p ++ N))))))))))) := pm_startG G S V N T l e w h t n p
theorem pm_n (W n p : va_W) : List.Perm ((W ++ n) ++ p) (n ++ (W ++ p)) := pm_nG W n p
theorem hg_0 (K : Nat → Int32) (s : Int32) : hg K 0 s = 0 := by rfl
theorem li_start : LI 0 0 iS (fun _ => 0) (fun _ => 0) (fun _ => 0) (fun _ => 0) (fun _ => 0) gn0 (fun _ => 0) := by
  refine ⟨⟨⟨by decide, rfl, by decide +kernel, fun b hb => absurd hb (by omega)⟩, fun j hj => ?_, ⟨by decide +kernel, by decide +kernel, by decide +kernel, by decide +kernel⟩, fun b hb => absurd hb (by omega)⟩, fun s hs => ⟨by rw [hg_0]; rfl, fun b hb => absurd hb (by omega)⟩, ⟨fun b hb => absurd hb (by omega), fun b hb => absurd hb (by omega), fun s hs b c hb => absurd hb (by omega), fun s hs => by rw [hg_0]; decide⟩, ⟨fun b hb => absurd hb (by omega), fun b hb => absurd hb (by omega), fun b hb => absurd hb (by omega), fun b hb => absurd hb (by omega), ?_⟩⟩
  · rcases (show j = 0 ∨ j = 1 ∨ j = 2 ∨ j = 3 by omega) with rfl | rfl | rfl | rfl <;> decide +kernel
  · exact ⟨by decide +kernel, by decide +kernel, by decide +kernel, by decide +kernel⟩
theorem zv_start : ZV iV := ⟨0, by decide, rfl⟩
theorem law_start (L : Nat) (xs : Nat → Int32) : fL_law72 L xs 2097152 iS iT iV (fun _ => 0) (fun _ => 0) (fun _ => 0) (fun _ => 0) (fun _ => 0) gn0 (fun _ => 0) (fun _ => none) = some 1 := law_is (Nat.le_refl _) zv_start li_start
set_option maxRecDepth 100000 in
set_option maxHeartbeats 4000000 in
theorem law_body {k : Kt} {nm : String} (C : gC k cL_law 15 RL wsL_law room_1 nm) {b L : Nat} {xs : Nat → Int32} (X : LX k b L xs) (hL : L ≤ 260) (RET : ∀ ws : va_W, gG k ws [(9, .int 1)] 100 2000 441 []) : gG k [] [(0, .ref b)] 0 0 0 [] := by
  refine g_new (pc := 0) C (E := RX4) (T := TX4) (N := 4) (ci := 3) (by decide +kernel) (by decide +kernel) (by decide +kernel) inlX4 tyX4 tyX4_ok rfl (fs := [.null, .null, .null, .null]) df4 (Nat.le_of_ble_eq_true rfl) (Nat.le_of_ble_eq_true rfl) dL_law_0 (fun rG => ?_)
  refine g_dup (pc := 3) C dL_law_3 rfl ?_
  refine g_callV (pc := 4) (wc := w4_0 rG) (wr := []) (rest := [.ref rG]) C (List.Perm.refl _) (gr_I (y := yX4_init) C (cX4_init_ (kL k) C.tr (kD k) rG) (fun ht => cwI 0 ht gL_law_X4_init rfl rfl rfl (ht (.initialized RX4) (by decide +kernel)) (ht (.methodLink RL 146 yX4_init) (by decide +kernel)) (ht (.instanceMethod yX4_init) (by decide +kernel)) rfl hdX4_init ⟨(Nat.le_of_ble_eq_true rfl), (Nat.le_of_ble_eq_true rfl)⟩) [0] rfl rfl rfl rfl (Nat.le_of_ble_eq_true rfl) dL_law_4 ⟨(Nat.le_of_ble_eq_true rfl), (Nat.le_of_ble_eq_true rfl)⟩) (fun rv w1 hp => ?_)
  obtain ⟨rfl, rV, rN, aS, aV, aT, rfl⟩ := hp
  refine g_world (List.append_nil _) ?_
  refine g_stack (st' := [.ref rG]) rfl ?_
  refine g_astore_n (pc := 7) (lv' := [(1, .ref rG), (0, .ref b)]) C dL_law_7 (by decide) rfl ?_
  refine g_bipush (pc := 8) (v := 10) C dL_law_8 (by decide) ?_
  refine g_newI (pc := 10) C (N := 10) (by decide +kernel) (by decide) (by decide) (by decide) (Nat.le_of_ble_eq_true rfl) (Nat.le_of_ble_eq_true rfl) dL_law_10 (fun ql => ?_)
  refine g_astore_n (pc := 12) (lv' := [(2, .ref ql), (1, .ref rG), (0, .ref b)]) C dL_law_12 (by decide) rfl ?_
  refine g_bipush (pc := 13) (v := 10) C dL_law_13 (by decide) ?_
  refine g_newI (pc := 15) C (N := 10) (by decide +kernel) (by decide) (by decide) (by decide) (Nat.le_of_ble_eq_true rfl) (Nat.le_of_ble_eq_true rfl) dL_law_15 (fun qe => ?_)
  refine g_astore_n (pc := 17) (lv' := [(3, .ref qe), (2, .ref ql), (1, .ref rG), (0, .ref b)]) C dL_law_17 (by decide) rfl ?_
  refine g_bipush (pc := 18) (v := 10) C dL_law_18 (by decide) ?_
  refine g_newI (pc := 20) C (N := 10) (by decide +kernel) (by decide) (by decide) (by decide) (Nat.le_of_ble_eq_true rfl) (Nat.le_of_ble_eq_true rfl) dL_law_20 (fun qw => ?_)
  refine g_astore (pc := 22) (lv' := [(4, .ref qw), (3, .ref qe), (2, .ref ql), (1, .ref rG), (0, .ref b)]) C dL_law_22 (by decide) rfl ?_
  refine g_bipush (pc := 24) (v := 10) C dL_law_24 (by decide) ?_
  refine g_newI (pc := 26) C (N := 10) (by decide +kernel) (by decide) (by decide) (by decide) (Nat.le_of_ble_eq_true rfl) (Nat.le_of_ble_eq_true rfl) dL_law_26 (fun qh => ?_)
  refine g_astore (pc := 28) (lv' := [(5, .ref qh), (4, .ref qw), (3, .ref qe), (2, .ref ql), (1, .ref rG), (0, .ref b)]) C dL_law_28 (by decide) rfl ?_
  refine g_bipush (pc := 30) (v := 10) C dL_law_30 (by decide) ?_
  refine g_newI (pc := 32) C (N := 10) (by decide +kernel) (by decide) (by decide) (by decide) (Nat.le_of_ble_eq_true rfl) (Nat.le_of_ble_eq_true rfl) dL_law_32 (fun qt => ?_)
  refine g_astore (pc := 34) (lv' := [(6, .ref qt), (5, .ref qh), (4, .ref qw), (3, .ref qe), (2, .ref ql), (1, .ref rG), (0, .ref b)]) C dL_law_34 (by decide) rfl ?_
  refine g_bipush (pc := 36) (v := 9) C dL_law_36 (by decide) ?_
  refine g_newI (pc := 38) C (N := 9) (by decide +kernel) (by decide) (by decide) (by decide) (Nat.le_of_ble_eq_true rfl) (Nat.le_of_ble_eq_true rfl) dL_law_38 (fun qn => ?_)
  refine g_astore (pc := 40) (lv' := [(7, .ref qn), (6, .ref qt), (5, .ref qh), (4, .ref qw), (3, .ref qe), (2, .ref ql), (1, .ref rG), (0, .ref b)]) C dL_law_40 (by decide) rfl ?_
  refine g_bipush (pc := 42) (v := 21) C dL_law_42 (by decide) ?_
  refine g_newI (pc := 44) C (N := 21) (by decide +kernel) (by decide) (by decide) (by decide) (Nat.le_of_ble_eq_true rfl) (Nat.le_of_ble_eq_true rfl) dL_law_44 (fun qp => ?_)
  refine g_astore (pc := 46) (lv' := [(8, .ref qp), (7, .ref qn), (6, .ref qt), (5, .ref qh), (4, .ref qw), (3, .ref qe), (2, .ref ql), (1, .ref rG), (0, .ref b)]) C dL_law_46 (by decide) rfl ?_
  refine g_Perm (pm_n _ _ _) ?_
  generalize hZ : (((((w4 (kD k) rG rV rN aS aV aT ++ [(ql, .inl ((kD k).1 100, 10, .inl (fun _ => 0)))]) ++ [(qe, .inl ((kD k).1 100, 10, .inl (fun _ => 0)))]) ++ [(qw, .inl ((kD k).1 100, 10, .inl (fun _ => 0)))]) ++ [(qh, .inl ((kD k).1 100, 10, .inl (fun _ => 0)))]) ++ [(qt, .inl ((kD k).1 100, 10, .inl (fun _ => 0)))]) ++ [(qp, .inl ((kD k).1 100, 21, .inl (fun _ => 0)))] = Z
  refine g_aload (pc := 48) (x := qn) C dL_law_48 rfl ?_
  refine g_iconst (pc := 50) (v := 0) C dL_law_50 (by decide) ?_
  refine g_bipush (pc := 51) (v := 10) C dL_law_51 (by decide) ?_
  refine g_iast (pc := 53) (X := some ()) (r := ()) (i := 0) (n := 9) rfl C 0 rfl dL_law_53 (ws' := wA9 (kD k) qn (upd (fun _ => 0) (Int32.toNatClampNeg 0) 10) ++ Z) rfl (fun _ => ?_)
  refine g_aload (pc := 54) (x := qn) C dL_law_54 rfl ?_
  refine g_iconst (pc := 56) (v := 1) C dL_law_56 (by decide) ?_
  refine g_sipush (pc := 57) (v := 300) C dL_law_57 (by decide) ?_
  refine g_iast (pc := 60) (X := some ()) (r := ()) (i := 1) (n := 9) rfl C 0 rfl dL_law_60 (ws' := wA9 (kD k) qn (upd (upd (fun _ => 0) (Int32.toNatClampNeg 0) 10) (Int32.toNatClampNeg 1) 300) ++ Z) rfl (fun _ => ?_)
  refine g_aload (pc := 61) (x := qn) C dL_law_61 rfl ?_
  refine g_iconst (pc := 63) (v := 2) C dL_law_63 (by decide) ?_
  refine g_iconst (pc := 64) (v := 3) C dL_law_64 (by decide) ?_
  refine g_iast (pc := 65) (X := some ()) (r := ()) (i := 2) (n := 9) rfl C 0 rfl dL_law_65 (ws' := wA9 (kD k) qn (upd (upd (upd (fun _ => 0) (Int32.toNatClampNeg 0) 10) (Int32.toNatClampNeg 1) 300) (Int32.toNatClampNeg 2) 3) ++ Z) rfl (fun _ => ?_)
  refine g_aload (pc := 66) (x := qn) C dL_law_66 rfl ?_
  refine g_iconst (pc := 68) (v := 3) C dL_law_68 (by decide) ?_
  refine g_bipush (pc := 69) (v := 40) C dL_law_69 (by decide) ?_
  refine g_iast (pc := 71) (X := some ()) (r := ()) (i := 3) (n := 9) rfl C 0 rfl dL_law_71 (ws' := wA9 (kD k) qn gn0 ++ Z) rfl (fun _ => ?_)
  refine g_lv [8, 7, 6, 5, 4, 3, 2, 1, 0] (lv' := [(0, .ref b), (1, .ref rG), (2, .ref ql), (3, .ref qe), (4, .ref qw), (5, .ref qh), (6, .ref qt), (7, .ref qn), (8, .ref qp)]) rfl ?_
  refine g_widen (c2 := 100) (s2 := 2000) (Nat.le_of_ble_eq_true rfl) (Nat.le_of_ble_eq_true rfl) ?_
  subst hZ
  refine g_Perm (pm_start (wG (kD k) rG (aS 0) rV rN (aT 0)) (wS (kD k) aS iS) (wV (kD k) rV aV iV) (wN (kD k) rN (fun _ => none)) (wT (kD k) aT iT) (wA10 (kD k) ql (fun _ => 0)) (wA10 (kD k) qe (fun _ => 0)) (wA10 (kD k) qw (fun _ => 0)) (wA10 (kD k) qh (fun _ => 0)) (wA10 (kD k) qt (fun _ => 0)) (wA9 (kD k) qn gn0) (wA21 (kD k) qp (fun _ => 0))) ?_
  exact wkL_law72 C X hL 2097152 rG aS aT rV aV ql qe qw qh qt qn qp rN iS iT iV (fun _ => 0) (fun _ => 0) (fun _ => 0) (fun _ => 0) (fun _ => 0) gn0 (fun _ => 0) (fun _ => none) 1 (law_start L xs) RET
