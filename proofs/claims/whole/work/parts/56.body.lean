/-! the law's body from its entry -/
theorem df4 : ∀ j, j < 4 → defaultValue (tyX4 j) = vp_V [.null, .null, .null, .null] j := by
  intro j hj
  rcases (show j = 0 ∨ j = 1 ∨ j = 2 ∨ j = 3 by omega) with rfl | rfl | rfl | rfl <;> rfl
theorem df5 : ∀ j, j < 18 → defaultValue (tyX5 j) = vp_V [.null, .null, .int 0, .null, .null, .int 0, .null, .int 0, .null, .int 0, .int 0, .int 0, .int 0, .null, .null, .null, .int 0, .int 0] j := by
  intro j hj
  rcases (show j = 0 ∨ j = 1 ∨ j = 2 ∨ j = 3 ∨ j = 4 ∨ j = 5 ∨ j = 6 ∨ j = 7 ∨ j = 8 ∨ j = 9 ∨ j = 10 ∨ j = 11 ∨ j = 12 ∨ j = 13 ∨ j = 14 ∨ j = 15 ∨ j = 16 ∨ j = 17 by omega) with rfl | rfl | rfl | rfl | rfl | rfl | rfl | rfl | rfl | rfl | rfl | rfl | rfl | rfl | rfl | rfl | rfl | rfl <;> rfl
theorem fN_none (a0 a1 : Nat → Nat) : (fun _ => none : Nat → Option Nat) = fN a0 a1 none none := by
  funext i
  unfold fN
  by_cases h : i = 0
  · rw [if_pos h]; rfl
  · rw [if_neg h]
    by_cases h2 : i = 1
    · rw [if_pos h2]; rfl
    · rw [if_neg h2]
theorem inlX4w : ∀ w ∈ wsX40, w ∈ wsL_law := inlX4
set_option maxRecDepth 100000 in
set_option maxHeartbeats 4000000 in
theorem law_body {k : Kt} {nm : String} (C : gC k cL_law 9 RL wsL_law room_1 nm) {b L : Nat} {xs : Nat → Int32} (X : LX k b L xs) (hL : L ≤ 1536) (RET : ∀ (ws : va_W) (lv : List (Nat × Value)) (cs sl : Nat), cs ≤ 601024 → sl ≤ 7293034 → gG k ws lv cs sl 1817 []) : gG k [] [(0, .ref b)] 0 0 0 [] := by
  refine g_new (pc := 0) C (E := RX4) (T := TX4) (N := 4) (ci := 3) (by decide +kernel) (by decide +kernel) (by decide +kernel) inlX4 tyX4 tyX4_ok rfl (fs := [.null, .null, .null, .null]) df4 (Nat.le_of_ble_eq_true rfl) (Nat.le_of_ble_eq_true rfl) dL_law_0 (fun rG => ?_)
  refine g_dup (pc := 3) C dL_law_3 rfl ?_
  refine g_callV (pc := 4) (wc := w4_0 rG) (wr := []) (rest := [.ref rG]) C (List.Perm.refl _) (gr_I (y := yX4_init) C (cX4_init_ (kL k) C.tr (kD k) rG) (fun ht => cwI 0 ht gL_law_X4_init rfl rfl rfl (ht (.initialized RX4) (by decide +kernel)) (ht (.methodLink RL 96 yX4_init) (by decide +kernel)) (ht (.instanceMethod yX4_init) (by decide +kernel)) rfl hdX4_init ⟨(Nat.le_of_ble_eq_true rfl), (Nat.le_of_ble_eq_true rfl)⟩) [0] rfl rfl rfl rfl (Nat.le_of_ble_eq_true rfl) dL_law_4 ⟨(Nat.le_of_ble_eq_true rfl), (Nat.le_of_ble_eq_true rfl)⟩) (fun rv w1 hp => ?_)
  obtain ⟨rfl, rV, rN, aS, aV, aT, rfl⟩ := hp
  refine g_stack (st' := [.ref rG]) rfl ?_
  refine g_astore_n (pc := 7) (lv' := [(1, .ref rG), (0, .ref b)]) C dL_law_7 (by decide) rfl ?_
  refine g_new (pc := 8) C (E := RX5) (T := TX5) (N := 18) (ci := 4) (by decide +kernel) (by decide +kernel) (by decide +kernel) inlX5 tyX5 tyX5_ok rfl (fs := [.null, .null, .int 0, .null, .null, .int 0, .null, .int 0, .null, .int 0, .int 0, .int 0, .int 0, .null, .null, .null, .int 0, .int 0]) df5 (Nat.le_of_ble_eq_true rfl) (Nat.le_of_ble_eq_true rfl) dL_law_8 (fun rM => ?_)
  refine g_dup (pc := 11) C dL_law_11 rfl ?_
  refine g_callV (pc := 12) (wc := w5_0 rM) (wr := w4 (kD k) rG rV rN aS aV aT) (rest := [.ref rM]) C (by rw [List.append_nil]; exact pmL) (gr_I (y := yX5_init) C (cX5_init_ (kL k) C.tr (kD k) rM) (fun ht => cwI 0 ht gL_law_X5_init rfl rfl rfl (ht (.initialized RX5) (by decide +kernel)) (ht (.methodLink RL 99 yX5_init) (by decide +kernel)) (ht (.instanceMethod yX5_init) (by decide +kernel)) rfl hdX5_init ⟨(Nat.le_of_ble_eq_true rfl), (Nat.le_of_ble_eq_true rfl)⟩) [0] rfl rfl rfl rfl (Nat.le_of_ble_eq_true rfl) dL_law_12 ⟨(Nat.le_of_ble_eq_true rfl), (Nat.le_of_ble_eq_true rfl)⟩) (fun rv w1 hp => ?_)
  obtain ⟨rfl, l, rfl⟩ := hp
  refine g_stack (st' := [.ref rM]) rfl ?_
  refine g_astore_n (pc := 15) (lv' := [(2, .ref rM), (1, .ref rG), (0, .ref b)]) C dL_law_15 (by decide) rfl ?_
  refine g_iconst (pc := 16) (v := 1) C dL_law_16 (by decide) ?_
  refine g_newL (pc := 17) C (N := 1) (by decide +kernel) (by decide) (by decide) (by decide) (Nat.le_of_ble_eq_true rfl) (Nat.le_of_ble_eq_true rfl) dL_law_17 (fun rL => ?_)
  refine g_astore_n (pc := 19) (lv' := [(3, .ref rL), (2, .ref rM), (1, .ref rG), (0, .ref b)]) C dL_law_19 (by decide) rfl ?_
  refine g_iconst (pc := 20) (v := 0) C dL_law_20 (by decide) ?_
  refine g_istore (pc := 21) (lv' := lvW b rG rL (adr (rM :: l)) (nI (3 * 0))) C dL_law_21 (by decide) rfl ?_
  refine g_widen (c2 := 100 + 10 * 0) (s2 := 3000 + 163 * 0) (Nat.le_of_ble_eq_true rfl) (Nat.le_of_ble_eq_true rfl) ?_
  have e := law_loop C X hL (rG := rG) (rV := rV) (rN := rN) (rL := rL) (aS := aS) (aT := aT) (aM := adr (rM :: l)) RET 512 0 rfl aV aS aS iS iV iT none none iM (fun _ => 0) sm_start
  unfold wAll at e
  rw [← fN_none aS aS] at e
  refine g_Perm ?_ e
  show List.Perm ((wM (kD k) (adr (rM :: l)) iM ++ w4 (kD k) rG rV rN aS aV aT) ++ wL (kD k) rL (fun _ => 0)) _
  unfold w4
  show List.Perm ((wM (kD k) (adr (rM :: l)) iM ++ ((((wG (kD k) rG (aS 0) rV rN (aT 0) ++ wS (kD k) aS iS) ++ wV (kD k) rV aV iV) ++ wN (kD k) rN (fun _ => none)) ++ wT (kD k) aT iT)) ++ wL (kD k) rL (fun _ => 0)) (wL (kD k) rL (fun _ => 0) ++ (wG (kD k) rG (aS 0) rV rN (aT 0) ++ (wS (kD k) aS iS ++ (wV (kD k) rV aV iV ++ (wT (kD k) aT iT ++ (wN (kD k) rN (fun _ => none) ++ ([] ++ ([] ++ wM (kD k) (adr (rM :: l)) iM))))))))
  refine List.perm_append_comm.trans (List.Perm.append_left _ (List.perm_append_comm.trans ?_))
  rw [List.nil_append, List.nil_append, List.append_assoc, List.append_assoc, List.append_assoc, List.append_assoc]
  exact List.Perm.append_left _ (List.Perm.append_left _ (List.Perm.append_left _ (by
    rw [← List.append_assoc, ← List.append_assoc]
    exact List.Perm.append_right _ pmL)))
