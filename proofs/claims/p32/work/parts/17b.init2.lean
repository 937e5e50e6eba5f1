/-! the constructors that make states -/
def av6 (a0 : Nat) (f0 f1 f2 f3 f4 f5 : Nat → Nat) (n : Nat) : Nat := if n = 0 then a0 else if n < 10 then f0 (n - 1) else if n < 19 then f1 (n - 10) else if n < 28 then f2 (n - 19) else if n < 37 then f3 (n - 28) else if n < 46 then f4 (n - 37) else f5 (n - 46)
theorem df1 : ∀ j, j < 6 → defaultValue (tyX1 j) = vp_V [.null, .int 0, .int 0, .int 0, .int 0, .int 0] j := by
  intro j hj
  rcases (show j = 0 ∨ j = 1 ∨ j = 2 ∨ j = 3 ∨ j = 4 ∨ j = 5 by omega) with rfl | rfl | rfl | rfl | rfl | rfl <;> rfl
theorem df2 : ∀ j, j < 2 → defaultValue (tyX2 j) = vp_V [.null, .int 0] j := by
  intro j hj
  rcases (show j = 0 ∨ j = 1 by omega) with rfl | rfl <;> rfl
theorem df3 : ∀ j, j < 13 → defaultValue (tyX3 j) = vp_V [.null, .null, .null, .null, .null, .null, .null, .null, .int 0, .int 0, .int 0, .int 0, .int 0] j := by
  intro j hj
  rcases (show j = 0 ∨ j = 1 ∨ j = 2 ∨ j = 3 ∨ j = 4 ∨ j = 5 ∨ j = 6 ∨ j = 7 ∨ j = 8 ∨ j = 9 ∨ j = 10 ∨ j = 11 ∨ j = 12 by omega) with rfl | rfl | rfl | rfl | rfl | rfl | rfl | rfl | rfl | rfl | rfl | rfl | rfl <;> rfl
abbrev rmX2_init : Room := { frames := 2, cells := 55, slots := 954, locals := 80 }
theorem lkX2_init_11 : Cond.fieldLink RX2 11 "GaugeBlocks$SavedStates" (TX2 0).2.1 (TX2 0).2.2.1 ∈ wsX2_init := by decide +kernel
theorem inX2_init_X2 : ∀ w ∈ wsX20, w ∈ wsX2_init := by decide +kernel
theorem inX2_init_X3 : ∀ w ∈ wsX30, w ∈ wsX2_init := by decide +kernel
theorem hdX2_init : yX2_init.cls ≠ "java/lang/invoke/MethodHandle" ∧ yX2_init.cls ≠ "java/lang/invoke/VarHandle" ∧ (parseMethodDescriptor yX2_init.desc).map (fun d => d.parameters.length) = some 0 := by decide +kernel
def w2_0 (b : Nat) : va_W := [(b, .inr (1, [.null, .int 0]))]
theorem fq6 (q0 q1 q2 q3 q4 q5 a0 : Nat) (f0 f1 f2 f3 f4 f5 : Nat → Nat) (e0 : f0 0 = q0) (e1 : f1 0 = q1) (e2 : f2 0 = q2) (e3 : f3 0 = q3) (e4 : f4 0 = q4) (e5 : f5 0 = q5) : (va_up (va_up (va_up (va_up (va_up (va_up (fun _ => none) 0 (some q0)) 1 (some q1)) 2 (some q2)) 3 (some q3)) 4 (some q4)) 5 (some q5)) = (fun i => if i < 6 then some (av6 a0 f0 f1 f2 f3 f4 f5 (1 + 9 * i)) else none : Nat → Option Nat) := by
  funext i
  subst e0 e1 e2 e3 e4 e5
  by_cases h : i < 6
  · rcases (show i = 0 ∨ i = 1 ∨ i = 2 ∨ i = 3 ∨ i = 4 ∨ i = 5 by omega) with rfl | rfl | rfl | rfl | rfl | rfl <;> rfl
  · simp only [va_up]
    rw [if_neg h, if_neg (by omega), if_neg (by omega), if_neg (by omega), if_neg (by omega), if_neg (by omega), if_neg (by omega)]
set_option maxRecDepth 100000 in
set_option maxHeartbeats 4000000 in
theorem wkX2_init {k : Kt} (C : gC k cX2_init 2 RX2 wsX2_init rmX2_init "<init>") (b : Nat) (E : gE k (w2_0 b) (fun rv w => rv = none ∧ ∃ a : Nat → Nat, w = wV (kD k) b a iV) (fun _ _ => False) 55 954 none []) : gG k (w2_0 b) [(0, .ref b)] 0 0 0 [] := by
  have hl := C.amb.2.2.2.2.2.1 (.methodLinkNest RX2 17 yX3_init "GaugeBlocks") (by decide +kernel)
  refine g_aload_n (pc := 0) (x := b) C dX2_init_0 rfl ?_
  refine g_objInit (pc := 1) C (ix := 3) (by decide +kernel) (by decide +kernel) (by decide +kernel) (by decide) (by decide) dX2_init_1 ?_
  refine g_aload_n (pc := 4) (x := b) C dX2_init_4 rfl ?_
  refine g_bipush (pc := 5) (v := 6) C dX2_init_5 (by decide) ?_
  refine g_newQ (pc := 7) C (N := 6) (by decide +kernel) (by decide) (by decide) (by decide) (Nat.le_of_ble_eq_true rfl) (Nat.le_of_ble_eq_true rfl) dX2_init_7 (fun a0 => ?_)
  refine g_putF (pc := 10) C 0 rfl rfl inX2_init_X2 tyX2 tyX2_ok nmX2 0 (by decide) lkX2_init_11 rfl rfl (tyX2_ok 0 (by decide)) rfl rfl (Nat.le_of_ble_eq_true rfl) dX2_init_10 (ws' := [(b, .inr (1, [.ref a0, .int 0])), (a0, .inl ((kD k).1 103, 6, .inr (.inr (.inr (.inr (fun _ => none))))))]) rfl ?_
  refine g_iconst (pc := 13) (v := 0) C dX2_init_13 (by decide) ?_
  refine g_istore_n (pc := 14) (lv' := [(1, .int 0), (0, .ref b)]) C dX2_init_14 (by decide) rfl ?_
  refine g_iload_n (pc := 15) (x := 0) C dX2_init_15 rfl ?_
  refine g_bipush (pc := 16) (v := 6) C dX2_init_16 (by decide) ?_
  refine g_icmp_ge_f (pc := 18) (tgt := 40) C (by decide) dX2_init_18 (by decide) ?_
  refine g_aload_n (pc := 21) (x := b) C dX2_init_21 rfl ?_
  refine g_getf (pc := 22) C 0 rfl rfl inX2_init_X2 0 (by decide) lkX2_init_11 rfl rfl dX2_init_22 ?_
  refine g_iload_n (pc := 25) (x := 0) C dX2_init_25 rfl ?_
  refine g_new (pc := 26) C (E := RX3) (T := TX3) (N := 13) (ci := 2) (by decide +kernel) (by decide +kernel) (by decide +kernel) inX2_init_X3 tyX3 tyX3_ok rfl (fs := [.null, .null, .null, .null, .null, .null, .null, .null, .int 0, .int 0, .int 0, .int 0, .int 0]) df3 (Nat.le_of_ble_eq_true rfl) (Nat.le_of_ble_eq_true rfl) dX2_init_26 (fun q0 => ?_)
  refine g_dup (pc := 29) C dX2_init_29 rfl ?_
  refine g_callG (pc := 30) (wc := w3_0 q0) (wr := [(b, .inr (1, [.ref a0, .int 0])), (a0, .inl ((kD k).1 103, 6, .inr (.inr (.inr (.inr (fun _ => none))))))]) (rest := [.ref q0, .int 0, .ref a0]) C (gr_IN (y := yX3_init) (host := "GaugeBlocks") C (cX3_init_ (kL k) C.tr (kD k) q0) (fun ht => ⟨va_cnB 0 ht gX2_init_X3_init_n17 rfl rfl rfl hl (ht (.initialized RX3) (by decide +kernel)) hdX3_init ⟨(Nat.le_of_ble_eq_true rfl), (Nat.le_of_ble_eq_true rfl)⟩, rfl, ht (.instanceMethod yX3_init) (by decide +kernel)⟩) [2] rfl rfl rfl rfl (Nat.le_of_ble_eq_true rfl) dX2_init_30 ⟨(Nat.le_of_ble_eq_true rfl), (Nat.le_of_ble_eq_true rfl)⟩) [2] [0, 1] rfl rfl rfl (by decide) (fun _ _ h => h.elim) (fun rv w1 hp => ?_)
  obtain ⟨rfl, l0, rfl⟩ := hp
  refine g_stack (st' := [.ref q0, .int 0, .ref a0]) rfl ?_
  refine g_astq (pc := 33) C (j := 0) 1 2 rfl rfl (by decide) (by decide) dX2_init_33 (ws' := ([(b, .inr (1, [.ref a0, .int 0])), (a0, .inl ((kD k).1 103, 6, .inr (.inr (.inr (.inr (va_up (fun _ => none) 0 (some q0)))))))] ++ wS (kD k) (adr (q0 :: l0)) iS)) rfl ?_
  refine g_iinc (pc := 34) (x := 0) (v := 1) (lv' := [(1, .int 1), (0, .ref b)]) C dX2_init_34 rfl (by decide) (by decide) rfl ?_
  refine g_goto (pc := 37) (tgt := 15) C dX2_init_37 (by decide) ?_
  refine g_iload_n (pc := 15) (x := 1) C dX2_init_15 rfl ?_
  refine g_bipush (pc := 16) (v := 6) C dX2_init_16 (by decide) ?_
  refine g_icmp_ge_f (pc := 18) (tgt := 40) C (by decide) dX2_init_18 (by decide) ?_
  refine g_aload_n (pc := 21) (x := b) C dX2_init_21 rfl ?_
  refine g_getf (pc := 22) C 0 rfl rfl inX2_init_X2 0 (by decide) lkX2_init_11 rfl rfl dX2_init_22 ?_
  refine g_iload_n (pc := 25) (x := 1) C dX2_init_25 rfl ?_
  refine g_new (pc := 26) C (E := RX3) (T := TX3) (N := 13) (ci := 2) (by decide +kernel) (by decide +kernel) (by decide +kernel) inX2_init_X3 tyX3 tyX3_ok rfl (fs := [.null, .null, .null, .null, .null, .null, .null, .null, .int 0, .int 0, .int 0, .int 0, .int 0]) df3 (Nat.le_of_ble_eq_true rfl) (Nat.le_of_ble_eq_true rfl) dX2_init_26 (fun q1 => ?_)
  refine g_dup (pc := 29) C dX2_init_29 rfl ?_
  refine g_callG (pc := 30) (wc := w3_0 q1) (wr := ([(b, .inr (1, [.ref a0, .int 0])), (a0, .inl ((kD k).1 103, 6, .inr (.inr (.inr (.inr (va_up (fun _ => none) 0 (some q0)))))))] ++ wS (kD k) (adr (q0 :: l0)) iS)) (rest := [.ref q1, .int 1, .ref a0]) C (gr_IN (y := yX3_init) (host := "GaugeBlocks") C (cX3_init_ (kL k) C.tr (kD k) q1) (fun ht => ⟨va_cnB 0 ht gX2_init_X3_init_n17 rfl rfl rfl hl (ht (.initialized RX3) (by decide +kernel)) hdX3_init ⟨(Nat.le_of_ble_eq_true rfl), (Nat.le_of_ble_eq_true rfl)⟩, rfl, ht (.instanceMethod yX3_init) (by decide +kernel)⟩) [11] rfl rfl rfl rfl (Nat.le_of_ble_eq_true rfl) dX2_init_30 ⟨(Nat.le_of_ble_eq_true rfl), (Nat.le_of_ble_eq_true rfl)⟩) [11] [0, 1, 2, 3, 4, 5, 6, 7, 8, 9, 10] rfl rfl rfl (by decide) (fun _ _ h => h.elim) (fun rv w1 hp => ?_)
  obtain ⟨rfl, l1, rfl⟩ := hp
  refine g_stack (st' := [.ref q1, .int 1, .ref a0]) rfl ?_
  refine g_astq (pc := 33) C (j := 1) 1 11 rfl rfl (by decide) (by decide) dX2_init_33 (ws' := (([(b, .inr (1, [.ref a0, .int 0])), (a0, .inl ((kD k).1 103, 6, .inr (.inr (.inr (.inr (va_up (va_up (fun _ => none) 0 (some q0)) 1 (some q1)))))))] ++ wS (kD k) (adr (q0 :: l0)) iS) ++ wS (kD k) (adr (q1 :: l1)) iS)) rfl ?_
  refine g_iinc (pc := 34) (x := 1) (v := 2) (lv' := [(1, .int 2), (0, .ref b)]) C dX2_init_34 rfl (by decide) (by decide) rfl ?_
  refine g_goto (pc := 37) (tgt := 15) C dX2_init_37 (by decide) ?_
  refine g_iload_n (pc := 15) (x := 2) C dX2_init_15 rfl ?_
  refine g_bipush (pc := 16) (v := 6) C dX2_init_16 (by decide) ?_
  refine g_icmp_ge_f (pc := 18) (tgt := 40) C (by decide) dX2_init_18 (by decide) ?_
  refine g_aload_n (pc := 21) (x := b) C dX2_init_21 rfl ?_
  refine g_getf (pc := 22) C 0 rfl rfl inX2_init_X2 0 (by decide) lkX2_init_11 rfl rfl dX2_init_22 ?_
  refine g_iload_n (pc := 25) (x := 2) C dX2_init_25 rfl ?_
  refine g_new (pc := 26) C (E := RX3) (T := TX3) (N := 13) (ci := 2) (by decide +kernel) (by decide +kernel) (by decide +kernel) inX2_init_X3 tyX3 tyX3_ok rfl (fs := [.null, .null, .null, .null, .null, .null, .null, .null, .int 0, .int 0, .int 0, .int 0, .int 0]) df3 (Nat.le_of_ble_eq_true rfl) (Nat.le_of_ble_eq_true rfl) dX2_init_26 (fun q2 => ?_)
  refine g_dup (pc := 29) C dX2_init_29 rfl ?_
  refine g_callG (pc := 30) (wc := w3_0 q2) (wr := (([(b, .inr (1, [.ref a0, .int 0])), (a0, .inl ((kD k).1 103, 6, .inr (.inr (.inr (.inr (va_up (va_up (fun _ => none) 0 (some q0)) 1 (some q1)))))))] ++ wS (kD k) (adr (q0 :: l0)) iS) ++ wS (kD k) (adr (q1 :: l1)) iS)) (rest := [.ref q2, .int 2, .ref a0]) C (gr_IN (y := yX3_init) (host := "GaugeBlocks") C (cX3_init_ (kL k) C.tr (kD k) q2) (fun ht => ⟨va_cnB 0 ht gX2_init_X3_init_n17 rfl rfl rfl hl (ht (.initialized RX3) (by decide +kernel)) hdX3_init ⟨(Nat.le_of_ble_eq_true rfl), (Nat.le_of_ble_eq_true rfl)⟩, rfl, ht (.instanceMethod yX3_init) (by decide +kernel)⟩) [20] rfl rfl rfl rfl (Nat.le_of_ble_eq_true rfl) dX2_init_30 ⟨(Nat.le_of_ble_eq_true rfl), (Nat.le_of_ble_eq_true rfl)⟩) [20] [0, 1, 2, 3, 4, 5, 6, 7, 8, 9, 10, 11, 12, 13, 14, 15, 16, 17, 18, 19] rfl rfl rfl (by decide) (fun _ _ h => h.elim) (fun rv w1 hp => ?_)
  obtain ⟨rfl, l2, rfl⟩ := hp
  refine g_stack (st' := [.ref q2, .int 2, .ref a0]) rfl ?_
  refine g_astq (pc := 33) C (j := 2) 1 20 rfl rfl (by decide) (by decide) dX2_init_33 (ws' := ((([(b, .inr (1, [.ref a0, .int 0])), (a0, .inl ((kD k).1 103, 6, .inr (.inr (.inr (.inr (va_up (va_up (va_up (fun _ => none) 0 (some q0)) 1 (some q1)) 2 (some q2)))))))] ++ wS (kD k) (adr (q0 :: l0)) iS) ++ wS (kD k) (adr (q1 :: l1)) iS) ++ wS (kD k) (adr (q2 :: l2)) iS)) rfl ?_
  refine g_iinc (pc := 34) (x := 2) (v := 3) (lv' := [(1, .int 3), (0, .ref b)]) C dX2_init_34 rfl (by decide) (by decide) rfl ?_
  refine g_goto (pc := 37) (tgt := 15) C dX2_init_37 (by decide) ?_
  refine g_iload_n (pc := 15) (x := 3) C dX2_init_15 rfl ?_
  refine g_bipush (pc := 16) (v := 6) C dX2_init_16 (by decide) ?_
  refine g_icmp_ge_f (pc := 18) (tgt := 40) C (by decide) dX2_init_18 (by decide) ?_
  refine g_aload_n (pc := 21) (x := b) C dX2_init_21 rfl ?_
  refine g_getf (pc := 22) C 0 rfl rfl inX2_init_X2 0 (by decide) lkX2_init_11 rfl rfl dX2_init_22 ?_
  refine g_iload_n (pc := 25) (x := 3) C dX2_init_25 rfl ?_
  refine g_new (pc := 26) C (E := RX3) (T := TX3) (N := 13) (ci := 2) (by decide +kernel) (by decide +kernel) (by decide +kernel) inX2_init_X3 tyX3 tyX3_ok rfl (fs := [.null, .null, .null, .null, .null, .null, .null, .null, .int 0, .int 0, .int 0, .int 0, .int 0]) df3 (Nat.le_of_ble_eq_true rfl) (Nat.le_of_ble_eq_true rfl) dX2_init_26 (fun q3 => ?_)
  refine g_dup (pc := 29) C dX2_init_29 rfl ?_
  refine g_callG (pc := 30) (wc := w3_0 q3) (wr := ((([(b, .inr (1, [.ref a0, .int 0])), (a0, .inl ((kD k).1 103, 6, .inr (.inr (.inr (.inr (va_up (va_up (va_up (fun _ => none) 0 (some q0)) 1 (some q1)) 2 (some q2)))))))] ++ wS (kD k) (adr (q0 :: l0)) iS) ++ wS (kD k) (adr (q1 :: l1)) iS) ++ wS (kD k) (adr (q2 :: l2)) iS)) (rest := [.ref q3, .int 3, .ref a0]) C (gr_IN (y := yX3_init) (host := "GaugeBlocks") C (cX3_init_ (kL k) C.tr (kD k) q3) (fun ht => ⟨va_cnB 0 ht gX2_init_X3_init_n17 rfl rfl rfl hl (ht (.initialized RX3) (by decide +kernel)) hdX3_init ⟨(Nat.le_of_ble_eq_true rfl), (Nat.le_of_ble_eq_true rfl)⟩, rfl, ht (.instanceMethod yX3_init) (by decide +kernel)⟩) [29] rfl rfl rfl rfl (Nat.le_of_ble_eq_true rfl) dX2_init_30 ⟨(Nat.le_of_ble_eq_true rfl), (Nat.le_of_ble_eq_true rfl)⟩) [29] [0, 1, 2, 3, 4, 5, 6, 7, 8, 9, 10, 11, 12, 13, 14, 15, 16, 17, 18, 19, 20, 21, 22, 23, 24, 25, 26, 27, 28] rfl rfl rfl (by decide) (fun _ _ h => h.elim) (fun rv w1 hp => ?_)
  obtain ⟨rfl, l3, rfl⟩ := hp
  refine g_stack (st' := [.ref q3, .int 3, .ref a0]) rfl ?_
  refine g_astq (pc := 33) C (j := 3) 1 29 rfl rfl (by decide) (by decide) dX2_init_33 (ws' := (((([(b, .inr (1, [.ref a0, .int 0])), (a0, .inl ((kD k).1 103, 6, .inr (.inr (.inr (.inr (va_up (va_up (va_up (va_up (fun _ => none) 0 (some q0)) 1 (some q1)) 2 (some q2)) 3 (some q3)))))))] ++ wS (kD k) (adr (q0 :: l0)) iS) ++ wS (kD k) (adr (q1 :: l1)) iS) ++ wS (kD k) (adr (q2 :: l2)) iS) ++ wS (kD k) (adr (q3 :: l3)) iS)) rfl ?_
  refine g_iinc (pc := 34) (x := 3) (v := 4) (lv' := [(1, .int 4), (0, .ref b)]) C dX2_init_34 rfl (by decide) (by decide) rfl ?_
  refine g_goto (pc := 37) (tgt := 15) C dX2_init_37 (by decide) ?_
  refine g_iload_n (pc := 15) (x := 4) C dX2_init_15 rfl ?_
  refine g_bipush (pc := 16) (v := 6) C dX2_init_16 (by decide) ?_
  refine g_icmp_ge_f (pc := 18) (tgt := 40) C (by decide) dX2_init_18 (by decide) ?_
  refine g_aload_n (pc := 21) (x := b) C dX2_init_21 rfl ?_
  refine g_getf (pc := 22) C 0 rfl rfl inX2_init_X2 0 (by decide) lkX2_init_11 rfl rfl dX2_init_22 ?_
  refine g_iload_n (pc := 25) (x := 4) C dX2_init_25 rfl ?_
  refine g_new (pc := 26) C (E := RX3) (T := TX3) (N := 13) (ci := 2) (by decide +kernel) (by decide +kernel) (by decide +kernel) inX2_init_X3 tyX3 tyX3_ok rfl (fs := [.null, .null, .null, .null, .null, .null, .null, .null, .int 0, .int 0, .int 0, .int 0, .int 0]) df3 (Nat.le_of_ble_eq_true rfl) (Nat.le_of_ble_eq_true rfl) dX2_init_26 (fun q4 => ?_)
  refine g_dup (pc := 29) C dX2_init_29 rfl ?_
  refine g_callG (pc := 30) (wc := w3_0 q4) (wr := (((([(b, .inr (1, [.ref a0, .int 0])), (a0, .inl ((kD k).1 103, 6, .inr (.inr (.inr (.inr (va_up (va_up (va_up (va_up (fun _ => none) 0 (some q0)) 1 (some q1)) 2 (some q2)) 3 (some q3)))))))] ++ wS (kD k) (adr (q0 :: l0)) iS) ++ wS (kD k) (adr (q1 :: l1)) iS) ++ wS (kD k) (adr (q2 :: l2)) iS) ++ wS (kD k) (adr (q3 :: l3)) iS)) (rest := [.ref q4, .int 4, .ref a0]) C (gr_IN (y := yX3_init) (host := "GaugeBlocks") C (cX3_init_ (kL k) C.tr (kD k) q4) (fun ht => ⟨va_cnB 0 ht gX2_init_X3_init_n17 rfl rfl rfl hl (ht (.initialized RX3) (by decide +kernel)) hdX3_init ⟨(Nat.le_of_ble_eq_true rfl), (Nat.le_of_ble_eq_true rfl)⟩, rfl, ht (.instanceMethod yX3_init) (by decide +kernel)⟩) [38] rfl rfl rfl rfl (Nat.le_of_ble_eq_true rfl) dX2_init_30 ⟨(Nat.le_of_ble_eq_true rfl), (Nat.le_of_ble_eq_true rfl)⟩) [38] [0, 1, 2, 3, 4, 5, 6, 7, 8, 9, 10, 11, 12, 13, 14, 15, 16, 17, 18, 19, 20, 21, 22, 23, 24, 25, 26, 27, 28, 29, 30, 31, 32, 33, 34, 35, 36, 37] rfl rfl rfl (by decide) (fun _ _ h => h.elim) (fun rv w1 hp => ?_)
  obtain ⟨rfl, l4, rfl⟩ := hp
  refine g_stack (st' := [.ref q4, .int 4, .ref a0]) rfl ?_
  refine g_astq (pc := 33) C (j := 4) 1 38 rfl rfl (by decide) (by decide) dX2_init_33 (ws' := ((((([(b, .inr (1, [.ref a0, .int 0])), (a0, .inl ((kD k).1 103, 6, .inr (.inr (.inr (.inr (va_up (va_up (va_up (va_up (va_up (fun _ => none) 0 (some q0)) 1 (some q1)) 2 (some q2)) 3 (some q3)) 4 (some q4)))))))] ++ wS (kD k) (adr (q0 :: l0)) iS) ++ wS (kD k) (adr (q1 :: l1)) iS) ++ wS (kD k) (adr (q2 :: l2)) iS) ++ wS (kD k) (adr (q3 :: l3)) iS) ++ wS (kD k) (adr (q4 :: l4)) iS)) rfl ?_
  refine g_iinc (pc := 34) (x := 4) (v := 5) (lv' := [(1, .int 5), (0, .ref b)]) C dX2_init_34 rfl (by decide) (by decide) rfl ?_
  refine g_goto (pc := 37) (tgt := 15) C dX2_init_37 (by decide) ?_
  refine g_iload_n (pc := 15) (x := 5) C dX2_init_15 rfl ?_
  refine g_bipush (pc := 16) (v := 6) C dX2_init_16 (by decide) ?_
  refine g_icmp_ge_f (pc := 18) (tgt := 40) C (by decide) dX2_init_18 (by decide) ?_
  refine g_aload_n (pc := 21) (x := b) C dX2_init_21 rfl ?_
  refine g_getf (pc := 22) C 0 rfl rfl inX2_init_X2 0 (by decide) lkX2_init_11 rfl rfl dX2_init_22 ?_
  refine g_iload_n (pc := 25) (x := 5) C dX2_init_25 rfl ?_
  refine g_new (pc := 26) C (E := RX3) (T := TX3) (N := 13) (ci := 2) (by decide +kernel) (by decide +kernel) (by decide +kernel) inX2_init_X3 tyX3 tyX3_ok rfl (fs := [.null, .null, .null, .null, .null, .null, .null, .null, .int 0, .int 0, .int 0, .int 0, .int 0]) df3 (Nat.le_of_ble_eq_true rfl) (Nat.le_of_ble_eq_true rfl) dX2_init_26 (fun q5 => ?_)
  refine g_dup (pc := 29) C dX2_init_29 rfl ?_
  refine g_callG (pc := 30) (wc := w3_0 q5) (wr := ((((([(b, .inr (1, [.ref a0, .int 0])), (a0, .inl ((kD k).1 103, 6, .inr (.inr (.inr (.inr (va_up (va_up (va_up (va_up (va_up (fun _ => none) 0 (some q0)) 1 (some q1)) 2 (some q2)) 3 (some q3)) 4 (some q4)))))))] ++ wS (kD k) (adr (q0 :: l0)) iS) ++ wS (kD k) (adr (q1 :: l1)) iS) ++ wS (kD k) (adr (q2 :: l2)) iS) ++ wS (kD k) (adr (q3 :: l3)) iS) ++ wS (kD k) (adr (q4 :: l4)) iS)) (rest := [.ref q5, .int 5, .ref a0]) C (gr_IN (y := yX3_init) (host := "GaugeBlocks") C (cX3_init_ (kL k) C.tr (kD k) q5) (fun ht => ⟨va_cnB 0 ht gX2_init_X3_init_n17 rfl rfl rfl hl (ht (.initialized RX3) (by decide +kernel)) hdX3_init ⟨(Nat.le_of_ble_eq_true rfl), (Nat.le_of_ble_eq_true rfl)⟩, rfl, ht (.instanceMethod yX3_init) (by decide +kernel)⟩) [47] rfl rfl rfl rfl (Nat.le_of_ble_eq_true rfl) dX2_init_30 ⟨(Nat.le_of_ble_eq_true rfl), (Nat.le_of_ble_eq_true rfl)⟩) [47] [0, 1, 2, 3, 4, 5, 6, 7, 8, 9, 10, 11, 12, 13, 14, 15, 16, 17, 18, 19, 20, 21, 22, 23, 24, 25, 26, 27, 28, 29, 30, 31, 32, 33, 34, 35, 36, 37, 38, 39, 40, 41, 42, 43, 44, 45, 46] rfl rfl rfl (by decide) (fun _ _ h => h.elim) (fun rv w1 hp => ?_)
  obtain ⟨rfl, l5, rfl⟩ := hp
  refine g_stack (st' := [.ref q5, .int 5, .ref a0]) rfl ?_
  refine g_astq (pc := 33) C (j := 5) 1 47 rfl rfl (by decide) (by decide) dX2_init_33 (ws' := (((((([(b, .inr (1, [.ref a0, .int 0])), (a0, .inl ((kD k).1 103, 6, .inr (.inr (.inr (.inr (va_up (va_up (va_up (va_up (va_up (va_up (fun _ => none) 0 (some q0)) 1 (some q1)) 2 (some q2)) 3 (some q3)) 4 (some q4)) 5 (some q5)))))))] ++ wS (kD k) (adr (q0 :: l0)) iS) ++ wS (kD k) (adr (q1 :: l1)) iS) ++ wS (kD k) (adr (q2 :: l2)) iS) ++ wS (kD k) (adr (q3 :: l3)) iS) ++ wS (kD k) (adr (q4 :: l4)) iS) ++ wS (kD k) (adr (q5 :: l5)) iS)) rfl ?_
  refine g_iinc (pc := 34) (x := 5) (v := 6) (lv' := [(1, .int 6), (0, .ref b)]) C dX2_init_34 rfl (by decide) (by decide) rfl ?_
  refine g_goto (pc := 37) (tgt := 15) C dX2_init_37 (by decide) ?_
  refine g_iload_n (pc := 15) (x := 6) C dX2_init_15 rfl ?_
  refine g_bipush (pc := 16) (v := 6) C dX2_init_16 (by decide) ?_
  refine g_icmp_ge_t (pc := 18) (tgt := 40) C (by decide) dX2_init_18 (by decide) ?_
  refine g_world (ws' := wV (kD k) b (av6 a0 (adr (q0 :: l0)) (adr (q1 :: l1)) (adr (q2 :: l2)) (adr (q3 :: l3)) (adr (q4 :: l4)) (adr (q5 :: l5))) iV) (by rw [fq6 q0 q1 q2 q3 q4 q5 a0 (adr (q0 :: l0)) (adr (q1 :: l1)) (adr (q2 :: l2)) (adr (q3 :: l3)) (adr (q4 :: l4)) (adr (q5 :: l5)) rfl rfl rfl rfl rfl rfl]; rfl) ?_
  exact g_vret (pc := 40) C E dX2_init_40 (Nat.le_of_ble_eq_true rfl) (Nat.le_of_ble_eq_true rfl) ⟨rfl, _, rfl⟩
set_option maxRecDepth 100000 in
set_option maxHeartbeats 4000000 in
theorem cX2_init_ (l : Launch) (htr : l.stackTraces = false) (D : va_G) (b : Nat) : Tc l D yX2_init wsX2_init rmX2_init [.ref b] (w2_0 b) (fun rv w => rv = none ∧ ∃ a : Nat → Nat, w = wV D b a iV) (fun _ _ => False) 55 954 := Tc_of htr (by decide +kernel) rfl (Nat.le_of_ble_eq_true rfl) (fun k C E hl hD => by subst hD; exact wkX2_init C b E)
abbrev rmX4_init : Room := { frames := 3, cells := 68, slots := 1182, locals := 120 }
theorem lkX4_init_12 : Cond.fieldLink RX4 12 "GaugeBlocks" (TX4 0).2.1 (TX4 0).2.2.1 ∈ wsX4_init := by decide +kernel
theorem lkX4_init_19 : Cond.fieldLink RX4 19 "GaugeBlocks" (TX4 1).2.1 (TX4 1).2.2.1 ∈ wsX4_init := by decide +kernel
theorem lkX4_init_23 : Cond.fieldLink RX4 23 "GaugeBlocks" (TX4 2).2.1 (TX4 2).2.2.1 ∈ wsX4_init := by decide +kernel
theorem lkX4_init_30 : Cond.fieldLink RX4 30 "GaugeBlocks" (TX4 3).2.1 (TX4 3).2.2.1 ∈ wsX4_init := by decide +kernel
theorem inX4_init_X4 : ∀ w ∈ wsX40, w ∈ wsX4_init := by decide +kernel
theorem inX4_init_X3 : ∀ w ∈ wsX30, w ∈ wsX4_init := by decide +kernel
theorem inX4_init_X2 : ∀ w ∈ wsX20, w ∈ wsX4_init := by decide +kernel
theorem inX4_init_X1 : ∀ w ∈ wsX10, w ∈ wsX4_init := by decide +kernel
theorem hdX4_init : yX4_init.cls ≠ "java/lang/invoke/MethodHandle" ∧ yX4_init.cls ≠ "java/lang/invoke/VarHandle" ∧ (parseMethodDescriptor yX4_init.desc).map (fun d => d.parameters.length) = some 0 := by decide +kernel
def w4_0 (b : Nat) : va_W := [(b, .inr (3, [.null, .null, .null, .null]))]
def wGx (D : va_G) (b : Nat) (x y z u : Value) : va_W := [(b, .inr (3, [x, y, z, u]))]
def wN (D : va_G) (r : Nat) (f : Nat → Option Nat) : va_W := [(r, .inl (D.1 103, 2, .inr (.inr (.inr (.inr f)))))]
/-- the class's object as it is made -/
def w4 (D : va_G) (b rV rN : Nat) (aS aV aT : Nat → Nat) : va_W := (((wG D b (aS 0) rV rN (aT 0) ++ wS D aS iS) ++ wV D rV aV iV) ++ wN D rN (fun _ => none)) ++ wT D aT iT
set_option maxRecDepth 100000 in
set_option maxHeartbeats 4000000 in
theorem wkX4_init {k : Kt} (C : gC k cX4_init 1 RX4 wsX4_init rmX4_init "<init>") (b : Nat) (E : gE k (w4_0 b) (fun rv w => rv = none ∧ ∃ (rV rN : Nat) (aS aV aT : Nat → Nat), w = w4 (kD k) b rV rN aS aV aT) (fun _ _ => False) 68 1182 none []) : gG k (w4_0 b) [(0, .ref b)] 0 0 0 [] := by
  have hl := C.amb.2.2.2.2.2.1 (.methodLinkNest RX4 11 yX3_init "GaugeBlocks") (by decide +kernel)
  have hl2 := C.amb.2.2.2.2.2.1 (.methodLinkNest RX4 29 yX1_init "GaugeBlocks") (by decide +kernel)
  refine g_aload_n (pc := 0) (x := b) C dX4_init_0 rfl ?_
  refine g_objInit (pc := 1) C (ix := 3) (by decide +kernel) (by decide +kernel) (by decide +kernel) (by decide) (by decide) dX4_init_1 ?_
  refine g_aload_n (pc := 4) (x := b) C dX4_init_4 rfl ?_
  refine g_new (pc := 5) C (E := RX3) (T := TX3) (N := 13) (ci := 2) (by decide +kernel) (by decide +kernel) (by decide +kernel) inX4_init_X3 tyX3 tyX3_ok rfl (fs := [.null, .null, .null, .null, .null, .null, .null, .null, .int 0, .int 0, .int 0, .int 0, .int 0]) df3 (Nat.le_of_ble_eq_true rfl) (Nat.le_of_ble_eq_true rfl) dX4_init_5 (fun q1 => ?_)
  refine g_dup (pc := 8) C dX4_init_8 rfl ?_
  refine g_callG (pc := 9) (wc := w3_0 q1) (wr := w4_0 b) (rest := [.ref q1, .ref b]) C (gr_IN (y := yX3_init) (host := "GaugeBlocks") C (cX3_init_ (kL k) C.tr (kD k) q1) (fun ht => ⟨va_cnB 0 ht gX4_init_X3_init_n11 rfl rfl rfl hl (ht (.initialized RX3) (by decide +kernel)) hdX3_init ⟨(Nat.le_of_ble_eq_true rfl), (Nat.le_of_ble_eq_true rfl)⟩, rfl, ht (.instanceMethod yX3_init) (by decide +kernel)⟩) [1] rfl rfl rfl rfl (Nat.le_of_ble_eq_true rfl) dX4_init_9 ⟨(Nat.le_of_ble_eq_true rfl), (Nat.le_of_ble_eq_true rfl)⟩) [1] [0] rfl rfl rfl (by decide) (fun _ _ h => h.elim) (fun rv w1 hp => ?_)
  obtain ⟨rfl, l1, rfl⟩ := hp
  refine g_stack (st' := [.ref q1, .ref b]) rfl ?_
  refine g_putF (pc := 12) C 0 rfl rfl inX4_init_X4 tyX4 tyX4_ok nmX4 0 (by decide) lkX4_init_12 rfl rfl (tyX4_ok 0 (by decide)) rfl rfl (Nat.le_of_ble_eq_true rfl) dX4_init_12 (ws' := (wGx (kD k) b (.ref q1) .null .null .null ++ wS (kD k) (adr (q1 :: l1)) iS)) rfl ?_
  refine g_aload_n (pc := 15) (x := b) C dX4_init_15 rfl ?_
  refine g_new (pc := 16) C (E := RX2) (T := TX2) (N := 2) (ci := 1) (by decide +kernel) (by decide +kernel) (by decide +kernel) inX4_init_X2 tyX2 tyX2_ok rfl (fs := [.null, .int 0]) df2 (Nat.le_of_ble_eq_true rfl) (Nat.le_of_ble_eq_true rfl) dX4_init_16 (fun q2 => ?_)
  refine g_dup (pc := 19) C dX4_init_19 rfl ?_
  refine g_callG (pc := 20) (wc := w2_0 q2) (wr := wGx (kD k) b (.ref q1) .null .null .null ++ wS (kD k) (adr (q1 :: l1)) iS) (rest := [.ref q2, .ref b]) C (gr_I (y := yX2_init) C (cX2_init_ (kL k) C.tr (kD k) q2) (fun ht => cwI 0 ht gX4_init_X2_init rfl rfl rfl (ht (.initialized RX2) (by decide +kernel)) (ht (.methodLink RX4 18 yX2_init) (by decide +kernel)) (ht (.instanceMethod yX2_init) (by decide +kernel)) rfl hdX2_init ⟨(Nat.le_of_ble_eq_true rfl), (Nat.le_of_ble_eq_true rfl)⟩) [10] rfl rfl rfl rfl (Nat.le_of_ble_eq_true rfl) dX4_init_20 ⟨(Nat.le_of_ble_eq_true rfl), (Nat.le_of_ble_eq_true rfl)⟩) [10] [0, 1, 2, 3, 4, 5, 6, 7, 8, 9] rfl rfl rfl (by decide) (fun _ _ h => h.elim) (fun rv w1 hp => ?_)
  obtain ⟨rfl, aV, rfl⟩ := hp
  refine g_stack (st' := [.ref q2, .ref b]) rfl ?_
  refine g_putF (pc := 23) C 0 rfl rfl inX4_init_X4 tyX4 tyX4_ok nmX4 1 (by decide) lkX4_init_19 rfl rfl (tyX4_ok 1 (by decide)) rfl rfl (Nat.le_of_ble_eq_true rfl) dX4_init_23 (ws' := ((wGx (kD k) b (.ref q1) (.ref q2) .null .null ++ wS (kD k) (adr (q1 :: l1)) iS) ++ wV (kD k) q2 aV iV)) rfl ?_
  refine g_aload_n (pc := 26) (x := b) C dX4_init_26 rfl ?_
  refine g_iconst (pc := 27) (v := 2) C dX4_init_27 (by decide) ?_
  refine g_newQ (pc := 28) C (N := 2) (by decide +kernel) (by decide) (by decide) (by decide) (Nat.le_of_ble_eq_true rfl) (Nat.le_of_ble_eq_true rfl) dX4_init_28 (fun q3 => ?_)
  refine g_putF (pc := 31) C 0 rfl rfl inX4_init_X4 tyX4 tyX4_ok nmX4 2 (by decide) lkX4_init_23 rfl rfl (tyX4_ok 2 (by decide)) rfl rfl (Nat.le_of_ble_eq_true rfl) dX4_init_31 (ws' := (((wGx (kD k) b (.ref q1) (.ref q2) (.ref q3) .null ++ wS (kD k) (adr (q1 :: l1)) iS) ++ wV (kD k) q2 aV iV) ++ wN (kD k) q3 (fun _ => none))) rfl ?_
  refine g_aload_n (pc := 34) (x := b) C dX4_init_34 rfl ?_
  refine g_new (pc := 35) C (E := RX1) (T := TX1) (N := 6) (ci := 0) (by decide +kernel) (by decide +kernel) (by decide +kernel) inX4_init_X1 tyX1 tyX1_ok rfl (fs := [.null, .int 0, .int 0, .int 0, .int 0, .int 0]) df1 (Nat.le_of_ble_eq_true rfl) (Nat.le_of_ble_eq_true rfl) dX4_init_35 (fun q4 => ?_)
  refine g_dup (pc := 38) C dX4_init_38 rfl ?_
  refine g_callG (pc := 39) (wc := w1_0 q4) (wr := ((wGx (kD k) b (.ref q1) (.ref q2) (.ref q3) .null ++ wS (kD k) (adr (q1 :: l1)) iS) ++ wV (kD k) q2 aV iV) ++ wN (kD k) q3 (fun _ => none)) (rest := [.ref q4, .ref b]) C (gr_IN (y := yX1_init) (host := "GaugeBlocks") C (cX1_init_ (kL k) C.tr (kD k) q4) (fun ht => ⟨va_cnB 0 ht gX4_init_X1_init_n29 rfl rfl rfl hl2 (ht (.initialized RX1) (by decide +kernel)) hdX1_init ⟨(Nat.le_of_ble_eq_true rfl), (Nat.le_of_ble_eq_true rfl)⟩, rfl, ht (.instanceMethod yX1_init) (by decide +kernel)⟩) [67] rfl rfl rfl rfl (Nat.le_of_ble_eq_true rfl) dX4_init_39 ⟨(Nat.le_of_ble_eq_true rfl), (Nat.le_of_ble_eq_true rfl)⟩) [67] [0, 1, 2, 3, 4, 5, 6, 7, 8, 9, 10, 11, 12, 13, 14, 15, 16, 17, 18, 19, 20, 21, 22, 23, 24, 25, 26, 27, 28, 29, 30, 31, 32, 33, 34, 35, 36, 37, 38, 39, 40, 41, 42, 43, 44, 45, 46, 47, 48, 49, 50, 51, 52, 53, 54, 55, 56, 57, 58, 59, 60, 61, 62, 63, 64, 65, 66] rfl rfl rfl (by decide) (fun _ _ h => h.elim) (fun rv w1 hp => ?_)
  obtain ⟨rfl, l4, rfl⟩ := hp
  refine g_stack (st' := [.ref q4, .ref b]) rfl ?_
  refine g_putF (pc := 42) C 0 rfl rfl inX4_init_X4 tyX4 tyX4_ok nmX4 3 (by decide) lkX4_init_30 rfl rfl (tyX4_ok 3 (by decide)) rfl rfl (Nat.le_of_ble_eq_true rfl) dX4_init_42 (ws' := (w4 (kD k) b q2 q3 (adr (q1 :: l1)) aV (adr (q4 :: l4)))) rfl ?_
  exact g_vret (pc := 45) C E dX4_init_45 (Nat.le_of_ble_eq_true rfl) (Nat.le_of_ble_eq_true rfl) ⟨rfl, _, _, _, _, _, rfl⟩
set_option maxRecDepth 100000 in
set_option maxHeartbeats 4000000 in
theorem cX4_init_ (l : Launch) (htr : l.stackTraces = false) (D : va_G) (b : Nat) : Tc l D yX4_init wsX4_init rmX4_init [.ref b] (w4_0 b) (fun rv w => rv = none ∧ ∃ (rV rN : Nat) (aS aV aT : Nat → Nat), w = w4 D b rV rN aS aV aT) (fun _ _ => False) 68 1182 := Tc_of htr (by decide +kernel) rfl (Nat.le_of_ble_eq_true rfl) (fun k C E hl hD => by subst hD; exact wkX4_init C b E)
