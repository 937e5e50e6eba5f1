/-! the constructors -/
def iS : VS := (fun _ => 0, fun _ => 0, fun _ => 0, fun _ => 0, fun _ => 0, fun _ => 0, fun _ => 0, stA, 0, 0, 0, 0, 0)
def iT : VT := (fun _ => 0, 0, 0, 0, 0, 0)
def iV : VV := (0, iS, iS, iS, iS, iS, iS)
def iM : VM := (upd (upd (upd (upd (fun _ => 0) (Int32.toNatClampNeg 0) 10) (Int32.toNatClampNeg 1) 300) (Int32.toNatClampNeg 2) 3) (Int32.toNatClampNeg 3) 40, fun _ => 0, 0, fun _ => 0, fun _ => 0, 0, fun _ => 0, 0, fun _ => 0, 0, 0, 0, 0, fun _ => 0, fun _ => 0, fun _ => 0, 0, 0)
def adr (l : List Nat) (n : Nat) : Nat := l.getD n 0
abbrev rmX3_init : Room := { frames := 1, cells := 8, slots := 144, locals := 40 }
theorem lkX3_init_9 : Cond.fieldLink RX3 9 "GaugeBlocks$State" (TX3 0).2.1 (TX3 0).2.2.1 ∈ wsX3_init := by decide +kernel
theorem lkX3_init_15 : Cond.fieldLink RX3 15 "GaugeBlocks$State" (TX3 1).2.1 (TX3 1).2.2.1 ∈ wsX3_init := by decide +kernel
theorem lkX3_init_18 : Cond.fieldLink RX3 18 "GaugeBlocks$State" (TX3 2).2.1 (TX3 2).2.2.1 ∈ wsX3_init := by decide +kernel
theorem lkX3_init_21 : Cond.fieldLink RX3 21 "GaugeBlocks$State" (TX3 3).2.1 (TX3 3).2.2.1 ∈ wsX3_init := by decide +kernel
theorem lkX3_init_24 : Cond.fieldLink RX3 24 "GaugeBlocks$State" (TX3 4).2.1 (TX3 4).2.2.1 ∈ wsX3_init := by decide +kernel
theorem lkX3_init_27 : Cond.fieldLink RX3 27 "GaugeBlocks$State" (TX3 5).2.1 (TX3 5).2.2.1 ∈ wsX3_init := by decide +kernel
theorem lkX3_init_30 : Cond.fieldLink RX3 30 "GaugeBlocks$State" (TX3 6).2.1 (TX3 6).2.2.1 ∈ wsX3_init := by decide +kernel
theorem lkX3_init_41 : Cond.fieldLink RX3 41 "GaugeBlocks$State" (TX3 7).2.1 (TX3 7).2.2.1 ∈ wsX3_init := by decide +kernel
theorem inX3_init_X3 : ∀ w ∈ wsX30, w ∈ wsX3_init := by decide +kernel
theorem hdX3_init : yX3_init.cls ≠ "java/lang/invoke/MethodHandle" ∧ yX3_init.cls ≠ "java/lang/invoke/VarHandle" ∧ (parseMethodDescriptor yX3_init.desc).map (fun d => d.parameters.length) = some 0 := by decide +kernel
def w3_0 (b : Nat) : va_W := [(b, .inr (2, [.null, .null, .null, .null, .null, .null, .null, .null, .int 0, .int 0, .int 0, .int 0, .int 0]))]
set_option maxRecDepth 100000 in
set_option maxHeartbeats 4000000 in
theorem wkX3_init {k : Kt} (C : gC k cX3_init 1 RX3 wsX3_init rmX3_init "<init>") (b : Nat) (E : gE k (w3_0 b) (fun rv w => rv = none ∧ ∃ l : List Nat, w = wS (kD k) (adr (b :: l)) iS) (fun _ _ => False) 8 144 none []) : gG k (w3_0 b) [(0, .ref b)] 0 0 0 [] := by
  refine g_aload_n (pc := 0) (x := b) C dX3_init_0 rfl ?_
  refine g_objInit (pc := 1) C (ix := 3) (by decide +kernel) (by decide +kernel) (by decide +kernel) (by decide) (by decide) dX3_init_1 ?_
  refine g_aload_n (pc := 4) (x := b) C dX3_init_4 rfl ?_
  refine g_bipush (pc := 5) (v := 20) C dX3_init_5 (by decide) ?_
  refine g_newI (pc := 7) C (N := 20) (by decide +kernel) (by decide) (by decide) (by decide) (Nat.le_of_ble_eq_true rfl) (Nat.le_of_ble_eq_true rfl) dX3_init_7 (fun q1 => ?_)
  refine g_putF (pc := 9) C 0 rfl rfl inX3_init_X3 tyX3 tyX3_ok nmX3 0 (by decide) lkX3_init_9 rfl rfl (tyX3_ok 0 (by decide)) rfl rfl (Nat.le_of_ble_eq_true rfl) dX3_init_9 (ws' := [(b, .inr (2, [.ref q1, .null, .null, .null, .null, .null, .null, .null, .int 0, .int 0, .int 0, .int 0, .int 0])), (q1, .inl ((kD k).1 100, 20, .inl (fun _ => 0)))]) rfl ?_
  refine g_aload_n (pc := 12) (x := b) C dX3_init_12 rfl ?_
  refine g_bipush (pc := 13) (v := 20) C dX3_init_13 (by decide) ?_
  refine g_newI (pc := 15) C (N := 20) (by decide +kernel) (by decide) (by decide) (by decide) (Nat.le_of_ble_eq_true rfl) (Nat.le_of_ble_eq_true rfl) dX3_init_15 (fun q2 => ?_)
  refine g_putF (pc := 17) C 0 rfl rfl inX3_init_X3 tyX3 tyX3_ok nmX3 1 (by decide) lkX3_init_15 rfl rfl (tyX3_ok 1 (by decide)) rfl rfl (Nat.le_of_ble_eq_true rfl) dX3_init_17 (ws' := [(b, .inr (2, [.ref q1, .ref q2, .null, .null, .null, .null, .null, .null, .int 0, .int 0, .int 0, .int 0, .int 0])), (q1, .inl ((kD k).1 100, 20, .inl (fun _ => 0))), (q2, .inl ((kD k).1 100, 20, .inl (fun _ => 0)))]) rfl ?_
  refine g_aload_n (pc := 20) (x := b) C dX3_init_20 rfl ?_
  refine g_bipush (pc := 21) (v := 20) C dX3_init_21 (by decide) ?_
  refine g_newI (pc := 23) C (N := 20) (by decide +kernel) (by decide) (by decide) (by decide) (Nat.le_of_ble_eq_true rfl) (Nat.le_of_ble_eq_true rfl) dX3_init_23 (fun q3 => ?_)
  refine g_putF (pc := 25) C 0 rfl rfl inX3_init_X3 tyX3 tyX3_ok nmX3 2 (by decide) lkX3_init_18 rfl rfl (tyX3_ok 2 (by decide)) rfl rfl (Nat.le_of_ble_eq_true rfl) dX3_init_25 (ws' := [(b, .inr (2, [.ref q1, .ref q2, .ref q3, .null, .null, .null, .null, .null, .int 0, .int 0, .int 0, .int 0, .int 0])), (q1, .inl ((kD k).1 100, 20, .inl (fun _ => 0))), (q2, .inl ((kD k).1 100, 20, .inl (fun _ => 0))), (q3, .inl ((kD k).1 100, 20, .inl (fun _ => 0)))]) rfl ?_
  refine g_aload_n (pc := 28) (x := b) C dX3_init_28 rfl ?_
  refine g_bipush (pc := 29) (v := 20) C dX3_init_29 (by decide) ?_
  refine g_newI (pc := 31) C (N := 20) (by decide +kernel) (by decide) (by decide) (by decide) (Nat.le_of_ble_eq_true rfl) (Nat.le_of_ble_eq_true rfl) dX3_init_31 (fun q4 => ?_)
  refine g_putF (pc := 33) C 0 rfl rfl inX3_init_X3 tyX3 tyX3_ok nmX3 3 (by decide) lkX3_init_21 rfl rfl (tyX3_ok 3 (by decide)) rfl rfl (Nat.le_of_ble_eq_true rfl) dX3_init_33 (ws' := [(b, .inr (2, [.ref q1, .ref q2, .ref q3, .ref q4, .null, .null, .null, .null, .int 0, .int 0, .int 0, .int 0, .int 0])), (q1, .inl ((kD k).1 100, 20, .inl (fun _ => 0))), (q2, .inl ((kD k).1 100, 20, .inl (fun _ => 0))), (q3, .inl ((kD k).1 100, 20, .inl (fun _ => 0))), (q4, .inl ((kD k).1 100, 20, .inl (fun _ => 0)))]) rfl ?_
  refine g_aload_n (pc := 36) (x := b) C dX3_init_36 rfl ?_
  refine g_bipush (pc := 37) (v := 20) C dX3_init_37 (by decide) ?_
  refine g_newI (pc := 39) C (N := 20) (by decide +kernel) (by decide) (by decide) (by decide) (Nat.le_of_ble_eq_true rfl) (Nat.le_of_ble_eq_true rfl) dX3_init_39 (fun q5 => ?_)
  refine g_putF (pc := 41) C 0 rfl rfl inX3_init_X3 tyX3 tyX3_ok nmX3 4 (by decide) lkX3_init_24 rfl rfl (tyX3_ok 4 (by decide)) rfl rfl (Nat.le_of_ble_eq_true rfl) dX3_init_41 (ws' := [(b, .inr (2, [.ref q1, .ref q2, .ref q3, .ref q4, .ref q5, .null, .null, .null, .int 0, .int 0, .int 0, .int 0, .int 0])), (q1, .inl ((kD k).1 100, 20, .inl (fun _ => 0))), (q2, .inl ((kD k).1 100, 20, .inl (fun _ => 0))), (q3, .inl ((kD k).1 100, 20, .inl (fun _ => 0))), (q4, .inl ((kD k).1 100, 20, .inl (fun _ => 0))), (q5, .inl ((kD k).1 100, 20, .inl (fun _ => 0)))]) rfl ?_
  refine g_aload_n (pc := 44) (x := b) C dX3_init_44 rfl ?_
  refine g_bipush (pc := 45) (v := 20) C dX3_init_45 (by decide) ?_
  refine g_newI (pc := 47) C (N := 20) (by decide +kernel) (by decide) (by decide) (by decide) (Nat.le_of_ble_eq_true rfl) (Nat.le_of_ble_eq_true rfl) dX3_init_47 (fun q6 => ?_)
  refine g_putF (pc := 49) C 0 rfl rfl inX3_init_X3 tyX3 tyX3_ok nmX3 5 (by decide) lkX3_init_27 rfl rfl (tyX3_ok 5 (by decide)) rfl rfl (Nat.le_of_ble_eq_true rfl) dX3_init_49 (ws' := [(b, .inr (2, [.ref q1, .ref q2, .ref q3, .ref q4, .ref q5, .ref q6, .null, .null, .int 0, .int 0, .int 0, .int 0, .int 0])), (q1, .inl ((kD k).1 100, 20, .inl (fun _ => 0))), (q2, .inl ((kD k).1 100, 20, .inl (fun _ => 0))), (q3, .inl ((kD k).1 100, 20, .inl (fun _ => 0))), (q4, .inl ((kD k).1 100, 20, .inl (fun _ => 0))), (q5, .inl ((kD k).1 100, 20, .inl (fun _ => 0))), (q6, .inl ((kD k).1 100, 20, .inl (fun _ => 0)))]) rfl ?_
  refine g_aload_n (pc := 52) (x := b) C dX3_init_52 rfl ?_
  refine g_bipush (pc := 53) (v := 20) C dX3_init_53 (by decide) ?_
  refine g_newI (pc := 55) C (N := 20) (by decide +kernel) (by decide) (by decide) (by decide) (Nat.le_of_ble_eq_true rfl) (Nat.le_of_ble_eq_true rfl) dX3_init_55 (fun q7 => ?_)
  refine g_putF (pc := 57) C 0 rfl rfl inX3_init_X3 tyX3 tyX3_ok nmX3 6 (by decide) lkX3_init_30 rfl rfl (tyX3_ok 6 (by decide)) rfl rfl (Nat.le_of_ble_eq_true rfl) dX3_init_57 (ws' := [(b, .inr (2, [.ref q1, .ref q2, .ref q3, .ref q4, .ref q5, .ref q6, .ref q7, .null, .int 0, .int 0, .int 0, .int 0, .int 0])), (q1, .inl ((kD k).1 100, 20, .inl (fun _ => 0))), (q2, .inl ((kD k).1 100, 20, .inl (fun _ => 0))), (q3, .inl ((kD k).1 100, 20, .inl (fun _ => 0))), (q4, .inl ((kD k).1 100, 20, .inl (fun _ => 0))), (q5, .inl ((kD k).1 100, 20, .inl (fun _ => 0))), (q6, .inl ((kD k).1 100, 20, .inl (fun _ => 0))), (q7, .inl ((kD k).1 100, 20, .inl (fun _ => 0)))]) rfl ?_
  refine g_aload_n (pc := 60) (x := b) C dX3_init_60 rfl ?_
  refine g_settings (pc := 61) C (by decide) (Nat.le_of_ble_eq_true rfl) (Nat.le_of_ble_eq_true rfl) (Nat.le_of_ble_eq_true rfl) dX3_init_61 dX3_init_64 dX3_init_67 (fun q8 => ?_)
  refine g_putF (pc := 70) C 0 rfl rfl inX3_init_X3 tyX3 tyX3_ok nmX3 7 (by decide) lkX3_init_41 rfl rfl (tyX3_ok 7 (by decide)) rfl rfl (Nat.le_of_ble_eq_true rfl) dX3_init_70 (ws' := [(b, .inr (2, [.ref q1, .ref q2, .ref q3, .ref q4, .ref q5, .ref q6, .ref q7, .ref q8, .int 0, .int 0, .int 0, .int 0, .int 0])), (q1, .inl ((kD k).1 100, 20, .inl (fun _ => 0))), (q2, .inl ((kD k).1 100, 20, .inl (fun _ => 0))), (q3, .inl ((kD k).1 100, 20, .inl (fun _ => 0))), (q4, .inl ((kD k).1 100, 20, .inl (fun _ => 0))), (q5, .inl ((kD k).1 100, 20, .inl (fun _ => 0))), (q6, .inl ((kD k).1 100, 20, .inl (fun _ => 0))), (q7, .inl ((kD k).1 100, 20, .inl (fun _ => 0))), (q8, .inl ((kD k).1 100, 4, .inl stA))]) rfl ?_
  exact g_vret (pc := 73) C E dX3_init_73 (Nat.le_of_ble_eq_true rfl) (Nat.le_of_ble_eq_true rfl) ⟨rfl, [q1, q2, q3, q4, q5, q6, q7, q8], rfl⟩
set_option maxRecDepth 100000 in
set_option maxHeartbeats 4000000 in
theorem cX3_init_ (l : Launch) (htr : l.stackTraces = false) (D : va_G) (b : Nat) : Tc l D yX3_init wsX3_init rmX3_init [.ref b] (w3_0 b) (fun rv w => rv = none ∧ ∃ l : List Nat, w = wS D (adr (b :: l)) iS) (fun _ _ => False) 8 144 := Tc_of htr (by decide +kernel) rfl (Nat.le_of_ble_eq_true rfl) (fun k C E hl hD => by subst hD; exact wkX3_init C b E)
abbrev rmX1_init : Room := { frames := 1, cells := 1, slots := 60, locals := 40 }
theorem lkX1_init_9 : Cond.fieldLink RX1 9 "GaugeBlocks$OrderText" (TX1 0).2.1 (TX1 0).2.2.1 ∈ wsX1_init := by decide +kernel
theorem inX1_init_X1 : ∀ w ∈ wsX10, w ∈ wsX1_init := by decide +kernel
theorem hdX1_init : yX1_init.cls ≠ "java/lang/invoke/MethodHandle" ∧ yX1_init.cls ≠ "java/lang/invoke/VarHandle" ∧ (parseMethodDescriptor yX1_init.desc).map (fun d => d.parameters.length) = some 0 := by decide +kernel
def w1_0 (b : Nat) : va_W := [(b, .inr (0, [.null, .int 0, .int 0, .int 0, .int 0, .int 0]))]
set_option maxRecDepth 100000 in
set_option maxHeartbeats 4000000 in
theorem wkX1_init {k : Kt} (C : gC k cX1_init 1 RX1 wsX1_init rmX1_init "<init>") (b : Nat) (E : gE k (w1_0 b) (fun rv w => rv = none ∧ ∃ l : List Nat, w = wT (kD k) (adr (b :: l)) iT) (fun _ _ => False) 1 60 none []) : gG k (w1_0 b) [(0, .ref b)] 0 0 0 [] := by
  refine g_aload_n (pc := 0) (x := b) C dX1_init_0 rfl ?_
  refine g_objInit (pc := 1) C (ix := 3) (by decide +kernel) (by decide +kernel) (by decide +kernel) (by decide) (by decide) dX1_init_1 ?_
  refine g_aload_n (pc := 4) (x := b) C dX1_init_4 rfl ?_
  refine g_bipush (pc := 5) (v := 60) C dX1_init_5 (by decide) ?_
  refine g_newI (pc := 7) C (N := 60) (by decide +kernel) (by decide) (by decide) (by decide) (Nat.le_of_ble_eq_true rfl) (Nat.le_of_ble_eq_true rfl) dX1_init_7 (fun q1 => ?_)
  refine g_putF (pc := 9) C 0 rfl rfl inX1_init_X1 tyX1 tyX1_ok nmX1 0 (by decide) lkX1_init_9 rfl rfl (tyX1_ok 0 (by decide)) rfl rfl (Nat.le_of_ble_eq_true rfl) dX1_init_9 (ws' := (wT (kD k) (adr [b, q1]) iT)) rfl ?_
  exact g_vret (pc := 12) C E dX1_init_12 (Nat.le_of_ble_eq_true rfl) (Nat.le_of_ble_eq_true rfl) ⟨rfl, [q1], rfl⟩
set_option maxRecDepth 100000 in
set_option maxHeartbeats 4000000 in
theorem cX1_init_ (l : Launch) (htr : l.stackTraces = false) (D : va_G) (b : Nat) : Tc l D yX1_init wsX1_init rmX1_init [.ref b] (w1_0 b) (fun rv w => rv = none ∧ ∃ l : List Nat, w = wT D (adr (b :: l)) iT) (fun _ _ => False) 1 60 := Tc_of htr (by decide +kernel) rfl (Nat.le_of_ble_eq_true rfl) (fun k C E hl hD => by subst hD; exact wkX1_init C b E)
abbrev rmX5_init : Room := { frames := 1, cells := 9, slots := 1495, locals := 40 }
theorem lkX5_init_7 : Cond.fieldLink RX5 7 "GaugeBlocksModel" (TX5 0).2.1 (TX5 0).2.2.1 ∈ wsX5_init := by decide +kernel
theorem lkX5_init_13 : Cond.fieldLink RX5 13 "GaugeBlocksModel" (TX5 1).2.1 (TX5 1).2.2.1 ∈ wsX5_init := by decide +kernel
theorem lkX5_init_16 : Cond.fieldLink RX5 16 "GaugeBlocksModel" (TX5 3).2.1 (TX5 3).2.2.1 ∈ wsX5_init := by decide +kernel
theorem lkX5_init_19 : Cond.fieldLink RX5 19 "GaugeBlocksModel" (TX5 4).2.1 (TX5 4).2.2.1 ∈ wsX5_init := by decide +kernel
theorem lkX5_init_23 : Cond.fieldLink RX5 23 "GaugeBlocksModel" (TX5 6).2.1 (TX5 6).2.2.1 ∈ wsX5_init := by decide +kernel
theorem lkX5_init_26 : Cond.fieldLink RX5 26 "GaugeBlocksModel" (TX5 8).2.1 (TX5 8).2.2.1 ∈ wsX5_init := by decide +kernel
theorem lkX5_init_29 : Cond.fieldLink RX5 29 "GaugeBlocksModel" (TX5 13).2.1 (TX5 13).2.2.1 ∈ wsX5_init := by decide +kernel
theorem lkX5_init_32 : Cond.fieldLink RX5 32 "GaugeBlocksModel" (TX5 14).2.1 (TX5 14).2.2.1 ∈ wsX5_init := by decide +kernel
theorem lkX5_init_35 : Cond.fieldLink RX5 35 "GaugeBlocksModel" (TX5 15).2.1 (TX5 15).2.2.1 ∈ wsX5_init := by decide +kernel
theorem inX5_init_X5 : ∀ w ∈ wsX50, w ∈ wsX5_init := by decide +kernel
theorem hdX5_init : yX5_init.cls ≠ "java/lang/invoke/MethodHandle" ∧ yX5_init.cls ≠ "java/lang/invoke/VarHandle" ∧ (parseMethodDescriptor yX5_init.desc).map (fun d => d.parameters.length) = some 0 := by decide +kernel
def w5_0 (b : Nat) : va_W := [(b, .inr (4, [.null, .null, .int 0, .null, .null, .int 0, .null, .int 0, .null, .int 0, .int 0, .int 0, .int 0, .null, .null, .null, .int 0, .int 0]))]
set_option maxRecDepth 100000 in
set_option maxHeartbeats 4000000 in
theorem wkX5_init {k : Kt} (C : gC k cX5_init 1 RX5 wsX5_init rmX5_init "<init>") (b : Nat) (E : gE k (w5_0 b) (fun rv w => rv = none ∧ ∃ l : List Nat, w = wM (kD k) (adr (b :: l)) iM) (fun _ _ => False) 9 1495 none []) : gG k (w5_0 b) [(0, .ref b)] 0 0 0 [] := by
  refine g_aload_n (pc := 0) (x := b) C dX5_init_0 rfl ?_
  refine g_objInit (pc := 1) C (ix := 1) (by decide +kernel) (by decide +kernel) (by decide +kernel) (by decide) (by decide) dX5_init_1 ?_
  refine g_aload_n (pc := 4) (x := b) C dX5_init_4 rfl ?_
  refine g_sipush (pc := 5) (v := 149) C dX5_init_5 (by decide) ?_
  refine g_newI (pc := 8) C (N := 149) (by decide +kernel) (by decide) (by decide) (by decide) (Nat.le_of_ble_eq_true rfl) (Nat.le_of_ble_eq_true rfl) dX5_init_8 (fun q1 => ?_)
  refine g_putF (pc := 10) C 0 rfl rfl inX5_init_X5 tyX5 tyX5_ok nmX5 0 (by decide) lkX5_init_7 rfl rfl (tyX5_ok 0 (by decide)) rfl rfl (Nat.le_of_ble_eq_true rfl) dX5_init_10 (ws' := [(b, .inr (4, [.ref q1, .null, .int 0, .null, .null, .int 0, .null, .int 0, .null, .int 0, .int 0, .int 0, .int 0, .null, .null, .null, .int 0, .int 0])), (q1, .inl ((kD k).1 100, 149, .inl (fun _ => 0)))]) rfl ?_
  refine g_aload_n (pc := 13) (x := b) C dX5_init_13 rfl ?_
  refine g_sipush (pc := 14) (v := 894) C dX5_init_14 (by decide) ?_
  refine g_newI (pc := 17) C (N := 894) (by decide +kernel) (by decide) (by decide) (by decide) (Nat.le_of_ble_eq_true rfl) (Nat.le_of_ble_eq_true rfl) dX5_init_17 (fun q2 => ?_)
  refine g_putF (pc := 19) C 0 rfl rfl inX5_init_X5 tyX5 tyX5_ok nmX5 1 (by decide) lkX5_init_13 rfl rfl (tyX5_ok 1 (by decide)) rfl rfl (Nat.le_of_ble_eq_true rfl) dX5_init_19 (ws' := [(b, .inr (4, [.ref q1, .ref q2, .int 0, .null, .null, .int 0, .null, .int 0, .null, .int 0, .int 0, .int 0, .int 0, .null, .null, .null, .int 0, .int 0])), (q1, .inl ((kD k).1 100, 149, .inl (fun _ => 0))), (q2, .inl ((kD k).1 100, 894, .inl (fun _ => 0)))]) rfl ?_
  refine g_aload_n (pc := 22) (x := b) C dX5_init_22 rfl ?_
  refine g_sipush (pc := 23) (v := 298) C dX5_init_23 (by decide) ?_
  refine g_newI (pc := 26) C (N := 298) (by decide +kernel) (by decide) (by decide) (by decide) (Nat.le_of_ble_eq_true rfl) (Nat.le_of_ble_eq_true rfl) dX5_init_26 (fun q3 => ?_)
  refine g_putF (pc := 28) C 0 rfl rfl inX5_init_X5 tyX5 tyX5_ok nmX5 3 (by decide) lkX5_init_16 rfl rfl (tyX5_ok 3 (by decide)) rfl rfl (Nat.le_of_ble_eq_true rfl) dX5_init_28 (ws' := [(b, .inr (4, [.ref q1, .ref q2, .int 0, .ref q3, .null, .int 0, .null, .int 0, .null, .int 0, .int 0, .int 0, .int 0, .null, .null, .null, .int 0, .int 0])), (q1, .inl ((kD k).1 100, 149, .inl (fun _ => 0))), (q2, .inl ((kD k).1 100, 894, .inl (fun _ => 0))), (q3, .inl ((kD k).1 100, 298, .inl (fun _ => 0)))]) rfl ?_
  refine g_aload_n (pc := 31) (x := b) C dX5_init_31 rfl ?_
  refine g_iconst (pc := 32) (v := 2) C dX5_init_32 (by decide) ?_
  refine g_newZ (pc := 33) C (N := 2) (by decide +kernel) (by decide) (by decide) (by decide) (Nat.le_of_ble_eq_true rfl) (Nat.le_of_ble_eq_true rfl) dX5_init_33 (fun q4 => ?_)
  refine g_putF (pc := 35) C 0 rfl rfl inX5_init_X5 tyX5 tyX5_ok nmX5 4 (by decide) lkX5_init_19 rfl rfl (tyX5_ok 4 (by decide)) rfl rfl (Nat.le_of_ble_eq_true rfl) dX5_init_35 (ws' := [(b, .inr (4, [.ref q1, .ref q2, .int 0, .ref q3, .ref q4, .int 0, .null, .int 0, .null, .int 0, .int 0, .int 0, .int 0, .null, .null, .null, .int 0, .int 0])), (q1, .inl ((kD k).1 100, 149, .inl (fun _ => 0))), (q2, .inl ((kD k).1 100, 894, .inl (fun _ => 0))), (q3, .inl ((kD k).1 100, 298, .inl (fun _ => 0))), (q4, .inl ((kD k).1 102, 2, .inl (fun _ => 0)))]) rfl ?_
  refine g_aload_n (pc := 38) (x := b) C dX5_init_38 rfl ?_
  refine g_bipush (pc := 39) (v := 20) C dX5_init_39 (by decide) ?_
  refine g_newI (pc := 41) C (N := 20) (by decide +kernel) (by decide) (by decide) (by decide) (Nat.le_of_ble_eq_true rfl) (Nat.le_of_ble_eq_true rfl) dX5_init_41 (fun q5 => ?_)
  refine g_putF (pc := 43) C 0 rfl rfl inX5_init_X5 tyX5 tyX5_ok nmX5 6 (by decide) lkX5_init_23 rfl rfl (tyX5_ok 6 (by decide)) rfl rfl (Nat.le_of_ble_eq_true rfl) dX5_init_43 (ws' := [(b, .inr (4, [.ref q1, .ref q2, .int 0, .ref q3, .ref q4, .int 0, .ref q5, .int 0, .null, .int 0, .int 0, .int 0, .int 0, .null, .null, .null, .int 0, .int 0])), (q1, .inl ((kD k).1 100, 149, .inl (fun _ => 0))), (q2, .inl ((kD k).1 100, 894, .inl (fun _ => 0))), (q3, .inl ((kD k).1 100, 298, .inl (fun _ => 0))), (q4, .inl ((kD k).1 102, 2, .inl (fun _ => 0))), (q5, .inl ((kD k).1 100, 20, .inl (fun _ => 0)))]) rfl ?_
  refine g_aload_n (pc := 46) (x := b) C dX5_init_46 rfl ?_
  refine g_bipush (pc := 47) (v := 60) C dX5_init_47 (by decide) ?_
  refine g_newI (pc := 49) C (N := 60) (by decide +kernel) (by decide) (by decide) (by decide) (Nat.le_of_ble_eq_true rfl) (Nat.le_of_ble_eq_true rfl) dX5_init_49 (fun q6 => ?_)
  refine g_putF (pc := 51) C 0 rfl rfl inX5_init_X5 tyX5 tyX5_ok nmX5 8 (by decide) lkX5_init_26 rfl rfl (tyX5_ok 8 (by decide)) rfl rfl (Nat.le_of_ble_eq_true rfl) dX5_init_51 (ws' := [(b, .inr (4, [.ref q1, .ref q2, .int 0, .ref q3, .ref q4, .int 0, .ref q5, .int 0, .ref q6, .int 0, .int 0, .int 0, .int 0, .null, .null, .null, .int 0, .int 0])), (q1, .inl ((kD k).1 100, 149, .inl (fun _ => 0))), (q2, .inl ((kD k).1 100, 894, .inl (fun _ => 0))), (q3, .inl ((kD k).1 100, 298, .inl (fun _ => 0))), (q4, .inl ((kD k).1 102, 2, .inl (fun _ => 0))), (q5, .inl ((kD k).1 100, 20, .inl (fun _ => 0))), (q6, .inl ((kD k).1 100, 60, .inl (fun _ => 0)))]) rfl ?_
  refine g_aload_n (pc := 54) (x := b) C dX5_init_54 rfl ?_
  refine g_bipush (pc := 55) (v := 24) C dX5_init_55 (by decide) ?_
  refine g_newI (pc := 57) C (N := 24) (by decide +kernel) (by decide) (by decide) (by decide) (Nat.le_of_ble_eq_true rfl) (Nat.le_of_ble_eq_true rfl) dX5_init_57 (fun q7 => ?_)
  refine g_putF (pc := 59) C 0 rfl rfl inX5_init_X5 tyX5 tyX5_ok nmX5 13 (by decide) lkX5_init_29 rfl rfl (tyX5_ok 13 (by decide)) rfl rfl (Nat.le_of_ble_eq_true rfl) dX5_init_59 (ws' := [(b, .inr (4, [.ref q1, .ref q2, .int 0, .ref q3, .ref q4, .int 0, .ref q5, .int 0, .ref q6, .int 0, .int 0, .int 0, .int 0, .ref q7, .null, .null, .int 0, .int 0])), (q1, .inl ((kD k).1 100, 149, .inl (fun _ => 0))), (q2, .inl ((kD k).1 100, 894, .inl (fun _ => 0))), (q3, .inl ((kD k).1 100, 298, .inl (fun _ => 0))), (q4, .inl ((kD k).1 102, 2, .inl (fun _ => 0))), (q5, .inl ((kD k).1 100, 20, .inl (fun _ => 0))), (q6, .inl ((kD k).1 100, 60, .inl (fun _ => 0))), (q7, .inl ((kD k).1 100, 24, .inl (fun _ => 0)))]) rfl ?_
  refine g_aload_n (pc := 62) (x := b) C dX5_init_62 rfl ?_
  refine g_bipush (pc := 63) (v := 24) C dX5_init_63 (by decide) ?_
  refine g_newI (pc := 65) C (N := 24) (by decide +kernel) (by decide) (by decide) (by decide) (Nat.le_of_ble_eq_true rfl) (Nat.le_of_ble_eq_true rfl) dX5_init_65 (fun q8 => ?_)
  refine g_putF (pc := 67) C 0 rfl rfl inX5_init_X5 tyX5 tyX5_ok nmX5 14 (by decide) lkX5_init_32 rfl rfl (tyX5_ok 14 (by decide)) rfl rfl (Nat.le_of_ble_eq_true rfl) dX5_init_67 (ws' := [(b, .inr (4, [.ref q1, .ref q2, .int 0, .ref q3, .ref q4, .int 0, .ref q5, .int 0, .ref q6, .int 0, .int 0, .int 0, .int 0, .ref q7, .ref q8, .null, .int 0, .int 0])), (q1, .inl ((kD k).1 100, 149, .inl (fun _ => 0))), (q2, .inl ((kD k).1 100, 894, .inl (fun _ => 0))), (q3, .inl ((kD k).1 100, 298, .inl (fun _ => 0))), (q4, .inl ((kD k).1 102, 2, .inl (fun _ => 0))), (q5, .inl ((kD k).1 100, 20, .inl (fun _ => 0))), (q6, .inl ((kD k).1 100, 60, .inl (fun _ => 0))), (q7, .inl ((kD k).1 100, 24, .inl (fun _ => 0))), (q8, .inl ((kD k).1 100, 24, .inl (fun _ => 0)))]) rfl ?_
  refine g_aload_n (pc := 70) (x := b) C dX5_init_70 rfl ?_
  refine g_bipush (pc := 71) (v := 24) C dX5_init_71 (by decide) ?_
  refine g_newI (pc := 73) C (N := 24) (by decide +kernel) (by decide) (by decide) (by decide) (Nat.le_of_ble_eq_true rfl) (Nat.le_of_ble_eq_true rfl) dX5_init_73 (fun q9 => ?_)
  refine g_putF (pc := 75) C 0 rfl rfl inX5_init_X5 tyX5 tyX5_ok nmX5 15 (by decide) lkX5_init_35 rfl rfl (tyX5_ok 15 (by decide)) rfl rfl (Nat.le_of_ble_eq_true rfl) dX5_init_75 (ws' := [(b, .inr (4, [.ref q1, .ref q2, .int 0, .ref q3, .ref q4, .int 0, .ref q5, .int 0, .ref q6, .int 0, .int 0, .int 0, .int 0, .ref q7, .ref q8, .ref q9, .int 0, .int 0])), (q1, .inl ((kD k).1 100, 149, .inl (fun _ => 0))), (q2, .inl ((kD k).1 100, 894, .inl (fun _ => 0))), (q3, .inl ((kD k).1 100, 298, .inl (fun _ => 0))), (q4, .inl ((kD k).1 102, 2, .inl (fun _ => 0))), (q5, .inl ((kD k).1 100, 20, .inl (fun _ => 0))), (q6, .inl ((kD k).1 100, 60, .inl (fun _ => 0))), (q7, .inl ((kD k).1 100, 24, .inl (fun _ => 0))), (q8, .inl ((kD k).1 100, 24, .inl (fun _ => 0))), (q9, .inl ((kD k).1 100, 24, .inl (fun _ => 0)))]) rfl ?_
  refine g_aload_n (pc := 78) (x := b) C dX5_init_78 rfl ?_
  refine g_getf (pc := 79) C 0 rfl rfl inX5_init_X5 0 (by decide) lkX5_init_7 rfl rfl dX5_init_79 ?_
  refine g_iconst (pc := 82) (v := 0) C dX5_init_82 (by decide) ?_
  refine g_bipush (pc := 83) (v := 10) C dX5_init_83 (by decide) ?_
  refine g_iast (pc := 85) (X := some ()) (r := ()) (i := 0) (n := 149) rfl C 1 rfl dX5_init_85 (ws' := [(b, .inr (4, [.ref q1, .ref q2, .int 0, .ref q3, .ref q4, .int 0, .ref q5, .int 0, .ref q6, .int 0, .int 0, .int 0, .int 0, .ref q7, .ref q8, .ref q9, .int 0, .int 0])), (q1, .inl ((kD k).1 100, 149, .inl (upd (fun _ => 0) (Int32.toNatClampNeg 0) 10))), (q2, .inl ((kD k).1 100, 894, .inl (fun _ => 0))), (q3, .inl ((kD k).1 100, 298, .inl (fun _ => 0))), (q4, .inl ((kD k).1 102, 2, .inl (fun _ => 0))), (q5, .inl ((kD k).1 100, 20, .inl (fun _ => 0))), (q6, .inl ((kD k).1 100, 60, .inl (fun _ => 0))), (q7, .inl ((kD k).1 100, 24, .inl (fun _ => 0))), (q8, .inl ((kD k).1 100, 24, .inl (fun _ => 0))), (q9, .inl ((kD k).1 100, 24, .inl (fun _ => 0)))]) rfl (fun _ => ?_)
  refine g_aload_n (pc := 86) (x := b) C dX5_init_86 rfl ?_
  refine g_getf (pc := 87) C 0 rfl rfl inX5_init_X5 0 (by decide) lkX5_init_7 rfl rfl dX5_init_87 ?_
  refine g_iconst (pc := 90) (v := 1) C dX5_init_90 (by decide) ?_
  refine g_sipush (pc := 91) (v := 300) C dX5_init_91 (by decide) ?_
  refine g_iast (pc := 94) (X := some ()) (r := ()) (i := 1) (n := 149) rfl C 1 rfl dX5_init_94 (ws' := [(b, .inr (4, [.ref q1, .ref q2, .int 0, .ref q3, .ref q4, .int 0, .ref q5, .int 0, .ref q6, .int 0, .int 0, .int 0, .int 0, .ref q7, .ref q8, .ref q9, .int 0, .int 0])), (q1, .inl ((kD k).1 100, 149, .inl (upd (upd (fun _ => 0) (Int32.toNatClampNeg 0) 10) (Int32.toNatClampNeg 1) 300))), (q2, .inl ((kD k).1 100, 894, .inl (fun _ => 0))), (q3, .inl ((kD k).1 100, 298, .inl (fun _ => 0))), (q4, .inl ((kD k).1 102, 2, .inl (fun _ => 0))), (q5, .inl ((kD k).1 100, 20, .inl (fun _ => 0))), (q6, .inl ((kD k).1 100, 60, .inl (fun _ => 0))), (q7, .inl ((kD k).1 100, 24, .inl (fun _ => 0))), (q8, .inl ((kD k).1 100, 24, .inl (fun _ => 0))), (q9, .inl ((kD k).1 100, 24, .inl (fun _ => 0)))]) rfl (fun _ => ?_)
  refine g_aload_n (pc := 95) (x := b) C dX5_init_95 rfl ?_
  refine g_getf (pc := 96) C 0 rfl rfl inX5_init_X5 0 (by decide) lkX5_init_7 rfl rfl dX5_init_96 ?_
  refine g_iconst (pc := 99) (v := 2) C dX5_init_99 (by decide) ?_
  refine g_iconst (pc := 100) (v := 3) C dX5_init_100 (by decide) ?_
  refine g_iast (pc := 101) (X := some ()) (r := ()) (i := 2) (n := 149) rfl C 1 rfl dX5_init_101 (ws' := [(b, .inr (4, [.ref q1, .ref q2, .int 0, .ref q3, .ref q4, .int 0, .ref q5, .int 0, .ref q6, .int 0, .int 0, .int 0, .int 0, .ref q7, .ref q8, .ref q9, .int 0, .int 0])), (q1, .inl ((kD k).1 100, 149, .inl (upd (upd (upd (fun _ => 0) (Int32.toNatClampNeg 0) 10) (Int32.toNatClampNeg 1) 300) (Int32.toNatClampNeg 2) 3))), (q2, .inl ((kD k).1 100, 894, .inl (fun _ => 0))), (q3, .inl ((kD k).1 100, 298, .inl (fun _ => 0))), (q4, .inl ((kD k).1 102, 2, .inl (fun _ => 0))), (q5, .inl ((kD k).1 100, 20, .inl (fun _ => 0))), (q6, .inl ((kD k).1 100, 60, .inl (fun _ => 0))), (q7, .inl ((kD k).1 100, 24, .inl (fun _ => 0))), (q8, .inl ((kD k).1 100, 24, .inl (fun _ => 0))), (q9, .inl ((kD k).1 100, 24, .inl (fun _ => 0)))]) rfl (fun _ => ?_)
  refine g_aload_n (pc := 102) (x := b) C dX5_init_102 rfl ?_
  refine g_getf (pc := 103) C 0 rfl rfl inX5_init_X5 0 (by decide) lkX5_init_7 rfl rfl dX5_init_103 ?_
  refine g_iconst (pc := 106) (v := 3) C dX5_init_106 (by decide) ?_
  refine g_bipush (pc := 107) (v := 40) C dX5_init_107 (by decide) ?_
  refine g_iast (pc := 109) (X := some ()) (r := ()) (i := 3) (n := 149) rfl C 1 rfl dX5_init_109 (ws' := [(b, .inr (4, [.ref q1, .ref q2, .int 0, .ref q3, .ref q4, .int 0, .ref q5, .int 0, .ref q6, .int 0, .int 0, .int 0, .int 0, .ref q7, .ref q8, .ref q9, .int 0, .int 0])), (q1, .inl ((kD k).1 100, 149, .inl (upd (upd (upd (upd (fun _ => 0) (Int32.toNatClampNeg 0) 10) (Int32.toNatClampNeg 1) 300) (Int32.toNatClampNeg 2) 3) (Int32.toNatClampNeg 3) 40))), (q2, .inl ((kD k).1 100, 894, .inl (fun _ => 0))), (q3, .inl ((kD k).1 100, 298, .inl (fun _ => 0))), (q4, .inl ((kD k).1 102, 2, .inl (fun _ => 0))), (q5, .inl ((kD k).1 100, 20, .inl (fun _ => 0))), (q6, .inl ((kD k).1 100, 60, .inl (fun _ => 0))), (q7, .inl ((kD k).1 100, 24, .inl (fun _ => 0))), (q8, .inl ((kD k).1 100, 24, .inl (fun _ => 0))), (q9, .inl ((kD k).1 100, 24, .inl (fun _ => 0)))]) rfl (fun _ => ?_)
  exact g_vret (pc := 110) C E dX5_init_110 (Nat.le_of_ble_eq_true rfl) (Nat.le_of_ble_eq_true rfl) ⟨rfl, [q1, q2, q3, q4, q5, q6, q7, q8, q9], rfl⟩
set_option maxRecDepth 100000 in
set_option maxHeartbeats 4000000 in
theorem cX5_init_ (l : Launch) (htr : l.stackTraces = false) (D : va_G) (b : Nat) : Tc l D yX5_init wsX5_init rmX5_init [.ref b] (w5_0 b) (fun rv w => rv = none ∧ ∃ l : List Nat, w = wM D (adr (b :: l)) iM) (fun _ _ => False) 9 1495 := Tc_of htr (by decide +kernel) rfl (Nat.le_of_ble_eq_true rfl) (fun k C E hl hD => by subst hD; exact wkX5_init C b E)
