/-! the constructors -/
def iS : VS := (fun _ => 0, fun _ => 0, fun _ => 0, fun _ => 0, fun _ => 0, fun _ => 0, fun _ => 0, stA, 0, 0, 0, 0, 0)
def iT : VT := (fun _ => 0, 0, 0, 0, 0, 0)
def iV : VV := (0, iS, iS, iS, iS, iS, iS)
def iM : VM := (upd (upd (upd (upd (fun _ => 0) (Int32.toNatClampNeg 0) 10) (Int32.toNatClampNeg 1) 300) (Int32.toNatClampNeg 2) 3) (Int32.toNatClampNeg 3) 40, fun _ => 0, 0, fun _ => 0, fun _ => 0, 0, fun _ => 0, 0, fun _ => 0, 0, 0, 0, 0, fun _ => 0, fun _ => 0, fun _ => 0, 0, 0)
def adr (l : List Nat) (n : Nat) : Nat := l.getD n 0
abbrev rmX3_init : Room := { frames := 1, cells := 8, slots := 144, locals := 40 }
theorem lkX3_init_9 : Cond.fieldLink RX3 9 "GaugeBlocks$State" (TX3 0).2.1 (TX3 0).2.2.1 ∈ wsX3_init := by decide +kernel
theorem lkX3_init_15 : Cond.fieldLink RX3 15 "GaugeBlocks$State" (TX3 1).2.1 (TX3 1).2.2.1 ∈ wsX3_init := by decide +kernel
theorem lkX3_init_18 : Cond.fieldLink RX3 18 "GaugeBlocks$State" (TX3 2).2.1 (TX3 2).2.2.1 ∈ wsX3_init := by decide +kernel
theorem lkX3_init_21 : Cond.fieldLink RX3 21 "GaugeBlocks$State" (TX3 3).2.1 (TX3 3).2.2.1 ∈ wsX3_init := by decide +kernel
theorem lkX3_init_24 : Cond.fieldLink RX3 24 "GaugeBlocks$State" (TX3 4).2.1 (TX3 4).2.2.1 ∈ wsX3_init := by decide +kernel
theorem lkX3_init_27 : Cond.fieldLink RX3 27 "GaugeBlocks$State" (TX3 5).2.1 (TX3 5).2.2.1 ∈ wsX3_init := by decide +kernel
theorem lkX3_init_30 : Cond.fieldLink RX3 30 "GaugeBlocks$State" (TX3 6).2.1 (TX3 6).2.2.1 ∈ wsX3_init := by decide +kernel
theorem lkX3_init_41 : Cond.fieldLink RX3 41 "GaugeBlocks$State" (TX3 7).2.1 (TX3 7).2.2.1 ∈ wsX3_init := by decide +kernel
theorem inX3_init_X3 : ∀ w ∈ wsX30, w ∈ wsX3_init := by decide +kernel
theorem hdX3_init : yX3_init.cls ≠ "java/lang/invoke/MethodHandle" ∧ yX3_init.cls ≠ "java/lang/invoke/VarHandle" ∧ (parseMethodDescriptor yX3_init.desc).map (fun d => d.parameters.length) = some 0 := by decide +kernel
def w3_0 (b : Nat) : va_W := [(b, .inr (2, [.null, .null, .null, .null, .null, .null, .null, .null, .int 0, .int 0, .int 0, .int 0, .int 0]))]
set_option maxRecDepth 100000 in
set_option maxHeartbeats 4000000 in
theorem wkX3_init {k : Kt} (C : gC k cX3_init 1 RX3 wsX3_init rmX3_init "<init>") (b : Nat) (E : gE k (w3_0 b) (fun rv w => rv = none ∧ ∃ l : List Nat, w = wS (kD k) (adr (b :: l)) iS) (fun _ _ => False) 8 144 none []) : gG k (w3_0 b) [(0, .ref b)] 0 0 0 [] := by
  refine g_aload_n (pc := 0) (x := b) C dX3_init_0 rfl ?_
  refine g_objInit (pc := 1) C (ix := 3) (by decide +kernel) (by decide +kernel) (by decide +kernel) (by decide) (by decide) dX3_init_1 ?_
  refine g_aload_n (pc := 4) (x := b) C dX3_init_4 rfl ?_
  refine g_bipush (pc := 5) (v := 20) C dX3_init_5 (by decide) ?_
  refine g_newI (pc := 7) C (N := 20) (by decide +kernel) (by decide) (by decide) (by decide) (Nat.le_of_ble_eq_true rfl) (Nat.le_of_ble_eq_true rfl) dX3_init_7 (fun q1 => ?_)
  refine g_putF (pc := 9) C 0 rfl rfl inX3_init_X3 tyX3 tyX3_ok nmX3 0 (by decide) lkX3_init_9 rfl rfl (tyX3_ok 0 (by decide)) rfl rfl (Nat.le_of_ble_eq_true rfl) dX3_init_9 (ws' := [(b, .inr (2, [.ref q1, .null, .null, .null, .null, .null, .null, .null, .int 0, .int 0, .int 0, .int 0, .int 0])), (q1, .inl ((kD k).1 100, 20, .inl (fun _ => 0)))]) rfl ?_
  refine g_aload_n (pc := 12) (x := b) C dX3_init_12 rfl ?_
  refine g_bipush (pc := 13) (v := 20) C dX3_init_13 (by decide) ?_
  refine g_newI (pc := 15) C (N := 20) (by decide +kernel) (by decide) (by decide) (by decide) (Nat.le_of_ble_eq_true rfl) (Nat.le_of_ble_eq_true rfl) dX3_init_15 (fun q2 => ?_)
  refine g_putF (pc := 17) C 0 rfl rfl inX3_init_X3 tyX3 tyX3_ok nmX3 1 (by decide) lkX3_init_15 rfl rfl (tyX3_ok 1 (by decide)) rfl rfl (Nat.le_of_ble_eq_true rfl) dX3_init_17 (ws' := [(b, .inr (2, [.ref q1, .ref q2, .null, .null, .null, .null, .null, .null, .int 0, .int 0, .int 0, .int 0, .int 0])), (q1, .inl ((kD k).1 100, 20, .inl (fun _ => 0))), (q2, .inl ((kD k).1 100, 20, .inl (fun _ => 0)))]) rfl ?_
  refine g_aload_n (pc := 20) (x := b) C dX3_init_20 rfl ?_
  refine g_bipush (pc := 21) (v := 20) C dX3_init_21 (by decide) ?_
  refine g_newI (pc := 23) C (N := 20) (by decide +kernel) (by decide) (by decide) (by decide) (Nat.le_of_ble_eq_true rfl) (Nat.le_of_ble_eq_true rfl) dX3_init_23 (fun q3 => ?_)
  refine g_putF (pc := 25) C 0 rfl rfl inX3_init_X3 tyX3 tyX3_ok nmX3 2 (by decide) lkX3_init_18 rfl rfl (tyX3_ok 2 (by decide)) rfl rfl (Nat.le_of_ble_eq_true rfl) dX3_init_25 (ws' := [(b, .inr (2, [.ref q1, .ref q2, .ref q3, .null, .null, .null, .null, .null, .int 0, .int 0, .int 0, .int 0, .int 0])), (q1, .inl ((kD k).1 100, 20, .inl (fun _ => 0))), (q2, .inl ((kD k).1 100, 20, .inl (fun _ => 0))), (q3, .inl ((kD k).1 100, 20, .inl (fun _ => 0)))]) rfl ?_
  refine g_aload_n (pc := 28) (x := b) C dX3_init_28 rfl ?_
  refine g_bipush (pc := 29) (v := 20) C dX3_init_29 (by decide) ?_
  refine g_newI (pc := 31) C (N := 20) (by decide +kernel) (by decide) (by decide) (by decide) (Nat.le_of_ble_eq_true rfl) (Nat.le_of_ble_eq_true rfl) dX3_init_31 (fun q4 => ?_)
  refine g_putF (pc := 33) C 0 rfl rfl inX3_init_X3 tyX3 tyX3_ok nmX3 3 (by decide) lkX3_init_21 rfl rfl (tyX3_ok 3 (by decide)) rfl rfl (Nat.le_of_ble_eq_true rfl) dX3_init_33 (ws' := [(b, .inr (2, [.ref q1, .ref q2, .ref q3, .ref q4, .null, .null, .null, .null, .int 0, .int 0, .int 0, .int 0, .int 0])), (q1, .inl ((kD k).1 100, 20, .inl (fun _ => 0))), (q2, .inl ((kD k).1 100, 20, .inl (fun _ => 0))), (q3, .inl ((kD k).1 100, 20, .inl (fun _ => 0))), (q4, .inl ((kD k).1 100, 20, .inl (fun _ => 0)))]) rfl ?_
  refine g_aload_n (pc := 36) (x := b) C dX3_init_36 rfl ?_
  refine g_bipush (pc := 37) (v := 20) C dX3_init_37 (by decide) ?_
  refine g_newI (pc := 39) C (N := 20) (by decide +kernel) (by decide) (by decide) (by decide) (Nat.le_of_ble_eq_true rfl) (Nat.le_of_ble_eq_true rfl) dX3_init_39 (fun q5 => ?_)
  refine g_putF (pc := 41) C 0 rfl rfl inX3_init_X3 tyX3 tyX3_ok nmX3 4 (by decide) lkX3_init_24 rfl rfl (tyX3_ok 4 (by decide)) rfl rfl (Nat.le_of_ble_eq_true rfl) dX3_init_41 (ws' := [(b, .inr (2, [.ref q1, .ref q2, .ref q3, .ref q4, .ref q5, .null, .null, .null, .int 0, .int 0, .int 0, .int 0, .int 0])), (q1, .inl ((kD k).1 100, 20, .inl (fun _ => 0))), (q2, .inl ((kD k).1 100, 20, .inl (fun _ => 0))), (q3, .inl ((kD k).1 100, 20, .inl (fun _ => 0))), (q4, .inl ((kD k).1 100, 20, .inl (fun _ => 0))), (q5, .inl ((kD k).1 100, 20, .inl (fun _ => 0)))]) rfl ?_
  refine g_aload_n (pc := 44) (x := b) C dX3_init_44 rfl ?_
  refine g_bipush (pc := 45) (v := 20) C dX3_init_45 (by decide) ?_
  refine g_newI (pc := 47) C (N := 20) (by decide +kernel) (by decide) (by decide) (by decide) (Nat.le_of_ble_eq_true rfl) (Nat.le_of_ble_eq_true rfl) dX3_init_47 (fun q6 => ?_)
  refine g_putF (pc := 49) C 0 rfl rfl inX3_init_X3 tyX3 tyX3_ok nmX3 5 (by decide) lkX3_init_27 rfl rfl (tyX3_ok 5 (by decide)) rfl rfl (Nat.le_of_ble_eq_true rfl) dX3_init_49 (ws' := [(b, .inr (2, [.ref q1, .ref q2, .ref q3, .ref q4, .ref q5, .ref q6, .null, .null, .int 0, .int 0, .int 0, .int 0, .int 0])), (q1, .inl ((kD k).1 100, 20, .inl (fun _ => 0))), (q2, .inl ((kD k).1 100, 20, .inl (fun _ => 0))), (q3, .inl ((kD k).1 100, 20, .inl (fun _ => 0))), (q4, .inl ((kD k).1 100, 20, .inl (fun _ => 0))), (q5, .inl ((kD k).1 100, 20, .inl (fun _ => 0))), (q6, .inl ((kD k).1 100, 20, .inl (fun _ => 0)))]) rfl ?_
  refine g_aload_n (pc := 52) (x := b) C dX3_init_52 rfl ?_
  refine g_bipush (pc := 53) (v := 20) C dX3_init_53 (by decide) ?_
  refine g_newI (pc := 55) C (N := 20) (by decide +kernel) (by decide) (by decide) (by decide) (Nat.le_of_ble_eq_true rfl) (Nat.le_of_ble_eq_true rfl) dX3_init_55 (fun q7 => ?_)
  refine g_putF (pc := 57) C 0 rfl rfl inX3_init_X3 tyX3 tyX3_ok nmX3 6 (by decide) lkX3_init_30 rfl rfl (tyX3_ok 6 (by decide)) rfl rfl (Nat.le_of_ble_eq_true rfl) dX3_init_57 (ws' := [(b, .inr (2, [.ref q1, .ref q2, .ref q3, .ref q4, .ref q5, .ref q6, .ref q7, .null, .int 0, .int 0, .int 0, .int 0, .int 0])), (q1, .inl ((kD k).1 100, 20, .inl (fun _ => 0))), (q2, .inl ((kD k).1 100, 20, .inl (fun _ => 0))), (q3, .inl ((kD k).1 100, 20, .inl (fun _ => 0))), (q4, .inl ((kD k).1 100, 20, .inl (fun _ => 0))), (q5, .inl ((kD k).1 100, 20, .inl (fun _ => 0))), (q6, .inl ((kD k).1 100, 20, .inl (fun _ => 0))), (q7, .inl ((kD k).1 100, 20, .inl (fun _ => 0)))]) rfl ?_
  refine g_aload_n (pc := 60) (x := b) C dX3_init_60 rfl ?_
  refine g_settings (pc := 61) C (by decide) (Nat.le_of_ble_eq_true rfl) (Nat.le_of_ble_eq_true rfl) (Nat.le_of_ble_eq_true rfl) dX3_init_61 dX3_init_64 dX3_init_67 (fun q8 => ?_)
  refine g_putF (pc := 70) C 0 rfl rfl inX3_init_X3 tyX3 tyX3_ok nmX3 7 (by decide) lkX3_init_41 rfl rfl (tyX3_ok 7 (by decide)) rfl rfl (Nat.le_of_ble_eq_true rfl) dX3_init_70 (ws' := [(b, .inr (2, [.ref q1, .ref q2, .ref q3, .ref q4, .ref q5, .ref q6, .ref q7, .ref q8, .int 0, .int 0, .int 0, .int 0, .int 0])), (q1, .inl ((kD k).1 100, 20, .inl (fun _ => 0))), (q2, .inl ((kD k).1 100, 20, .inl (fun _ => 0))), (q3, .inl ((kD k).1 100, 20, .inl (fun _ => 0))), (q4, .inl ((kD k).1 100, 20, .inl (fun _ => 0))), (q5, .inl ((kD k).1 100, 20, .inl (fun _ => 0))), (q6, .inl ((kD k).1 100, 20, .inl (fun _ => 0))), (q7, .inl ((kD k).1 100, 20, .inl (fun _ => 0))), (q8, .inl ((kD k).1 100, 4, .inl stA))]) rfl ?_
  exact g_vret (pc := 73) C E dX3_init_73 (Nat.le_of_ble_eq_true rfl) (Nat.le_of_ble_eq_true rfl) ⟨rfl, [q1, q2, q3, q4, q5, q6, q7, q8], rfl⟩
set_option maxRecDepth 100000 in
set_option maxHeartbeats 4000000 in
theorem cX3_init_ (l : Launch) (htr : l.stackTraces = false) (D : va_G) (b : Nat) : Tc l D yX3_init wsX3_init rmX3_init [.ref b] (w3_0 b) (fun rv w => rv = none ∧ ∃ l : List Nat, w = wS D (adr (b :: l)) iS) (fun _ _ => False) 8 144 := Tc_of htr (by decide +kernel) rfl (Nat.le_of_ble_eq_true rfl) (fun k C E hl hD => by subst hD; exact wkX3_init C b E)
abbrev rmX1_init : Room := { frames := 1, cells := 1, slots := 60, locals := 40 }
theorem lkX1_init_9 : Cond.fieldLink RX1 9 "GaugeBlocks$OrderText" (TX1 0).2.1 (TX1 0).2.2.1 ∈ wsX1_init := by decide +kernel
theorem inX1_init_X1 : ∀ w ∈ wsX10, w ∈ wsX1_init := by decide +kernel
theorem hdX1_init : yX1_init.cls ≠ "java/lang/invoke/MethodHandle" ∧ yX1_init.cls ≠ "java/lang/invoke/VarHandle" ∧ (parseMethodDescriptor yX1_init.desc).map (fun d => d.parameters.length) = some 0 := by decide +kernel
def w1_0 (b : Nat) : va_W := [(b, .inr (0, [.null, .int 0, .int 0, .int 0, .int 0, .int 0]))]
set_option maxRecDepth 100000 in
set_option maxHeartbeats 4000000 in
theorem wkX1_init {k : Kt} (C : gC k cX1_init 1 RX1 wsX1_init rmX1_init "<init>") (b : Nat) (E : gE k (w1_0 b) (fun rv w => rv = none ∧ ∃ l : List Nat, w = wT (kD k) (adr (b :: l)) iT) (fun _ _ => False) 1 60 none []) : gG k (w1_0 b) [(0, .ref b)] 0 0 0 [] := by
  refine g_aload_n (pc := 0) (x := b) C dX1_init_0 rfl ?_
  refine g_objInit (pc := 1) C (ix := 3) (by decide +kernel) (by decide +kernel) (by decide +kernel) (by decide) (by decide) dX1_init_1 ?_
  refine g_aload_n (pc := 4) (x := b) C dX1_init_4 rfl ?_
  refine g_bipush (pc := 5) (v := 60) C dX1_init_5 (by decide) ?_
  refine g_newI (pc := 7) C (N := 60) (by decide +kernel) (by decide) (by decide) (by decide) (Nat.le_of_ble_eq_true rfl) (Nat.le_of_ble_eq_true rfl) dX1_init_7 (fun q1 => ?_)
  refine g_putF (pc := 9) C 0 rfl rfl inX1_init_X1 tyX1 tyX1_ok nmX1 0 (by decide) lkX1_init_9 rfl rfl (tyX1_ok 0 (by decide)) rfl rfl (Nat.le_of_ble_eq_true rfl) dX1_init_9 (ws' := (wT (kD k) (adr [b, q1]) iT)) rfl ?_
  exact g_vret (pc := 12) C E dX1_init_12 (Nat.le_of_ble_eq_true rfl) (Nat.le_of_ble_eq_true rfl) ⟨rfl, [q1], rfl⟩
set_option maxRecDepth 100000 in
set_option maxHeartbeats 4000000 in
theorem cX1_init_ (l : Launch) (htr : l.stackTraces = false) (D : va_G) (b : Nat) : Tc l D yX1_init wsX1_init rmX1_init [.ref b] (w1_0 b) (fun rv w => rv = none ∧ ∃ l : List Nat, w = wT D (adr (b :: l)) iT) (fun _ _ => False) 1 60 := Tc_of htr (by decide +kernel) rfl (Nat.le_of_ble_eq_true rfl) (fun k C E hl hD => by subst hD; exact wkX1_init C b E)
