abbrev rmX1_addSign : Room := { frames := 0, cells := 0, slots := 0, locals := 0 }
theorem inX1_addSign_X1 : ∀ w ∈ wsX10, w ∈ wsX1_addSign := by decide +kernel
theorem lkX1_addSign_15 : Cond.fieldLink RX1 15 "GaugeBlocks$OrderText" (TX1 1).2.1 (TX1 1).2.2.1 ∈ wsX1_addSign := by decide +kernel
theorem lkX1_addSign_9 : Cond.fieldLink RX1 9 "GaugeBlocks$OrderText" (TX1 0).2.1 (TX1 0).2.2.1 ∈ wsX1_addSign := by decide +kernel
theorem hdX1_addSign : yX1_addSign.cls = RX1 ∧ yX1_addSign.cls ≠ "java/lang/invoke/MethodHandle" ∧ yX1_addSign.cls ≠ "java/lang/invoke/VarHandle" ∧ (parseMethodDescriptor yX1_addSign.desc).map (fun d => d.parameters.length) = some 1 := by decide +kernel
def fX1_addSign (N : Nat) (tx : VT) (p1 : Int32) : Option (VT) := (if (60 : Int32) ≤ (tL tx) then some tx else ck (tL tx) 60 (some ((upd (tC tx) (Int32.toNatClampNeg (tL tx)) p1), ((tL tx) + 1), (tA tx), (tR tx), (tF tx), (tE tx))))
set_option maxRecDepth 100000 in
set_option maxHeartbeats 4000000 in
theorem wkX1_addSign {k : Kt} (C : gC k cX1_addSign 2 RX1 wsX1_addSign rmX1_addSign "addSign") (N : Nat) (aT : Nat → Nat) (tx : VT) (p1 : Int32) (r : VT) (hf : fX1_addSign N tx p1 = some r) (E : gE k (wT (kD k) aT tx) (fun rv w => rv = none ∧ w = (wT (kD k) aT r)) (fun _ _ => False) 0 0 none []) : gG k (wT (kD k) aT tx) [(0, .ref (aT 0)), (1, .int p1)] 0 0 0 [] := by
  unfold fX1_addSign at hf
  refine g_aload_n (pc := 0) (x := (aT 0)) C dX1_addSign_0 rfl ?_
  refine g_getf (pc := 1) C 0 rfl rfl inX1_addSign_X1 1 (by decide) lkX1_addSign_15 rfl rfl dX1_addSign_1 ?_
  refine g_bipush (pc := 4) (v := 60) C dX1_addSign_4 (by decide) ?_
  refine g_icmp_ge (pc := 6) (tgt := 29) (x := (tL tx)) (y := 60) hf C dX1_addSign_6 (by decide) (fun hf => ?_) (fun hf => ?_)
  · obtain rfl := Option.some.inj hf
    exact g_vret C E dX1_addSign_29 (Nat.le_of_ble_eq_true rfl) (Nat.le_of_ble_eq_true rfl) ⟨rfl, rfl⟩
  · refine g_aload_n (pc := 9) (x := (aT 0)) C dX1_addSign_9 rfl ?_
    refine g_getf (pc := 10) C 0 rfl rfl inX1_addSign_X1 0 (by decide) lkX1_addSign_9 rfl rfl dX1_addSign_10 ?_
    refine g_aload_n (pc := 13) (x := (aT 0)) C dX1_addSign_13 rfl ?_
    refine g_getf (pc := 14) C 0 rfl rfl inX1_addSign_X1 1 (by decide) lkX1_addSign_15 rfl rfl dX1_addSign_14 ?_
    refine g_iload_n (pc := 17) (x := p1) C dX1_addSign_17 rfl ?_
    refine g_iast (pc := 18) (i := (tL tx)) (x := p1) hf C 1 rfl dX1_addSign_18 (ws' := (wT (kD k) aT ((upd (tC tx) (Int32.toNatClampNeg (tL tx)) p1), (tL tx), (tA tx), (tR tx), (tF tx), (tE tx)))) rfl (fun hf => ?_)
    refine g_aload_n (pc := 19) (x := (aT 0)) C dX1_addSign_19 rfl ?_
    refine g_dup (pc := 20) C dX1_addSign_20 rfl ?_
    refine g_getf (pc := 21) C 0 rfl rfl inX1_addSign_X1 1 (by decide) lkX1_addSign_15 rfl rfl dX1_addSign_21 ?_
    refine g_iconst (pc := 24) (v := 1) C dX1_addSign_24 (by decide) ?_
    refine g_iadd (pc := 25) (x := (tL tx)) (y := 1) C dX1_addSign_25 ?_
    refine g_putf (pc := 26) C 0 rfl rfl inX1_addSign_X1 tyX1 tyX1_ok nmX1 1 (by decide) lkX1_addSign_15 rfl rfl pfX1_1 rfl rfl (Nat.le_of_ble_eq_true rfl) dX1_addSign_26 (ws' := (wT (kD k) aT ((upd (tC tx) (Int32.toNatClampNeg (tL tx)) p1), ((tL tx) + 1), (tA tx), (tR tx), (tF tx), (tE tx)))) rfl ?_
    obtain rfl := Option.some.inj hf
    exact g_vret C E dX1_addSign_29 (Nat.le_of_ble_eq_true rfl) (Nat.le_of_ble_eq_true rfl) ⟨rfl, rfl⟩
set_option maxRecDepth 100000 in
set_option maxHeartbeats 4000000 in
theorem cX1_addSign_ (l : Launch) (htr : l.stackTraces = false) (D : va_G) (N : Nat) (aT : Nat → Nat) (tx : VT) (p1 : Int32) (r : VT) (hf : fX1_addSign N tx p1 = some r) : Tc l D yX1_addSign wsX1_addSign rmX1_addSign [.ref (aT 0), .int p1] (wT D aT tx) (fun rv w => rv = none ∧ w = (wT D aT r)) (fun _ _ => False) 0 0 := Tc_of htr (by decide +kernel) rfl (Nat.le_of_ble_eq_true rfl) (fun k C E hl hD => by subst hD; exact wkX1_addSign C N aT tx p1 r hf E)
abbrev rmX1_isAtEnd : Room := { frames := 0, cells := 0, slots := 0, locals := 0 }
theorem inX1_isAtEnd_X1 : ∀ w ∈ wsX10, w ∈ wsX1_isAtEnd := by decide +kernel
theorem lkX1_isAtEnd_19 : Cond.fieldLink RX1 19 "GaugeBlocks$OrderText" (TX1 2).2.1 (TX1 2).2.2.1 ∈ wsX1_isAtEnd := by decide +kernel
theorem lkX1_isAtEnd_15 : Cond.fieldLink RX1 15 "GaugeBlocks$OrderText" (TX1 1).2.1 (TX1 1).2.2.1 ∈ wsX1_isAtEnd := by decide +kernel
theorem hdX1_isAtEnd : yX1_isAtEnd.cls = RX1 ∧ yX1_isAtEnd.cls ≠ "java/lang/invoke/MethodHandle" ∧ yX1_isAtEnd.cls ≠ "java/lang/invoke/VarHandle" ∧ (parseMethodDescriptor yX1_isAtEnd.desc).map (fun d => d.parameters.length) = some 0 := by decide +kernel
def fX1_isAtEnd (N : Nat) (tx : VT) : Option (Bool) := (if (tA tx) < (tL tx) then some false else some true)
set_option maxRecDepth 100000 in
set_option maxHeartbeats 4000000 in
theorem wkX1_isAtEnd {k : Kt} (C : gC k cX1_isAtEnd 1 RX1 wsX1_isAtEnd rmX1_isAtEnd "isAtEnd") (N : Nat) (aT : Nat → Nat) (tx : VT) (r : Bool) (hf : fX1_isAtEnd N tx = some r) (E : gE k (wT (kD k) aT tx) (fun rv w => rv = some (.int (b2i r)) ∧ w = (wT (kD k) aT tx)) (fun _ _ => False) 0 0 (some .boolean) []) : gG k (wT (kD k) aT tx) [(0, .ref (aT 0))] 0 0 0 [] := by
  unfold fX1_isAtEnd at hf
  refine g_aload_n (pc := 0) (x := (aT 0)) C dX1_isAtEnd_0 rfl ?_
  refine g_getf (pc := 1) C 0 rfl rfl inX1_isAtEnd_X1 2 (by decide) lkX1_isAtEnd_19 rfl rfl dX1_isAtEnd_1 ?_
  refine g_aload_n (pc := 4) (x := (aT 0)) C dX1_isAtEnd_4 rfl ?_
  refine g_getf (pc := 5) C 0 rfl rfl inX1_isAtEnd_X1 1 (by decide) lkX1_isAtEnd_15 rfl rfl dX1_isAtEnd_5 ?_
  refine g_icmp_lt (pc := 8) (tgt := 15) (x := (tA tx)) (y := (tL tx)) hf C dX1_isAtEnd_8 (by decide) (fun hf => ?_) (fun hf => ?_)
  · refine g_iconst (pc := 15) (v := 0) C dX1_isAtEnd_15 (by decide) ?_
    obtain rfl := Option.some.inj hf
    exact g_bret (b := false) C E dX1_isAtEnd_16 (Nat.le_of_ble_eq_true rfl) (Nat.le_of_ble_eq_true rfl) ⟨rfl, rfl⟩
  · refine g_iconst (pc := 11) (v := 1) C dX1_isAtEnd_11 (by decide) ?_
    refine g_goto (pc := 12) (tgt := 16) C dX1_isAtEnd_12 (by decide) ?_
    obtain rfl := Option.some.inj hf
    exact g_bret (b := true) C E dX1_isAtEnd_16 (Nat.le_of_ble_eq_true rfl) (Nat.le_of_ble_eq_true rfl) ⟨rfl, rfl⟩
set_option maxRecDepth 100000 in
set_option maxHeartbeats 4000000 in
theorem cX1_isAtEnd_ (l : Launch) (htr : l.stackTraces = false) (D : va_G) (N : Nat) (aT : Nat → Nat) (tx : VT) (r : Bool) (hf : fX1_isAtEnd N tx = some r) : Tc l D yX1_isAtEnd wsX1_isAtEnd rmX1_isAtEnd [.ref (aT 0)] (wT D aT tx) (fun rv w => rv = some (.int (b2i r)) ∧ w = (wT D aT tx)) (fun _ _ => False) 0 0 := Tc_of htr (by decide +kernel) rfl (Nat.le_of_ble_eq_true rfl) (fun k C E hl hD => by subst hD; exact wkX1_isAtEnd C N aT tx r hf E)
abbrev rmX1_readSign : Room := { frames := 1, cells := 0, slots := 0, locals := 20 }
theorem inX1_readSign_X1 : ∀ w ∈ wsX10, w ∈ wsX1_readSign := by decide +kernel
theorem lkX1_readSign_9 : Cond.fieldLink RX1 9 "GaugeBlocks$OrderText" (TX1 0).2.1 (TX1 0).2.2.1 ∈ wsX1_readSign := by decide +kernel
theorem lkX1_readSign_19 : Cond.fieldLink RX1 19 "GaugeBlocks$OrderText" (TX1 2).2.1 (TX1 2).2.2.1 ∈ wsX1_readSign := by decide +kernel
theorem hdX1_readSign : yX1_readSign.cls = RX1 ∧ yX1_readSign.cls ≠ "java/lang/invoke/MethodHandle" ∧ yX1_readSign.cls ≠ "java/lang/invoke/VarHandle" ∧ (parseMethodDescriptor yX1_readSign.desc).map (fun d => d.parameters.length) = some 1 := by decide +kernel
def fX1_readSign (N : Nat) (tx : VT) (p1 : Int32) : Option (VT × Bool) := ((fX1_isAtEnd N tx).bind fun r1 => (if r1 = true then some (tx, false) else ck (tA tx) 60 ((if ((tC tx) (Int32.toNatClampNeg (tA tx))) = p1 then some (((tC tx), (tL tx), ((tA tx) + 1), (tR tx), (tF tx), (tE tx)), true) else some (tx, false)))))
set_option maxRecDepth 100000 in
set_option maxHeartbeats 4000000 in
theorem wkX1_readSign {k : Kt} (C : gC k cX1_readSign 2 RX1 wsX1_readSign rmX1_readSign "readSign") (N : Nat) (aT : Nat → Nat) (tx : VT) (p1 : Int32) (r : VT × Bool) (hf : fX1_readSign N tx p1 = some r) (E : gE k (wT (kD k) aT tx) (fun rv w => rv = some (.int (b2i r.2)) ∧ w = (wT (kD k) aT r.1)) (fun _ _ => False) 0 0 (some .boolean) []) : gG k (wT (kD k) aT tx) [(0, .ref (aT 0)), (1, .int p1)] 0 0 0 [] := by
  unfold fX1_readSign at hf
  refine g_aload_n (pc := 0) (x := (aT 0)) C dX1_readSign_0 rfl ?_
  refine g_callR (pc' := 4) (cs' := 0) (sl' := 0) hf C (fun u => some (.int (b2i u))) (fun u hu => gr_V (rest := []) C (cX1_isAtEnd_ (kL k) C.tr (kD k) N aT tx u hu) (fun ht => cwV 0 ht gX1_readSign_X1_isAtEnd rfl rfl rfl hdX1_isAtEnd ⟨(Nat.le_of_ble_eq_true rfl), (Nat.le_of_ble_eq_true rfl)⟩) 0 rfl rfl [0, 1] rfl (by decide) rfl rfl (Nat.le_of_ble_eq_true rfl) dX1_readSign_1 ⟨(Nat.le_of_ble_eq_true rfl), (Nat.le_of_ble_eq_true rfl)⟩) [0, 1] rfl rfl rfl rfl (fun u => [.int (b2i u)]) (fun u => rfl) (fun r1 hf => ?_)
  refine g_ifB_ne (pc := 4) (tgt := 20) (b := r1) hf C dX1_readSign_4 (by decide) (fun hf => ?_) (fun hf => ?_)
  · refine g_iconst (pc := 20) (v := 0) C dX1_readSign_20 (by decide) ?_
    obtain rfl := Option.some.inj hf
    exact g_bret (b := false) C E dX1_readSign_21 (Nat.le_of_ble_eq_true rfl) (Nat.le_of_ble_eq_true rfl) ⟨rfl, rfl⟩
  · refine g_aload_n (pc := 7) (x := (aT 0)) C dX1_readSign_7 rfl ?_
    refine g_getf (pc := 8) C 0 rfl rfl inX1_readSign_X1 0 (by decide) lkX1_readSign_9 rfl rfl dX1_readSign_8 ?_
    refine g_aload_n (pc := 11) (x := (aT 0)) C dX1_readSign_11 rfl ?_
    refine g_getf (pc := 12) C 0 rfl rfl inX1_readSign_X1 2 (by decide) lkX1_readSign_19 rfl rfl dX1_readSign_12 ?_
    refine g_iald (pc := 15) (i := (tA tx)) hf C 1 rfl dX1_readSign_15 (fun hf => ?_)
    refine g_iload_n (pc := 16) (x := p1) C dX1_readSign_16 rfl ?_
    refine g_icmp_eq (pc := 17) (tgt := 22) (x := ((tC tx) (Int32.toNatClampNeg (tA tx)))) (y := p1) hf C dX1_readSign_17 (by decide) (fun hf => ?_) (fun hf => ?_)
    · refine g_aload_n (pc := 22) (x := (aT 0)) C dX1_readSign_22 rfl ?_
      refine g_dup (pc := 23) C dX1_readSign_23 rfl ?_
      refine g_getf (pc := 24) C 0 rfl rfl inX1_readSign_X1 2 (by decide) lkX1_readSign_19 rfl rfl dX1_readSign_24 ?_
      refine g_iconst (pc := 27) (v := 1) C dX1_readSign_27 (by decide) ?_
      refine g_iadd (pc := 28) (x := (tA tx)) (y := 1) C dX1_readSign_28 ?_
      refine g_putf (pc := 29) C 0 rfl rfl inX1_readSign_X1 tyX1 tyX1_ok nmX1 2 (by decide) lkX1_readSign_19 rfl rfl pfX1_2 rfl rfl (Nat.le_of_ble_eq_true rfl) dX1_readSign_29 (ws' := (wT (kD k) aT ((tC tx), (tL tx), ((tA tx) + 1), (tR tx), (tF tx), (tE tx)))) rfl ?_
      refine g_iconst (pc := 32) (v := 1) C dX1_readSign_32 (by decide) ?_
      obtain rfl := Option.some.inj hf
      exact g_bret (b := true) C E dX1_readSign_33 (Nat.le_of_ble_eq_true rfl) (Nat.le_of_ble_eq_true rfl) ⟨rfl, rfl⟩
    · refine g_iconst (pc := 20) (v := 0) C dX1_readSign_20 (by decide) ?_
      obtain rfl := Option.some.inj hf
      exact g_bret (b := false) C E dX1_readSign_21 (Nat.le_of_ble_eq_true rfl) (Nat.le_of_ble_eq_true rfl) ⟨rfl, rfl⟩
set_option maxRecDepth 100000 in
set_option maxHeartbeats 4000000 in
theorem cX1_readSign_ (l : Launch) (htr : l.stackTraces = false) (D : va_G) (N : Nat) (aT : Nat → Nat) (tx : VT) (p1 : Int32) (r : VT × Bool) (hf : fX1_readSign N tx p1 = some r) : Tc l D yX1_readSign wsX1_readSign rmX1_readSign [.ref (aT 0), .int p1] (wT D aT tx) (fun rv w => rv = some (.int (b2i r.2)) ∧ w = (wT D aT r.1)) (fun _ _ => False) 0 0 := Tc_of htr (by decide +kernel) rfl (Nat.le_of_ble_eq_true rfl) (fun k C E hl hD => by subst hD; exact wkX1_readSign C N aT tx p1 r hf E)
abbrev rmX1_withDigit : Room := { frames := 0, cells := 0, slots := 0, locals := 0 }
theorem hsX1_withDigit : yX1_withDigit.cls ≠ "java/lang/invoke/MethodHandle" ∧ yX1_withDigit.cls ≠ "java/lang/invoke/VarHandle" ∧ (parseMethodDescriptor yX1_withDigit.desc).map (fun d => d.parameters.length) = some 2 := by decide +kernel
def fX1_withDigit (N : Nat) (p0 : Int32) (p1 : Int32) : Option (Int32) := (if p1 < (48 : Int32) then some (-1) else (if (57 : Int32) < p1 then some (-1) else (if p0 = (0 : Int32) then some (-1) else (if p0 = ((-1) : Int32) then some (p1 - 48) else some (((p0 * 10) + p1) - 48)))))
set_option maxRecDepth 100000 in
set_option maxHeartbeats 4000000 in
theorem wkX1_withDigit {k : Kt} (C : gC k cX1_withDigit 2 RX1 wsX1_withDigit rmX1_withDigit "withDigit") (N : Nat) (p0 : Int32) (p1 : Int32) (r : Int32) (hf : fX1_withDigit N p0 p1 = some r) (E : gE k [] (fun rv w => rv = some (.int r) ∧ w = []) (fun _ _ => False) 0 0 (some .int) []) : gG k [] [(0, .int p0), (1, .int p1)] 0 0 0 [] := by
  unfold fX1_withDigit at hf
  refine g_iload_n (pc := 0) (x := p1) C dX1_withDigit_0 rfl ?_
  refine g_bipush (pc := 1) (v := 48) C dX1_withDigit_1 (by decide) ?_
  refine g_icmp_lt (pc := 3) (tgt := 16) (x := p1) (y := 48) hf C dX1_withDigit_3 (by decide) (fun hf => ?_) (fun hf => ?_)
  · refine g_iconst (pc := 16) (v := (-1)) C dX1_withDigit_16 (by decide) ?_
    obtain rfl := Option.some.inj hf
    exact g_iret (v := (-1)) C E dX1_withDigit_17 (Nat.le_of_ble_eq_true rfl) (Nat.le_of_ble_eq_true rfl) ⟨rfl, rfl⟩
  · refine g_iload_n (pc := 6) (x := p1) C dX1_withDigit_6 rfl ?_
    refine g_bipush (pc := 7) (v := 57) C dX1_withDigit_7 (by decide) ?_
    refine g_icmp_gt (pc := 9) (tgt := 16) (x := p1) (y := 57) hf C dX1_withDigit_9 (by decide) (fun hf => ?_) (fun hf => ?_)
    · refine g_iconst (pc := 16) (v := (-1)) C dX1_withDigit_16 (by decide) ?_
      obtain rfl := Option.some.inj hf
      exact g_iret (v := (-1)) C E dX1_withDigit_17 (Nat.le_of_ble_eq_true rfl) (Nat.le_of_ble_eq_true rfl) ⟨rfl, rfl⟩
    · refine g_iload_n (pc := 12) (x := p0) C dX1_withDigit_12 rfl ?_
      refine g_if_ne (pc := 13) (tgt := 18) (x := p0) hf C dX1_withDigit_13 (by decide) (fun hf => ?_) (fun hf => ?_)
      · refine g_iload_n (pc := 18) (x := p0) C dX1_withDigit_18 rfl ?_
        refine g_iconst (pc := 19) (v := (-1)) C dX1_withDigit_19 (by decide) ?_
        refine g_icmp_ne (pc := 20) (tgt := 30) (x := p0) (y := (-1)) hf C dX1_withDigit_20 (by decide) (fun hf => ?_) (fun hf => ?_)
        · refine g_iload_n (pc := 30) (x := p0) C dX1_withDigit_30 rfl ?_
          refine g_bipush (pc := 31) (v := 10) C dX1_withDigit_31 (by decide) ?_
          refine g_imul (pc := 33) (x := p0) (y := 10) C dX1_withDigit_33 ?_
          refine g_iload_n (pc := 34) (x := p1) C dX1_withDigit_34 rfl ?_
          refine g_iadd (pc := 35) (x := (p0 * 10)) (y := p1) C dX1_withDigit_35 ?_
          refine g_bipush (pc := 36) (v := 48) C dX1_withDigit_36 (by decide) ?_
          refine g_isub (pc := 38) (x := ((p0 * 10) + p1)) (y := 48) C dX1_withDigit_38 ?_
          obtain rfl := Option.some.inj hf
          exact g_iret (v := (((p0 * 10) + p1) - 48)) C E dX1_withDigit_39 (Nat.le_of_ble_eq_true rfl) (Nat.le_of_ble_eq_true rfl) ⟨rfl, rfl⟩
        · refine g_iload_n (pc := 23) (x := p1) C dX1_withDigit_23 rfl ?_
          refine g_bipush (pc := 24) (v := 48) C dX1_withDigit_24 (by decide) ?_
          refine g_isub (pc := 26) (x := p1) (y := 48) C dX1_withDigit_26 ?_
          refine g_goto (pc := 27) (tgt := 39) C dX1_withDigit_27 (by decide) ?_
          obtain rfl := Option.some.inj hf
          exact g_iret (v := (p1 - 48)) C E dX1_withDigit_39 (Nat.le_of_ble_eq_true rfl) (Nat.le_of_ble_eq_true rfl) ⟨rfl, rfl⟩
      · refine g_iconst (pc := 16) (v := (-1)) C dX1_withDigit_16 (by decide) ?_
        obtain rfl := Option.some.inj hf
        exact g_iret (v := (-1)) C E dX1_withDigit_17 (Nat.le_of_ble_eq_true rfl) (Nat.le_of_ble_eq_true rfl) ⟨rfl, rfl⟩
set_option maxRecDepth 100000 in
set_option maxHeartbeats 4000000 in
theorem cX1_withDigit_ (l : Launch) (htr : l.stackTraces = false) (D : va_G) (N : Nat) (p0 : Int32) (p1 : Int32) (r : Int32) (hf : fX1_withDigit N p0 p1 = some r) : Tc l D yX1_withDigit wsX1_withDigit rmX1_withDigit [.int p0, .int p1] [] (fun rv w => rv = some (.int r) ∧ w = []) (fun _ _ => False) 0 0 := Tc_of htr (by decide +kernel) rfl (Nat.le_of_ble_eq_true rfl) (fun k C E hl hD => by subst hD; exact wkX1_withDigit C N p0 p1 r hf E)
abbrev rmX1_canBegin : Room := { frames := 1, cells := 0, slots := 0, locals := 14 }
theorem mkX1_canBegin_61 : Cond.methodLink RX1 61 Lib.Math.min.name ∈ wsX1_canBegin ∧ Cond.static Lib.Math.min.name ∈ wsX1_canBegin ∧ Cond.initialized "java/lang/Math" ∈ wsX1_canBegin ∧ Cond.code Lib.Math.min.name Lib.Math.min.code 2 (some .int) ∈ wsX1_canBegin := by decide +kernel
theorem hsX1_canBegin : yX1_canBegin.cls ≠ "java/lang/invoke/MethodHandle" ∧ yX1_canBegin.cls ≠ "java/lang/invoke/VarHandle" ∧ (parseMethodDescriptor yX1_canBegin.desc).map (fun d => d.parameters.length) = some 3 := by decide +kernel
def fX1_canBegin (N : Nat) (p0 : Int32) (p1 : Int32) (p2 : Int32) : Option (Bool) := (if p0 < (jmin p1 1) then some false else (if p2 < p0 then some false else some true))
set_option maxRecDepth 100000 in
set_option maxHeartbeats 4000000 in
theorem wkX1_canBegin {k : Kt} (C : gC k cX1_canBegin 3 RX1 wsX1_canBegin rmX1_canBegin "canBegin") (N : Nat) (p0 : Int32) (p1 : Int32) (p2 : Int32) (r : Bool) (hf : fX1_canBegin N p0 p1 p2 = some r) (E : gE k [] (fun rv w => rv = some (.int (b2i r)) ∧ w = []) (fun _ _ => False) 0 0 (some .boolean) []) : gG k [] [(0, .int p0), (1, .int p1), (2, .int p2)] 0 0 0 [] := by
  unfold fX1_canBegin at hf
  refine g_iload_n (pc := 0) (x := p0) C dX1_canBegin_0 rfl ?_
  refine g_iload_n (pc := 1) (x := p1) C dX1_canBegin_1 rfl ?_
  refine g_iconst (pc := 2) (v := 1) C dX1_canBegin_2 (by decide) ?_
  refine g_min (pc := 3) (x := p1) (y := 1) C mkX1_canBegin_61 (Nat.le_of_ble_eq_true rfl) (Nat.le_of_ble_eq_true rfl) (Nat.le_of_ble_eq_true rfl) (Nat.le_of_ble_eq_true rfl) dX1_canBegin_3 ?_
  refine g_icmp_lt (pc := 6) (tgt := 18) (x := p0) (y := (jmin p1 1)) hf C dX1_canBegin_6 (by decide) (fun hf => ?_) (fun hf => ?_)
  · refine g_iconst (pc := 18) (v := 0) C dX1_canBegin_18 (by decide) ?_
    obtain rfl := Option.some.inj hf
    exact g_bret (b := false) C E dX1_canBegin_19 (Nat.le_of_ble_eq_true rfl) (Nat.le_of_ble_eq_true rfl) ⟨rfl, rfl⟩
  · refine g_iload_n (pc := 9) (x := p0) C dX1_canBegin_9 rfl ?_
    refine g_iload_n (pc := 10) (x := p2) C dX1_canBegin_10 rfl ?_
    refine g_icmp_gt (pc := 11) (tgt := 18) (x := p0) (y := p2) hf C dX1_canBegin_11 (by decide) (fun hf => ?_) (fun hf => ?_)
    · refine g_iconst (pc := 18) (v := 0) C dX1_canBegin_18 (by decide) ?_
      obtain rfl := Option.some.inj hf
      exact g_bret (b := false) C E dX1_canBegin_19 (Nat.le_of_ble_eq_true rfl) (Nat.le_of_ble_eq_true rfl) ⟨rfl, rfl⟩
    · refine g_iconst (pc := 14) (v := 1) C dX1_canBegin_14 (by decide) ?_
      refine g_goto (pc := 15) (tgt := 19) C dX1_canBegin_15 (by decide) ?_
      obtain rfl := Option.some.inj hf
      exact g_bret (b := true) C E dX1_canBegin_19 (Nat.le_of_ble_eq_true rfl) (Nat.le_of_ble_eq_true rfl) ⟨rfl, rfl⟩
set_option maxRecDepth 100000 in
set_option maxHeartbeats 4000000 in
theorem cX1_canBegin_ (l : Launch) (htr : l.stackTraces = false) (D : va_G) (N : Nat) (p0 : Int32) (p1 : Int32) (p2 : Int32) (r : Bool) (hf : fX1_canBegin N p0 p1 p2 = some r) : Tc l D yX1_canBegin wsX1_canBegin rmX1_canBegin [.int p0, .int p1, .int p2] [] (fun rv w => rv = some (.int (b2i r)) ∧ w = []) (fun _ _ => False) 0 0 := Tc_of htr (by decide +kernel) rfl (Nat.le_of_ble_eq_true rfl) (fun k C E hl hD => by subst hD; exact wkX1_canBegin C N p0 p1 p2 r hf E)
abbrev rmX1_readNumber : Room := { frames := 2, cells := 0, slots := 0, locals := 36 }
theorem inX1_readNumber_X1 : ∀ w ∈ wsX10, w ∈ wsX1_readNumber := by decide +kernel
theorem lkX1_readNumber_19 : Cond.fieldLink RX1 19 "GaugeBlocks$OrderText" (TX1 2).2.1 (TX1 2).2.2.1 ∈ wsX1_readNumber := by decide +kernel
theorem lkX1_readNumber_15 : Cond.fieldLink RX1 15 "GaugeBlocks$OrderText" (TX1 1).2.1 (TX1 1).2.2.1 ∈ wsX1_readNumber := by decide +kernel
theorem lkX1_readNumber_9 : Cond.fieldLink RX1 9 "GaugeBlocks$OrderText" (TX1 0).2.1 (TX1 0).2.2.1 ∈ wsX1_readNumber := by decide +kernel
theorem hdX1_readNumber : yX1_readNumber.cls = RX1 ∧ yX1_readNumber.cls ≠ "java/lang/invoke/MethodHandle" ∧ yX1_readNumber.cls ≠ "java/lang/invoke/VarHandle" ∧ (parseMethodDescriptor yX1_readNumber.desc).map (fun d => d.parameters.length) = some 2 := by decide +kernel
def lX1_readNumber_2 (N : Nat) (l1 : Int32) (l2 : Int32) : Nat → VT → Int32 → Option ((VT × Int32) ⊕ (VT × Int32))
  | 0, _, _ => none
  | n + 1, tx, l3 => (if (tL tx) ≤ (tA tx) then some (.inl (tx, l3)) else ck (tA tx) 60 (((fX1_withDigit N l3 ((tC tx) (Int32.toNatClampNeg (tA tx)))).bind fun r1 => ((fX1_canBegin N r1 l1 l2).bind fun r2 => (if r2 = true then (lX1_readNumber_2 N l1 l2 n ((tC tx), (tL tx), ((tA tx) + 1), (tR tx), (tF tx), (tE tx)) r1) else some (.inr (tx, l3)))))))
set_option maxRecDepth 100000 in
set_option maxHeartbeats 4000000 in
theorem wlX1_readNumber_2 {k : Kt} (C : gC k cX1_readNumber 5 RX1 wsX1_readNumber rmX1_readNumber "readNumber") (N : Nat) (aT : Nat → Nat) (l1 : Int32) (l2 : Int32) : ∀ (n : Nat) (tx : VT) (l3 : Int32) (u : (VT × Int32) ⊕ (VT × Int32)) (hf : lX1_readNumber_2 N l1 l2 n tx l3 = some u) (hk0 : ∀ t : (VT × Int32), u = (.inl t) → gG k (wT (kD k) aT t.1) [(1, .int l1), (3, .int t.2)] 0 0 57 []) (hk1 : ∀ t : (VT × Int32), u = (.inr t) → gG k (wT (kD k) aT t.1) [(1, .int l1), (3, .int t.2)] 0 0 38 []), gG k (wT (kD k) aT tx) [(0, .ref (aT 0)), (1, .int l1), (2, .int l2), (3, .int l3)] 0 0 2 [] := by
  intro n
  induction n with
  | zero => intro tx l3 u hf hk0 hk1; rw [lX1_readNumber_2] at hf; cases hf
  | succ n ih =>
    intro tx l3 u hf hk0 hk1
    rw [lX1_readNumber_2] at hf
    refine g_aload_n (pc := 2) (x := (aT 0)) C dX1_readNumber_2 rfl ?_
    refine g_getf (pc := 3) C 0 rfl rfl inX1_readNumber_X1 2 (by decide) lkX1_readNumber_19 rfl rfl dX1_readNumber_3 ?_
    refine g_aload_n (pc := 6) (x := (aT 0)) C dX1_readNumber_6 rfl ?_
    refine g_getf (pc := 7) C 0 rfl rfl inX1_readNumber_X1 1 (by decide) lkX1_readNumber_15 rfl rfl dX1_readNumber_7 ?_
    refine g_icmp_ge (pc := 10) (tgt := 57) (x := (tA tx)) (y := (tL tx)) hf C dX1_readNumber_10 (by decide) (fun hf => ?_) (fun hf => ?_)
    · obtain rfl := Option.some.inj hf
      refine g_lv [1, 3] (lv' := [(1, .int l1), (3, .int l3)]) rfl ?_
      exact hk0 _ rfl
    · refine g_iload_n (pc := 13) (x := l3) C dX1_readNumber_13 rfl ?_
      refine g_aload_n (pc := 14) (x := (aT 0)) C dX1_readNumber_14 rfl ?_
      refine g_getf (pc := 15) C 0 rfl rfl inX1_readNumber_X1 0 (by decide) lkX1_readNumber_9 rfl rfl dX1_readNumber_15 ?_
      refine g_aload_n (pc := 18) (x := (aT 0)) C dX1_readNumber_18 rfl ?_
      refine g_getf (pc := 19) C 0 rfl rfl inX1_readNumber_X1 2 (by decide) lkX1_readNumber_19 rfl rfl dX1_readNumber_19 ?_
      refine g_iald (pc := 22) (i := (tA tx)) hf C 1 rfl dX1_readNumber_22 (fun hf => ?_)
      refine g_callR (pc' := 26) (cs' := 0) (sl' := 0) hf C (fun u => some (.int u)) (fun u hu => gr_S (rest := []) C (cX1_withDigit_ (kL k) C.tr (kD k) N l3 ((tC tx) (Int32.toNatClampNeg (tA tx))) u hu) (fun ht => va_cwS 2 ht gX1_readNumber_X1_withDigit rfl rfl rfl hsX1_withDigit ⟨(Nat.le_of_ble_eq_true rfl), (Nat.le_of_ble_eq_true rfl)⟩) [] rfl (by decide) rfl rfl (Nat.le_of_ble_eq_true rfl) dX1_readNumber_23 ⟨(Nat.le_of_ble_eq_true rfl), (Nat.le_of_ble_eq_true rfl)⟩) [] rfl rfl rfl rfl (fun u => [.int u]) (fun u => rfl) (fun r1 hf => ?_)
      refine g_istore (pc := 26) (lv' := [(4, .int r1), (0, .ref (aT 0)), (1, .int l1), (2, .int l2), (3, .int l3)]) C dX1_readNumber_26 (by decide) rfl ?_
      refine g_iload (pc := 28) (x := r1) C dX1_readNumber_28 rfl ?_
      refine g_iload_n (pc := 30) (x := l1) C dX1_readNumber_30 rfl ?_
      refine g_iload_n (pc := 31) (x := l2) C dX1_readNumber_31 rfl ?_
      refine g_callR (pc' := 35) (cs' := 0) (sl' := 0) hf C (fun u => some (.int (b2i u))) (fun u hu => gr_S (rest := []) C (cX1_canBegin_ (kL k) C.tr (kD k) N r1 l1 l2 u hu) (fun ht => va_cwS 3 ht gX1_readNumber_X1_canBegin rfl rfl rfl hsX1_canBegin ⟨(Nat.le_of_ble_eq_true rfl), (Nat.le_of_ble_eq_true rfl)⟩) [] rfl (by decide) rfl rfl (Nat.le_of_ble_eq_true rfl) dX1_readNumber_32 ⟨(Nat.le_of_ble_eq_true rfl), (Nat.le_of_ble_eq_true rfl)⟩) [] rfl rfl rfl rfl (fun u => [.int (b2i u)]) (fun u => rfl) (fun r2 hf => ?_)
      refine g_ifB_ne (pc := 35) (tgt := 41) (b := r2) hf C dX1_readNumber_35 (by decide) (fun hf => ?_) (fun hf => ?_)
      · refine g_iload (pc := 41) (x := r1) C dX1_readNumber_41 rfl ?_
        refine g_istore_n (pc := 43) (lv' := [(3, .int r1), (4, .int r1), (0, .ref (aT 0)), (1, .int l1), (2, .int l2)]) C dX1_readNumber_43 (by decide) rfl ?_
        refine g_aload_n (pc := 44) (x := (aT 0)) C dX1_readNumber_44 rfl ?_
        refine g_dup (pc := 45) C dX1_readNumber_45 rfl ?_
        refine g_getf (pc := 46) C 0 rfl rfl inX1_readNumber_X1 2 (by decide) lkX1_readNumber_19 rfl rfl dX1_readNumber_46 ?_
        refine g_iconst (pc := 49) (v := 1) C dX1_readNumber_49 (by decide) ?_
        refine g_iadd (pc := 50) (x := (tA tx)) (y := 1) C dX1_readNumber_50 ?_
        refine g_putf (pc := 51) C 0 rfl rfl inX1_readNumber_X1 tyX1 tyX1_ok nmX1 2 (by decide) lkX1_readNumber_19 rfl rfl pfX1_2 rfl rfl (Nat.le_of_ble_eq_true rfl) dX1_readNumber_51 (ws' := (wT (kD k) aT ((tC tx), (tL tx), ((tA tx) + 1), (tR tx), (tF tx), (tE tx)))) rfl ?_
        refine g_goto (pc := 54) (tgt := 2) C dX1_readNumber_54 (by decide) ?_
        refine g_lv [2, 3, 4, 0] (lv' := [(0, .ref (aT 0)), (1, .int l1), (2, .int l2), (3, .int r1)]) rfl ?_
        exact ih ((tC tx), (tL tx), ((tA tx) + 1), (tR tx), (tF tx), (tE tx)) r1 u hf hk0 hk1
      · obtain rfl := Option.some.inj hf
        refine g_lv [2, 4] (lv' := [(1, .int l1), (3, .int l3)]) rfl ?_
        exact hk1 _ rfl
def fX1_readNumber (N : Nat) (tx : VT) (p1 : Int32) (p2 : Int32) : Option (VT × Int32) := ((lX1_readNumber_2 N p1 p2 N tx (-1)).bind fun r1 => Sum.elim (fun (t1 : (VT × Int32)) => (if t1.2 < p1 then some (t1.1, (-1)) else some (t1.1, t1.2))) (fun (y0 : (VT × Int32)) => (fun (t1 : (VT × Int32)) => (if t1.2 < p1 then some (t1.1, (-1)) else some (t1.1, t1.2))) y0) r1)
set_option maxRecDepth 100000 in
set_option maxHeartbeats 4000000 in
theorem wkX1_readNumber {k : Kt} (C : gC k cX1_readNumber 5 RX1 wsX1_readNumber rmX1_readNumber "readNumber") (N : Nat) (aT : Nat → Nat) (tx : VT) (p1 : Int32) (p2 : Int32) (r : VT × Int32) (hf : fX1_readNumber N tx p1 p2 = some r) (E : gE k (wT (kD k) aT tx) (fun rv w => rv = some (.int r.2) ∧ w = (wT (kD k) aT r.1)) (fun _ _ => False) 0 0 (some .int) []) : gG k (wT (kD k) aT tx) [(0, .ref (aT 0)), (1, .int p1), (2, .int p2)] 0 0 0 [] := by
  unfold fX1_readNumber at hf
  refine g_iconst (pc := 0) (v := (-1)) C dX1_readNumber_0 (by decide) ?_
  refine g_istore_n (pc := 1) (lv' := [(3, .int (-1)), (0, .ref (aT 0)), (1, .int p1), (2, .int p2)]) C dX1_readNumber_1 (by decide) rfl ?_
  obtain ⟨r1, h1, hf⟩ := bd_e hf
  refine g_lv [1, 2, 3, 0] (lv' := [(0, .ref (aT 0)), (1, .int p1), (2, .int p2), (3, .int (-1))]) rfl ?_
  refine wlX1_readNumber_2 C N aT p1 p2 N tx (-1) r1 h1 (fun t1 e => ?_) (fun t1 e => ?_)
  · subst e
    refine g_iload_n (pc := 57) (x := t1.2) C dX1_readNumber_57 rfl ?_
    refine g_iload_n (pc := 58) (x := p1) C dX1_readNumber_58 rfl ?_
    refine g_icmp_lt (pc := 59) (tgt := 66) (x := t1.2) (y := p1) hf C dX1_readNumber_59 (by decide) (fun hf => ?_) (fun hf => ?_)
    · refine g_iconst (pc := 66) (v := (-1)) C dX1_readNumber_66 (by decide) ?_
      obtain rfl := Option.some.inj hf
      exact g_iret (v := (-1)) C E dX1_readNumber_67 (Nat.le_of_ble_eq_true rfl) (Nat.le_of_ble_eq_true rfl) ⟨rfl, rfl⟩
    · refine g_iload_n (pc := 62) (x := t1.2) C dX1_readNumber_62 rfl ?_
      refine g_goto (pc := 63) (tgt := 67) C dX1_readNumber_63 (by decide) ?_
      obtain rfl := Option.some.inj hf
      exact g_iret (v := t1.2) C E dX1_readNumber_67 (Nat.le_of_ble_eq_true rfl) (Nat.le_of_ble_eq_true rfl) ⟨rfl, rfl⟩
  · subst e
    refine g_goto (pc := 38) (tgt := 57) C dX1_readNumber_38 (by decide) ?_
    refine g_iload_n (pc := 57) (x := t1.2) C dX1_readNumber_57 rfl ?_
    refine g_iload_n (pc := 58) (x := p1) C dX1_readNumber_58 rfl ?_
    refine g_icmp_lt (pc := 59) (tgt := 66) (x := t1.2) (y := p1) hf C dX1_readNumber_59 (by decide) (fun hf => ?_) (fun hf => ?_)
    · refine g_iconst (pc := 66) (v := (-1)) C dX1_readNumber_66 (by decide) ?_
      obtain rfl := Option.some.inj hf
      exact g_iret (v := (-1)) C E dX1_readNumber_67 (Nat.le_of_ble_eq_true rfl) (Nat.le_of_ble_eq_true rfl) ⟨rfl, rfl⟩
    · refine g_iload_n (pc := 62) (x := t1.2) C dX1_readNumber_62 rfl ?_
      refine g_goto (pc := 63) (tgt := 67) C dX1_readNumber_63 (by decide) ?_
      obtain rfl := Option.some.inj hf
      exact g_iret (v := t1.2) C E dX1_readNumber_67 (Nat.le_of_ble_eq_true rfl) (Nat.le_of_ble_eq_true rfl) ⟨rfl, rfl⟩
set_option maxRecDepth 100000 in
set_option maxHeartbeats 4000000 in
theorem cX1_readNumber_ (l : Launch) (htr : l.stackTraces = false) (D : va_G) (N : Nat) (aT : Nat → Nat) (tx : VT) (p1 : Int32) (p2 : Int32) (r : VT × Int32) (hf : fX1_readNumber N tx p1 p2 = some r) : Tc l D yX1_readNumber wsX1_readNumber rmX1_readNumber [.ref (aT 0), .int p1, .int p2] (wT D aT tx) (fun rv w => rv = some (.int r.2) ∧ w = (wT D aT r.1)) (fun _ _ => False) 0 0 := Tc_of htr (by decide +kernel) rfl (Nat.le_of_ble_eq_true rfl) (fun k C E hl hD => by subst hD; exact wkX1_readNumber C N aT tx p1 p2 r hf E)
abbrev rmX1_readFirst : Room := { frames := 3, cells := 0, slots := 0, locals := 60 }
theorem inX1_readFirst_X1 : ∀ w ∈ wsX10, w ∈ wsX1_readFirst := by decide +kernel
theorem lkX1_readFirst_48 : Cond.fieldLink RX1 48 "GaugeBlocks$OrderText" (TX1 4).2.1 (TX1 4).2.2.1 ∈ wsX1_readFirst := by decide +kernel
theorem hdX1_readFirst : yX1_readFirst.cls = RX1 ∧ yX1_readFirst.cls ≠ "java/lang/invoke/MethodHandle" ∧ yX1_readFirst.cls ≠ "java/lang/invoke/VarHandle" ∧ (parseMethodDescriptor yX1_readFirst.desc).map (fun d => d.parameters.length) = some 2 := by decide +kernel
def fX1_readFirst (N : Nat) (tx : VT) (p1 : Int32) (p2 : Int32) : Option (VT × Bool) := ((fX1_readNumber N tx p1 p2).bind fun r1 => (if r1.2 = ((-1) : Int32) then some (((tC r1.1), (tL r1.1), (tA r1.1), (tR r1.1), r1.2, (tE r1.1)), false) else some (((tC r1.1), (tL r1.1), (tA r1.1), (tR r1.1), r1.2, (tE r1.1)), true)))
set_option maxRecDepth 100000 in
set_option maxHeartbeats 4000000 in
theorem wkX1_readFirst {k : Kt} (C : gC k cX1_readFirst 3 RX1 wsX1_readFirst rmX1_readFirst "readFirst") (N : Nat) (aT : Nat → Nat) (tx : VT) (p1 : Int32) (p2 : Int32) (r : VT × Bool) (hf : fX1_readFirst N tx p1 p2 = some r) (E : gE k (wT (kD k) aT tx) (fun rv w => rv = some (.int (b2i r.2)) ∧ w = (wT (kD k) aT r.1)) (fun _ _ => False) 0 0 (some .boolean) []) : gG k (wT (kD k) aT tx) [(0, .ref (aT 0)), (1, .int p1), (2, .int p2)] 0 0 0 [] := by
  unfold fX1_readFirst at hf
  refine g_aload_n (pc := 0) (x := (aT 0)) C dX1_readFirst_0 rfl ?_
  refine g_aload_n (pc := 1) (x := (aT 0)) C dX1_readFirst_1 rfl ?_
  refine g_iload_n (pc := 2) (x := p1) C dX1_readFirst_2 rfl ?_
  refine g_iload_n (pc := 3) (x := p2) C dX1_readFirst_3 rfl ?_
  refine g_callW (wr := []) (pc' := 7) (cs' := 0) (sl' := 0) hf C (fun u => some (.int u.2)) (fun u => (wT (kD k) aT u.1)) (fun u hu => gr_V (rest := [.ref (aT 0)]) C (cX1_readNumber_ (kL k) C.tr (kD k) N aT tx p1 p2 u hu) (fun ht => cwV 2 ht gX1_readFirst_X1_readNumber rfl rfl rfl hdX1_readNumber ⟨(Nat.le_of_ble_eq_true rfl), (Nat.le_of_ble_eq_true rfl)⟩) 0 rfl rfl [0, 1] rfl (by decide) rfl rfl (Nat.le_of_ble_eq_true rfl) dX1_readFirst_4 ⟨(Nat.le_of_ble_eq_true rfl), (Nat.le_of_ble_eq_true rfl)⟩) [0, 1] [] rfl rfl (by decide) (by decide) [0, 1] (by decide) (ws' := fun u => (wT (kD k) aT u.1)) (fun u => rfl) rfl rfl rfl (fun u => [.int u.2, .ref (aT 0)]) (fun u => rfl) (fun r1 hf => ?_)
  refine g_putf (pc := 7) C 0 rfl rfl inX1_readFirst_X1 tyX1 tyX1_ok nmX1 4 (by decide) lkX1_readFirst_48 rfl rfl pfX1_4 rfl rfl (Nat.le_of_ble_eq_true rfl) dX1_readFirst_7 (ws' := (wT (kD k) aT ((tC r1.1), (tL r1.1), (tA r1.1), (tR r1.1), r1.2, (tE r1.1)))) rfl ?_
  refine g_aload_n (pc := 10) (x := (aT 0)) C dX1_readFirst_10 rfl ?_
  refine g_getf (pc := 11) C 0 rfl rfl inX1_readFirst_X1 4 (by decide) lkX1_readFirst_48 rfl rfl dX1_readFirst_11 ?_
  refine g_iconst (pc := 14) (v := (-1)) C dX1_readFirst_14 (by decide) ?_
  refine g_icmp_eq (pc := 15) (tgt := 22) (x := r1.2) (y := (-1)) hf C dX1_readFirst_15 (by decide) (fun hf => ?_) (fun hf => ?_)
  · refine g_iconst (pc := 22) (v := 0) C dX1_readFirst_22 (by decide) ?_
    obtain rfl := Option.some.inj hf
    exact g_bret (b := false) C E dX1_readFirst_23 (Nat.le_of_ble_eq_true rfl) (Nat.le_of_ble_eq_true rfl) ⟨rfl, rfl⟩
  · refine g_iconst (pc := 18) (v := 1) C dX1_readFirst_18 (by decide) ?_
    refine g_goto (pc := 19) (tgt := 23) C dX1_readFirst_19 (by decide) ?_
    obtain rfl := Option.some.inj hf
    exact g_bret (b := true) C E dX1_readFirst_23 (Nat.le_of_ble_eq_true rfl) (Nat.le_of_ble_eq_true rfl) ⟨rfl, rfl⟩
set_option maxRecDepth 100000 in
set_option maxHeartbeats 4000000 in
theorem cX1_readFirst_ (l : Launch) (htr : l.stackTraces = false) (D : va_G) (N : Nat) (aT : Nat → Nat) (tx : VT) (p1 : Int32) (p2 : Int32) (r : VT × Bool) (hf : fX1_readFirst N tx p1 p2 = some r) : Tc l D yX1_readFirst wsX1_readFirst rmX1_readFirst [.ref (aT 0), .int p1, .int p2] (wT D aT tx) (fun rv w => rv = some (.int (b2i r.2)) ∧ w = (wT D aT r.1)) (fun _ _ => False) 0 0 := Tc_of htr (by decide +kernel) rfl (Nat.le_of_ble_eq_true rfl) (fun k C E hl hD => by subst hD; exact wkX1_readFirst C N aT tx p1 p2 r hf E)
abbrev rmX1_readSecond : Room := { frames := 3, cells := 0, slots := 0, locals := 60 }
theorem inX1_readSecond_X1 : ∀ w ∈ wsX10, w ∈ wsX1_readSecond := by decide +kernel
theorem lkX1_readSecond_51 : Cond.fieldLink RX1 51 "GaugeBlocks$OrderText" (TX1 5).2.1 (TX1 5).2.2.1 ∈ wsX1_readSecond := by decide +kernel
theorem hdX1_readSecond : yX1_readSecond.cls = RX1 ∧ yX1_readSecond.cls ≠ "java/lang/invoke/MethodHandle" ∧ yX1_readSecond.cls ≠ "java/lang/invoke/VarHandle" ∧ (parseMethodDescriptor yX1_readSecond.desc).map (fun d => d.parameters.length) = some 2 := by decide +kernel
def fX1_readSecond (N : Nat) (tx : VT) (p1 : Int32) (p2 : Int32) : Option (VT × Bool) := ((fX1_readNumber N tx p1 p2).bind fun r1 => (if r1.2 = ((-1) : Int32) then some (((tC r1.1), (tL r1.1), (tA r1.1), (tR r1.1), (tF r1.1), r1.2), false) else some (((tC r1.1), (tL r1.1), (tA r1.1), (tR r1.1), (tF r1.1), r1.2), true)))
set_option maxRecDepth 100000 in
set_option maxHeartbeats 4000000 in
theorem wkX1_readSecond {k : Kt} (C : gC k cX1_readSecond 3 RX1 wsX1_readSecond rmX1_readSecond "readSecond") (N : Nat) (aT : Nat → Nat) (tx : VT) (p1 : Int32) (p2 : Int32) (r : VT × Bool) (hf : fX1_readSecond N tx p1 p2 = some r) (E : gE k (wT (kD k) aT tx) (fun rv w => rv = some (.int (b2i r.2)) ∧ w = (wT (kD k) aT r.1)) (fun _ _ => False) 0 0 (some .boolean) []) : gG k (wT (kD k) aT tx) [(0, .ref (aT 0)), (1, .int p1), (2, .int p2)] 0 0 0 [] := by
  unfold fX1_readSecond at hf
  refine g_aload_n (pc := 0) (x := (aT 0)) C dX1_readSecond_0 rfl ?_
  refine g_aload_n (pc := 1) (x := (aT 0)) C dX1_readSecond_1 rfl ?_
  refine g_iload_n (pc := 2) (x := p1) C dX1_readSecond_2 rfl ?_
  refine g_iload_n (pc := 3) (x := p2) C dX1_readSecond_3 rfl ?_
  refine g_callW (wr := []) (pc' := 7) (cs' := 0) (sl' := 0) hf C (fun u => some (.int u.2)) (fun u => (wT (kD k) aT u.1)) (fun u hu => gr_V (rest := [.ref (aT 0)]) C (cX1_readNumber_ (kL k) C.tr (kD k) N aT tx p1 p2 u hu) (fun ht => cwV 2 ht gX1_readSecond_X1_readNumber rfl rfl rfl hdX1_readNumber ⟨(Nat.le_of_ble_eq_true rfl), (Nat.le_of_ble_eq_true rfl)⟩) 0 rfl rfl [0, 1] rfl (by decide) rfl rfl (Nat.le_of_ble_eq_true rfl) dX1_readSecond_4 ⟨(Nat.le_of_ble_eq_true rfl), (Nat.le_of_ble_eq_true rfl)⟩) [0, 1] [] rfl rfl (by decide) (by decide) [0, 1] (by decide) (ws' := fun u => (wT (kD k) aT u.1)) (fun u => rfl) rfl rfl rfl (fun u => [.int u.2, .ref (aT 0)]) (fun u => rfl) (fun r1 hf => ?_)
  refine g_putf (pc := 7) C 0 rfl rfl inX1_readSecond_X1 tyX1 tyX1_ok nmX1 5 (by decide) lkX1_readSecond_51 rfl rfl pfX1_5 rfl rfl (Nat.le_of_ble_eq_true rfl) dX1_readSecond_7 (ws' := (wT (kD k) aT ((tC r1.1), (tL r1.1), (tA r1.1), (tR r1.1), (tF r1.1), r1.2))) rfl ?_
  refine g_aload_n (pc := 10) (x := (aT 0)) C dX1_readSecond_10 rfl ?_
  refine g_getf (pc := 11) C 0 rfl rfl inX1_readSecond_X1 5 (by decide) lkX1_readSecond_51 rfl rfl dX1_readSecond_11 ?_
  refine g_iconst (pc := 14) (v := (-1)) C dX1_readSecond_14 (by decide) ?_
  refine g_icmp_eq (pc := 15) (tgt := 22) (x := r1.2) (y := (-1)) hf C dX1_readSecond_15 (by decide) (fun hf => ?_) (fun hf => ?_)
  · refine g_iconst (pc := 22) (v := 0) C dX1_readSecond_22 (by decide) ?_
    obtain rfl := Option.some.inj hf
    exact g_bret (b := false) C E dX1_readSecond_23 (Nat.le_of_ble_eq_true rfl) (Nat.le_of_ble_eq_true rfl) ⟨rfl, rfl⟩
  · refine g_iconst (pc := 18) (v := 1) C dX1_readSecond_18 (by decide) ?_
    refine g_goto (pc := 19) (tgt := 23) C dX1_readSecond_19 (by decide) ?_
    obtain rfl := Option.some.inj hf
    exact g_bret (b := true) C E dX1_readSecond_23 (Nat.le_of_ble_eq_true rfl) (Nat.le_of_ble_eq_true rfl) ⟨rfl, rfl⟩
set_option maxRecDepth 100000 in
set_option maxHeartbeats 4000000 in
theorem cX1_readSecond_ (l : Launch) (htr : l.stackTraces = false) (D : va_G) (N : Nat) (aT : Nat → Nat) (tx : VT) (p1 : Int32) (p2 : Int32) (r : VT × Bool) (hf : fX1_readSecond N tx p1 p2 = some r) : Tc l D yX1_readSecond wsX1_readSecond rmX1_readSecond [.ref (aT 0), .int p1, .int p2] (wT D aT tx) (fun rv w => rv = some (.int (b2i r.2)) ∧ w = (wT D aT r.1)) (fun _ _ => False) 0 0 := Tc_of htr (by decide +kernel) rfl (Nat.le_of_ble_eq_true rfl) (fun k C E hl hD => by subst hD; exact wkX1_readSecond C N aT tx p1 p2 r hf E)
abbrev rmX1_readOrder : Room := { frames := 4, cells := 0, slots := 0, locals := 82 }
theorem inX1_readOrder_X1 : ∀ w ∈ wsX10, w ∈ wsX1_readOrder := by decide +kernel
theorem lkX1_readOrder_9 : Cond.fieldLink RX1 9 "GaugeBlocks$OrderText" (TX1 0).2.1 (TX1 0).2.2.1 ∈ wsX1_readOrder := by decide +kernel
theorem lkX1_readOrder_19 : Cond.fieldLink RX1 19 "GaugeBlocks$OrderText" (TX1 2).2.1 (TX1 2).2.2.1 ∈ wsX1_readOrder := by decide +kernel
theorem lkX1_readOrder_33 : Cond.fieldLink RX1 33 "GaugeBlocks$OrderText" (TX1 3).2.1 (TX1 3).2.2.1 ∈ wsX1_readOrder := by decide +kernel
theorem kcX1_readOrder_36 : Jvm.Cond.constant RX1 36 100000 ∈ wsX1_readOrder := by decide +kernel
theorem hdX1_readOrder : yX1_readOrder.cls = RX1 ∧ yX1_readOrder.cls ≠ "java/lang/invoke/MethodHandle" ∧ yX1_readOrder.cls ≠ "java/lang/invoke/VarHandle" ∧ (parseMethodDescriptor yX1_readOrder.desc).map (fun d => d.parameters.length) = some 0 := by decide +kernel
def fX1_readOrder (N : Nat) (tx : VT) : Option (VT × Bool) := ((fX1_isAtEnd N tx).bind fun r1 => (if r1 = true then some (tx, false) else ck (tA tx) 60 ((if ((tC tx) (Int32.toNatClampNeg (tA tx))) = 98 then ((fX1_readSign N ((tC tx), (tL tx), (tA tx), ((tC tx) (Int32.toNatClampNeg (tA tx))), (tF tx), (tE tx)) 98).bind fun r2 => (if r2.2 = true then ((fX1_readFirst N r2.1 500 100000).bind fun r3 => (if r3.2 = true then some (r3.1, true) else some (r3.1, false))) else some (r2.1, false))) else (if ((tC tx) (Int32.toNatClampNeg (tA tx))) = 104 then ((fX1_readSign N ((tC tx), (tL tx), (tA tx), ((tC tx) (Int32.toNatClampNeg (tA tx))), (tF tx), (tE tx)) 104).bind fun r4 => (if r4.2 = true then ((fX1_readFirst N r4.1 0 19).bind fun r5 => (if r5.2 = true then ((fX1_readSign N r5.1 44).bind fun r6 => (if r6.2 = true then ((fX1_readSecond N r6.1 1 60).bind fun r7 => (if r7.2 = true then some (r7.1, true) else some (r7.1, false))) else some (r6.1, false))) else some (r5.1, false))) else some (r4.1, false))) else (if ((tC tx) (Int32.toNatClampNeg (tA tx))) = 114 then ((fX1_readSign N ((tC tx), (tL tx), (tA tx), ((tC tx) (Int32.toNatClampNeg (tA tx))), (tF tx), (tE tx)) 114).bind fun r8 => (if r8.2 = true then ((fX1_readFirst N r8.1 1 60).bind fun r9 => (if r9.2 = true then some (r9.1, true) else some (r9.1, false))) else some (r8.1, false))) else (if ((tC tx) (Int32.toNatClampNeg (tA tx))) = 117 then ((fX1_readSign N ((tC tx), (tL tx), (tA tx), ((tC tx) (Int32.toNatClampNeg (tA tx))), (tF tx), (tE tx)) 117).bind fun r10 => (if r10.2 = true then ((fX1_readFirst N r10.1 0 2).bind fun r11 => (if r11.2 = true then some (r11.1, true) else some (r11.1, false))) else some (r10.1, false))) else (if ((tC tx) (Int32.toNatClampNeg (tA tx))) = 119 then ((fX1_readSign N ((tC tx), (tL tx), (tA tx), ((tC tx) (Int32.toNatClampNeg (tA tx))), (tF tx), (tE tx)) 119).bind fun r12 => (if r12.2 = true then ((fX1_readFirst N r12.1 0 2).bind fun r13 => (if r13.2 = true then ((fX1_readSign N r13.1 43).bind fun r14 => (if r14.2 = true then ((fX1_readSecond N r14.1 0 19).bind fun r15 => (if r15.2 = true then some (r15.1, true) else some (r15.1, false))) else some (r14.1, false))) else some (r13.1, false))) else some (r12.1, false))) else some (((tC tx), (tL tx), (tA tx), ((tC tx) (Int32.toNatClampNeg (tA tx))), (tF tx), (tE tx)), false)))))))))
set_option maxRecDepth 100000 in
set_option maxHeartbeats 4000000 in
theorem wkX1_readOrder {k : Kt} (C : gC k cX1_readOrder 1 RX1 wsX1_readOrder rmX1_readOrder "readOrder") (N : Nat) (aT : Nat → Nat) (tx : VT) (r : VT × Bool) (hf : fX1_readOrder N tx = some r) (E : gE k (wT (kD k) aT tx) (fun rv w => rv = some (.int (b2i r.2)) ∧ w = (wT (kD k) aT r.1)) (fun _ _ => False) 0 0 (some .boolean) []) : gG k (wT (kD k) aT tx) [(0, .ref (aT 0))] 0 0 0 [] := by
  unfold fX1_readOrder at hf
  refine g_aload_n (pc := 0) (x := (aT 0)) C dX1_readOrder_0 rfl ?_
  refine g_callR (pc' := 4) (cs' := 0) (sl' := 0) hf C (fun u => some (.int (b2i u))) (fun u hu => gr_V (rest := []) C (cX1_isAtEnd_ (kL k) C.tr (kD k) N aT tx u hu) (fun ht => cwV 0 ht gX1_readOrder_X1_isAtEnd rfl rfl rfl hdX1_isAtEnd ⟨(Nat.le_of_ble_eq_true rfl), (Nat.le_of_ble_eq_true rfl)⟩) 0 rfl rfl [0, 1] rfl (by decide) rfl rfl (Nat.le_of_ble_eq_true rfl) dX1_readOrder_1 ⟨(Nat.le_of_ble_eq_true rfl), (Nat.le_of_ble_eq_true rfl)⟩) [0, 1] rfl rfl rfl rfl (fun u => [.int (b2i u)]) (fun u => rfl) (fun r1 hf => ?_)
  refine g_ifB_eq (pc := 4) (tgt := 9) (b := r1) hf C dX1_readOrder_4 (by decide) (fun hf => ?_) (fun hf => ?_)
  · refine g_aload_n (pc := 9) (x := (aT 0)) C dX1_readOrder_9 rfl ?_
    refine g_aload_n (pc := 10) (x := (aT 0)) C dX1_readOrder_10 rfl ?_
    refine g_getf (pc := 11) C 0 rfl rfl inX1_readOrder_X1 0 (by decide) lkX1_readOrder_9 rfl rfl dX1_readOrder_11 ?_
    refine g_aload_n (pc := 14) (x := (aT 0)) C dX1_readOrder_14 rfl ?_
    refine g_getf (pc := 15) C 0 rfl rfl inX1_readOrder_X1 2 (by decide) lkX1_readOrder_19 rfl rfl dX1_readOrder_15 ?_
    refine g_iald (pc := 18) (i := (tA tx)) hf C 1 rfl dX1_readOrder_18 (fun hf => ?_)
    refine g_putf (pc := 19) C 0 rfl rfl inX1_readOrder_X1 tyX1 tyX1_ok nmX1 3 (by decide) lkX1_readOrder_33 rfl rfl pfX1_3 rfl rfl (Nat.le_of_ble_eq_true rfl) dX1_readOrder_19 (ws' := (wT (kD k) aT ((tC tx), (tL tx), (tA tx), ((tC tx) (Int32.toNatClampNeg (tA tx))), (tF tx), (tE tx)))) rfl ?_
    refine g_aload_n (pc := 22) (x := (aT 0)) C dX1_readOrder_22 rfl ?_
    refine g_getf (pc := 23) C 0 rfl rfl inX1_readOrder_X1 3 (by decide) lkX1_readOrder_33 rfl rfl dX1_readOrder_23 ?_
    refine g_split hf (fun e hf => ?_) (fun n26_98 hf => ?_)
    · refine g_lsw (pc := 26) (tgt := 76) (off := 50) C dX1_readOrder_26 e (by decide) (by decide) (by decide) ?_
      refine g_aload_n (pc := 76) (x := (aT 0)) C dX1_readOrder_76 rfl ?_
      refine g_bipush (pc := 77) (v := 98) C dX1_readOrder_77 (by decide) ?_
      refine g_callW (wr := []) (pc' := 82) (cs' := 0) (sl' := 0) hf C (fun u => some (.int (b2i u.2))) (fun u => (wT (kD k) aT u.1)) (fun u hu => gr_V (rest := []) C (cX1_readSign_ (kL k) C.tr (kD k) N aT ((tC tx), (tL tx), (tA tx), ((tC tx) (Int32.toNatClampNeg (tA tx))), (tF tx), (tE tx)) 98 u hu) (fun ht => cwV 1 ht gX1_readOrder_X1_readSign rfl rfl rfl hdX1_readSign ⟨(Nat.le_of_ble_eq_true rfl), (Nat.le_of_ble_eq_true rfl)⟩) 0 rfl rfl [0, 1] rfl (by decide) rfl rfl (Nat.le_of_ble_eq_true rfl) dX1_readOrder_79 ⟨(Nat.le_of_ble_eq_true rfl), (Nat.le_of_ble_eq_true rfl)⟩) [0, 1] [] rfl rfl (by decide) (by decide) [0, 1] (by decide) (ws' := fun u => (wT (kD k) aT u.1)) (fun u => rfl) rfl rfl rfl (fun u => [.int (b2i u.2)]) (fun u => rfl) (fun r2 hf => ?_)
      refine g_ifB_eq (pc := 82) (tgt := 101) (b := r2.2) hf C dX1_readOrder_82 (by decide) (fun hf => ?_) (fun hf => ?_)
      · refine g_iconst (pc := 101) (v := 0) C dX1_readOrder_101 (by decide) ?_
        obtain rfl := Option.some.inj hf
        exact g_bret (b := false) C E dX1_readOrder_102 (Nat.le_of_ble_eq_true rfl) (Nat.le_of_ble_eq_true rfl) ⟨rfl, rfl⟩
      · refine g_aload_n (pc := 85) (x := (aT 0)) C dX1_readOrder_85 rfl ?_
        refine g_sipush (pc := 86) (v := 500) C dX1_readOrder_86 (by decide) ?_
        refine g_ldc (pc := 89) (v := 100000) C dX1_readOrder_89 kcX1_readOrder_36 ?_
        refine g_callW (wr := []) (pc' := 94) (cs' := 0) (sl' := 0) hf C (fun u => some (.int (b2i u.2))) (fun u => (wT (kD k) aT u.1)) (fun u hu => gr_V (rest := []) C (cX1_readFirst_ (kL k) C.tr (kD k) N aT r2.1 500 100000 u hu) (fun ht => cwV 2 ht gX1_readOrder_X1_readFirst rfl rfl rfl hdX1_readFirst ⟨(Nat.le_of_ble_eq_true rfl), (Nat.le_of_ble_eq_true rfl)⟩) 0 rfl rfl [0, 1] rfl (by decide) rfl rfl (Nat.le_of_ble_eq_true rfl) dX1_readOrder_91 ⟨(Nat.le_of_ble_eq_true rfl), (Nat.le_of_ble_eq_true rfl)⟩) [0, 1] [] rfl rfl (by decide) (by decide) [0, 1] (by decide) (ws' := fun u => (wT (kD k) aT u.1)) (fun u => rfl) rfl rfl rfl (fun u => [.int (b2i u.2)]) (fun u => rfl) (fun r3 hf => ?_)
        refine g_ifB_eq (pc := 94) (tgt := 101) (b := r3.2) hf C dX1_readOrder_94 (by decide) (fun hf => ?_) (fun hf => ?_)
        · refine g_iconst (pc := 101) (v := 0) C dX1_readOrder_101 (by decide) ?_
          obtain rfl := Option.some.inj hf
          exact g_bret (b := false) C E dX1_readOrder_102 (Nat.le_of_ble_eq_true rfl) (Nat.le_of_ble_eq_true rfl) ⟨rfl, rfl⟩
        · refine g_iconst (pc := 97) (v := 1) C dX1_readOrder_97 (by decide) ?_
          refine g_goto (pc := 98) (tgt := 102) C dX1_readOrder_98 (by decide) ?_
          obtain rfl := Option.some.inj hf
          exact g_bret (b := true) C E dX1_readOrder_102 (Nat.le_of_ble_eq_true rfl) (Nat.le_of_ble_eq_true rfl) ⟨rfl, rfl⟩
    refine g_split hf (fun e hf => ?_) (fun n26_104 hf => ?_)
    · refine g_lsw (pc := 26) (tgt := 170) (off := 144) C dX1_readOrder_26 e (by decide) (by decide) (by decide) ?_
      refine g_aload_n (pc := 170) (x := (aT 0)) C dX1_readOrder_170 rfl ?_
      refine g_bipush (pc := 171) (v := 104) C dX1_readOrder_171 (by decide) ?_
      refine g_callW (wr := []) (pc' := 176) (cs' := 0) (sl' := 0) hf C (fun u => some (.int (b2i u.2))) (fun u => (wT (kD k) aT u.1)) (fun u hu => gr_V (rest := []) C (cX1_readSign_ (kL k) C.tr (kD k) N aT ((tC tx), (tL tx), (tA tx), ((tC tx) (Int32.toNatClampNeg (tA tx))), (tF tx), (tE tx)) 104 u hu) (fun ht => cwV 1 ht gX1_readOrder_X1_readSign rfl rfl rfl hdX1_readSign ⟨(Nat.le_of_ble_eq_true rfl), (Nat.le_of_ble_eq_true rfl)⟩) 0 rfl rfl [0, 1] rfl (by decide) rfl rfl (Nat.le_of_ble_eq_true rfl) dX1_readOrder_173 ⟨(Nat.le_of_ble_eq_true rfl), (Nat.le_of_ble_eq_true rfl)⟩) [0, 1] [] rfl rfl (by decide) (by decide) [0, 1] (by decide) (ws' := fun u => (wT (kD k) aT u.1)) (fun u => rfl) rfl rfl rfl (fun u => [.int (b2i u.2)]) (fun u => rfl) (fun r4 hf => ?_)
      refine g_ifB_eq (pc := 176) (tgt := 212) (b := r4.2) hf C dX1_readOrder_176 (by decide) (fun hf => ?_) (fun hf => ?_)
      · refine g_iconst (pc := 212) (v := 0) C dX1_readOrder_212 (by decide) ?_
        obtain rfl := Option.some.inj hf
        exact g_bret (b := false) C E dX1_readOrder_213 (Nat.le_of_ble_eq_true rfl) (Nat.le_of_ble_eq_true rfl) ⟨rfl, rfl⟩
      · refine g_aload_n (pc := 179) (x := (aT 0)) C dX1_readOrder_179 rfl ?_
        refine g_iconst (pc := 180) (v := 0) C dX1_readOrder_180 (by decide) ?_
        refine g_bipush (pc := 181) (v := 19) C dX1_readOrder_181 (by decide) ?_
        refine g_callW (wr := []) (pc' := 186) (cs' := 0) (sl' := 0) hf C (fun u => some (.int (b2i u.2))) (fun u => (wT (kD k) aT u.1)) (fun u hu => gr_V (rest := []) C (cX1_readFirst_ (kL k) C.tr (kD k) N aT r4.1 0 19 u hu) (fun ht => cwV 2 ht gX1_readOrder_X1_readFirst rfl rfl rfl hdX1_readFirst ⟨(Nat.le_of_ble_eq_true rfl), (Nat.le_of_ble_eq_true rfl)⟩) 0 rfl rfl [0, 1] rfl (by decide) rfl rfl (Nat.le_of_ble_eq_true rfl) dX1_readOrder_183 ⟨(Nat.le_of_ble_eq_true rfl), (Nat.le_of_ble_eq_true rfl)⟩) [0, 1] [] rfl rfl (by decide) (by decide) [0, 1] (by decide) (ws' := fun u => (wT (kD k) aT u.1)) (fun u => rfl) rfl rfl rfl (fun u => [.int (b2i u.2)]) (fun u => rfl) (fun r5 hf => ?_)
        refine g_ifB_eq (pc := 186) (tgt := 212) (b := r5.2) hf C dX1_readOrder_186 (by decide) (fun hf => ?_) (fun hf => ?_)
        · refine g_iconst (pc := 212) (v := 0) C dX1_readOrder_212 (by decide) ?_
          obtain rfl := Option.some.inj hf
          exact g_bret (b := false) C E dX1_readOrder_213 (Nat.le_of_ble_eq_true rfl) (Nat.le_of_ble_eq_true rfl) ⟨rfl, rfl⟩
        · refine g_aload_n (pc := 189) (x := (aT 0)) C dX1_readOrder_189 rfl ?_
          refine g_bipush (pc := 190) (v := 44) C dX1_readOrder_190 (by decide) ?_
          refine g_callW (wr := []) (pc' := 195) (cs' := 0) (sl' := 0) hf C (fun u => some (.int (b2i u.2))) (fun u => (wT (kD k) aT u.1)) (fun u hu => gr_V (rest := []) C (cX1_readSign_ (kL k) C.tr (kD k) N aT r5.1 44 u hu) (fun ht => cwV 1 ht gX1_readOrder_X1_readSign rfl rfl rfl hdX1_readSign ⟨(Nat.le_of_ble_eq_true rfl), (Nat.le_of_ble_eq_true rfl)⟩) 0 rfl rfl [0, 1] rfl (by decide) rfl rfl (Nat.le_of_ble_eq_true rfl) dX1_readOrder_192 ⟨(Nat.le_of_ble_eq_true rfl), (Nat.le_of_ble_eq_true rfl)⟩) [0, 1] [] rfl rfl (by decide) (by decide) [0, 1] (by decide) (ws' := fun u => (wT (kD k) aT u.1)) (fun u => rfl) rfl rfl rfl (fun u => [.int (b2i u.2)]) (fun u => rfl) (fun r6 hf => ?_)
          refine g_ifB_eq (pc := 195) (tgt := 212) (b := r6.2) hf C dX1_readOrder_195 (by decide) (fun hf => ?_) (fun hf => ?_)
          · refine g_iconst (pc := 212) (v := 0) C dX1_readOrder_212 (by decide) ?_
            obtain rfl := Option.some.inj hf
            exact g_bret (b := false) C E dX1_readOrder_213 (Nat.le_of_ble_eq_true rfl) (Nat.le_of_ble_eq_true rfl) ⟨rfl, rfl⟩
          · refine g_aload_n (pc := 198) (x := (aT 0)) C dX1_readOrder_198 rfl ?_
            refine g_iconst (pc := 199) (v := 1) C dX1_readOrder_199 (by decide) ?_
            refine g_bipush (pc := 200) (v := 60) C dX1_readOrder_200 (by decide) ?_
            refine g_callW (wr := []) (pc' := 205) (cs' := 0) (sl' := 0) hf C (fun u => some (.int (b2i u.2))) (fun u => (wT (kD k) aT u.1)) (fun u hu => gr_V (rest := []) C (cX1_readSecond_ (kL k) C.tr (kD k) N aT r6.1 1 60 u hu) (fun ht => cwV 2 ht gX1_readOrder_X1_readSecond rfl rfl rfl hdX1_readSecond ⟨(Nat.le_of_ble_eq_true rfl), (Nat.le_of_ble_eq_true rfl)⟩) 0 rfl rfl [0, 1] rfl (by decide) rfl rfl (Nat.le_of_ble_eq_true rfl) dX1_readOrder_202 ⟨(Nat.le_of_ble_eq_true rfl), (Nat.le_of_ble_eq_true rfl)⟩) [0, 1] [] rfl rfl (by decide) (by decide) [0, 1] (by decide) (ws' := fun u => (wT (kD k) aT u.1)) (fun u => rfl) rfl rfl rfl (fun u => [.int (b2i u.2)]) (fun u => rfl) (fun r7 hf => ?_)
            refine g_ifB_eq (pc := 205) (tgt := 212) (b := r7.2) hf C dX1_readOrder_205 (by decide) (fun hf => ?_) (fun hf => ?_)
            · refine g_iconst (pc := 212) (v := 0) C dX1_readOrder_212 (by decide) ?_
              obtain rfl := Option.some.inj hf
              exact g_bret (b := false) C E dX1_readOrder_213 (Nat.le_of_ble_eq_true rfl) (Nat.le_of_ble_eq_true rfl) ⟨rfl, rfl⟩
            · refine g_iconst (pc := 208) (v := 1) C dX1_readOrder_208 (by decide) ?_
              refine g_goto (pc := 209) (tgt := 213) C dX1_readOrder_209 (by decide) ?_
              obtain rfl := Option.some.inj hf
              exact g_bret (b := true) C E dX1_readOrder_213 (Nat.le_of_ble_eq_true rfl) (Nat.le_of_ble_eq_true rfl) ⟨rfl, rfl⟩
    refine g_split hf (fun e hf => ?_) (fun n26_114 hf => ?_)
    · refine g_lsw (pc := 26) (tgt := 214) (off := 188) C dX1_readOrder_26 e (by decide) (by decide) (by decide) ?_
      refine g_aload_n (pc := 214) (x := (aT 0)) C dX1_readOrder_214 rfl ?_
      refine g_bipush (pc := 215) (v := 114) C dX1_readOrder_215 (by decide) ?_
      refine g_callW (wr := []) (pc' := 220) (cs' := 0) (sl' := 0) hf C (fun u => some (.int (b2i u.2))) (fun u => (wT (kD k) aT u.1)) (fun u hu => gr_V (rest := []) C (cX1_readSign_ (kL k) C.tr (kD k) N aT ((tC tx), (tL tx), (tA tx), ((tC tx) (Int32.toNatClampNeg (tA tx))), (tF tx), (tE tx)) 114 u hu) (fun ht => cwV 1 ht gX1_readOrder_X1_readSign rfl rfl rfl hdX1_readSign ⟨(Nat.le_of_ble_eq_true rfl), (Nat.le_of_ble_eq_true rfl)⟩) 0 rfl rfl [0, 1] rfl (by decide) rfl rfl (Nat.le_of_ble_eq_true rfl) dX1_readOrder_217 ⟨(Nat.le_of_ble_eq_true rfl), (Nat.le_of_ble_eq_true rfl)⟩) [0, 1] [] rfl rfl (by decide) (by decide) [0, 1] (by decide) (ws' := fun u => (wT (kD k) aT u.1)) (fun u => rfl) rfl rfl rfl (fun u => [.int (b2i u.2)]) (fun u => rfl) (fun r8 hf => ?_)
      refine g_ifB_eq (pc := 220) (tgt := 237) (b := r8.2) hf C dX1_readOrder_220 (by decide) (fun hf => ?_) (fun hf => ?_)
      · refine g_iconst (pc := 237) (v := 0) C dX1_readOrder_237 (by decide) ?_
        obtain rfl := Option.some.inj hf
        exact g_bret (b := false) C E dX1_readOrder_238 (Nat.le_of_ble_eq_true rfl) (Nat.le_of_ble_eq_true rfl) ⟨rfl, rfl⟩
      · refine g_aload_n (pc := 223) (x := (aT 0)) C dX1_readOrder_223 rfl ?_
        refine g_iconst (pc := 224) (v := 1) C dX1_readOrder_224 (by decide) ?_
        refine g_bipush (pc := 225) (v := 60) C dX1_readOrder_225 (by decide) ?_
        refine g_callW (wr := []) (pc' := 230) (cs' := 0) (sl' := 0) hf C (fun u => some (.int (b2i u.2))) (fun u => (wT (kD k) aT u.1)) (fun u hu => gr_V (rest := []) C (cX1_readFirst_ (kL k) C.tr (kD k) N aT r8.1 1 60 u hu) (fun ht => cwV 2 ht gX1_readOrder_X1_readFirst rfl rfl rfl hdX1_readFirst ⟨(Nat.le_of_ble_eq_true rfl), (Nat.le_of_ble_eq_true rfl)⟩) 0 rfl rfl [0, 1] rfl (by decide) rfl rfl (Nat.le_of_ble_eq_true rfl) dX1_readOrder_227 ⟨(Nat.le_of_ble_eq_true rfl), (Nat.le_of_ble_eq_true rfl)⟩) [0, 1] [] rfl rfl (by decide) (by decide) [0, 1] (by decide) (ws' := fun u => (wT (kD k) aT u.1)) (fun u => rfl) rfl rfl rfl (fun u => [.int (b2i u.2)]) (fun u => rfl) (fun r9 hf => ?_)
        refine g_ifB_eq (pc := 230) (tgt := 237) (b := r9.2) hf C dX1_readOrder_230 (by decide) (fun hf => ?_) (fun hf => ?_)
        · refine g_iconst (pc := 237) (v := 0) C dX1_readOrder_237 (by decide) ?_
          obtain rfl := Option.some.inj hf
          exact g_bret (b := false) C E dX1_readOrder_238 (Nat.le_of_ble_eq_true rfl) (Nat.le_of_ble_eq_true rfl) ⟨rfl, rfl⟩
        · refine g_iconst (pc := 233) (v := 1) C dX1_readOrder_233 (by decide) ?_
          refine g_goto (pc := 234) (tgt := 238) C dX1_readOrder_234 (by decide) ?_
          obtain rfl := Option.some.inj hf
          exact g_bret (b := true) C E dX1_readOrder_238 (Nat.le_of_ble_eq_true rfl) (Nat.le_of_ble_eq_true rfl) ⟨rfl, rfl⟩
    refine g_split hf (fun e hf => ?_) (fun n26_117 hf => ?_)
    · refine g_lsw (pc := 26) (tgt := 146) (off := 120) C dX1_readOrder_26 e (by decide) (by decide) (by decide) ?_
      refine g_aload_n (pc := 146) (x := (aT 0)) C dX1_readOrder_146 rfl ?_
      refine g_bipush (pc := 147) (v := 117) C dX1_readOrder_147 (by decide) ?_
      refine g_callW (wr := []) (pc' := 152) (cs' := 0) (sl' := 0) hf C (fun u => some (.int (b2i u.2))) (fun u => (wT (kD k) aT u.1)) (fun u hu => gr_V (rest := []) C (cX1_readSign_ (kL k) C.tr (kD k) N aT ((tC tx), (tL tx), (tA tx), ((tC tx) (Int32.toNatClampNeg (tA tx))), (tF tx), (tE tx)) 117 u hu) (fun ht => cwV 1 ht gX1_readOrder_X1_readSign rfl rfl rfl hdX1_readSign ⟨(Nat.le_of_ble_eq_true rfl), (Nat.le_of_ble_eq_true rfl)⟩) 0 rfl rfl [0, 1] rfl (by decide) rfl rfl (Nat.le_of_ble_eq_true rfl) dX1_readOrder_149 ⟨(Nat.le_of_ble_eq_true rfl), (Nat.le_of_ble_eq_true rfl)⟩) [0, 1] [] rfl rfl (by decide) (by decide) [0, 1] (by decide) (ws' := fun u => (wT (kD k) aT u.1)) (fun u => rfl) rfl rfl rfl (fun u => [.int (b2i u.2)]) (fun u => rfl) (fun r10 hf => ?_)
      refine g_ifB_eq (pc := 152) (tgt := 168) (b := r10.2) hf C dX1_readOrder_152 (by decide) (fun hf => ?_) (fun hf => ?_)
      · refine g_iconst (pc := 168) (v := 0) C dX1_readOrder_168 (by decide) ?_
        obtain rfl := Option.some.inj hf
        exact g_bret (b := false) C E dX1_readOrder_169 (Nat.le_of_ble_eq_true rfl) (Nat.le_of_ble_eq_true rfl) ⟨rfl, rfl⟩
      · refine g_aload_n (pc := 155) (x := (aT 0)) C dX1_readOrder_155 rfl ?_
        refine g_iconst (pc := 156) (v := 0) C dX1_readOrder_156 (by decide) ?_
        refine g_iconst (pc := 157) (v := 2) C dX1_readOrder_157 (by decide) ?_
        refine g_callW (wr := []) (pc' := 161) (cs' := 0) (sl' := 0) hf C (fun u => some (.int (b2i u.2))) (fun u => (wT (kD k) aT u.1)) (fun u hu => gr_V (rest := []) C (cX1_readFirst_ (kL k) C.tr (kD k) N aT r10.1 0 2 u hu) (fun ht => cwV 2 ht gX1_readOrder_X1_readFirst rfl rfl rfl hdX1_readFirst ⟨(Nat.le_of_ble_eq_true rfl), (Nat.le_of_ble_eq_true rfl)⟩) 0 rfl rfl [0, 1] rfl (by decide) rfl rfl (Nat.le_of_ble_eq_true rfl) dX1_readOrder_158 ⟨(Nat.le_of_ble_eq_true rfl), (Nat.le_of_ble_eq_true rfl)⟩) [0, 1] [] rfl rfl (by decide) (by decide) [0, 1] (by decide) (ws' := fun u => (wT (kD k) aT u.1)) (fun u => rfl) rfl rfl rfl (fun u => [.int (b2i u.2)]) (fun u => rfl) (fun r11 hf => ?_)
        refine g_ifB_eq (pc := 161) (tgt := 168) (b := r11.2) hf C dX1_readOrder_161 (by decide) (fun hf => ?_) (fun hf => ?_)
        · refine g_iconst (pc := 168) (v := 0) C dX1_readOrder_168 (by decide) ?_
          obtain rfl := Option.some.inj hf
          exact g_bret (b := false) C E dX1_readOrder_169 (Nat.le_of_ble_eq_true rfl) (Nat.le_of_ble_eq_true rfl) ⟨rfl, rfl⟩
        · refine g_iconst (pc := 164) (v := 1) C dX1_readOrder_164 (by decide) ?_
          refine g_goto (pc := 165) (tgt := 169) C dX1_readOrder_165 (by decide) ?_
          obtain rfl := Option.some.inj hf
          exact g_bret (b := true) C E dX1_readOrder_169 (Nat.le_of_ble_eq_true rfl) (Nat.le_of_ble_eq_true rfl) ⟨rfl, rfl⟩
    refine g_split hf (fun e hf => ?_) (fun n26_119 hf => ?_)
    · refine g_lsw (pc := 26) (tgt := 103) (off := 77) C dX1_readOrder_26 e (by decide) (by decide) (by decide) ?_
      refine g_aload_n (pc := 103) (x := (aT 0)) C dX1_readOrder_103 rfl ?_
      refine g_bipush (pc := 104) (v := 119) C dX1_readOrder_104 (by decide) ?_
      refine g_callW (wr := []) (pc' := 109) (cs' := 0) (sl' := 0) hf C (fun u => some (.int (b2i u.2))) (fun u => (wT (kD k) aT u.1)) (fun u hu => gr_V (rest := []) C (cX1_readSign_ (kL k) C.tr (kD k) N aT ((tC tx), (tL tx), (tA tx), ((tC tx) (Int32.toNatClampNeg (tA tx))), (tF tx), (tE tx)) 119 u hu) (fun ht => cwV 1 ht gX1_readOrder_X1_readSign rfl rfl rfl hdX1_readSign ⟨(Nat.le_of_ble_eq_true rfl), (Nat.le_of_ble_eq_true rfl)⟩) 0 rfl rfl [0, 1] rfl (by decide) rfl rfl (Nat.le_of_ble_eq_true rfl) dX1_readOrder_106 ⟨(Nat.le_of_ble_eq_true rfl), (Nat.le_of_ble_eq_true rfl)⟩) [0, 1] [] rfl rfl (by decide) (by decide) [0, 1] (by decide) (ws' := fun u => (wT (kD k) aT u.1)) (fun u => rfl) rfl rfl rfl (fun u => [.int (b2i u.2)]) (fun u => rfl) (fun r12 hf => ?_)
      refine g_ifB_eq (pc := 109) (tgt := 144) (b := r12.2) hf C dX1_readOrder_109 (by decide) (fun hf => ?_) (fun hf => ?_)
      · refine g_iconst (pc := 144) (v := 0) C dX1_readOrder_144 (by decide) ?_
        obtain rfl := Option.some.inj hf
        exact g_bret (b := false) C E dX1_readOrder_145 (Nat.le_of_ble_eq_true rfl) (Nat.le_of_ble_eq_true rfl) ⟨rfl, rfl⟩
      · refine g_aload_n (pc := 112) (x := (aT 0)) C dX1_readOrder_112 rfl ?_
        refine g_iconst (pc := 113) (v := 0) C dX1_readOrder_113 (by decide) ?_
        refine g_iconst (pc := 114) (v := 2) C dX1_readOrder_114 (by decide) ?_
        refine g_callW (wr := []) (pc' := 118) (cs' := 0) (sl' := 0) hf C (fun u => some (.int (b2i u.2))) (fun u => (wT (kD k) aT u.1)) (fun u hu => gr_V (rest := []) C (cX1_readFirst_ (kL k) C.tr (kD k) N aT r12.1 0 2 u hu) (fun ht => cwV 2 ht gX1_readOrder_X1_readFirst rfl rfl rfl hdX1_readFirst ⟨(Nat.le_of_ble_eq_true rfl), (Nat.le_of_ble_eq_true rfl)⟩) 0 rfl rfl [0, 1] rfl (by decide) rfl rfl (Nat.le_of_ble_eq_true rfl) dX1_readOrder_115 ⟨(Nat.le_of_ble_eq_true rfl), (Nat.le_of_ble_eq_true rfl)⟩) [0, 1] [] rfl rfl (by decide) (by decide) [0, 1] (by decide) (ws' := fun u => (wT (kD k) aT u.1)) (fun u => rfl) rfl rfl rfl (fun u => [.int (b2i u.2)]) (fun u => rfl) (fun r13 hf => ?_)
        refine g_ifB_eq (pc := 118) (tgt := 144) (b := r13.2) hf C dX1_readOrder_118 (by decide) (fun hf => ?_) (fun hf => ?_)
        · refine g_iconst (pc := 144) (v := 0) C dX1_readOrder_144 (by decide) ?_
          obtain rfl := Option.some.inj hf
          exact g_bret (b := false) C E dX1_readOrder_145 (Nat.le_of_ble_eq_true rfl) (Nat.le_of_ble_eq_true rfl) ⟨rfl, rfl⟩
        · refine g_aload_n (pc := 121) (x := (aT 0)) C dX1_readOrder_121 rfl ?_
          refine g_bipush (pc := 122) (v := 43) C dX1_readOrder_122 (by decide) ?_
          refine g_callW (wr := []) (pc' := 127) (cs' := 0) (sl' := 0) hf C (fun u => some (.int (b2i u.2))) (fun u => (wT (kD k) aT u.1)) (fun u hu => gr_V (rest := []) C (cX1_readSign_ (kL k) C.tr (kD k) N aT r13.1 43 u hu) (fun ht => cwV 1 ht gX1_readOrder_X1_readSign rfl rfl rfl hdX1_readSign ⟨(Nat.le_of_ble_eq_true rfl), (Nat.le_of_ble_eq_true rfl)⟩) 0 rfl rfl [0, 1] rfl (by decide) rfl rfl (Nat.le_of_ble_eq_true rfl) dX1_readOrder_124 ⟨(Nat.le_of_ble_eq_true rfl), (Nat.le_of_ble_eq_true rfl)⟩) [0, 1] [] rfl rfl (by decide) (by decide) [0, 1] (by decide) (ws' := fun u => (wT (kD k) aT u.1)) (fun u => rfl) rfl rfl rfl (fun u => [.int (b2i u.2)]) (fun u => rfl) (fun r14 hf => ?_)
          refine g_ifB_eq (pc := 127) (tgt := 144) (b := r14.2) hf C dX1_readOrder_127 (by decide) (fun hf => ?_) (fun hf => ?_)
          · refine g_iconst (pc := 144) (v := 0) C dX1_readOrder_144 (by decide) ?_
            obtain rfl := Option.some.inj hf
            exact g_bret (b := false) C E dX1_readOrder_145 (Nat.le_of_ble_eq_true rfl) (Nat.le_of_ble_eq_true rfl) ⟨rfl, rfl⟩
          · refine g_aload_n (pc := 130) (x := (aT 0)) C dX1_readOrder_130 rfl ?_
            refine g_iconst (pc := 131) (v := 0) C dX1_readOrder_131 (by decide) ?_
            refine g_bipush (pc := 132) (v := 19) C dX1_readOrder_132 (by decide) ?_
            refine g_callW (wr := []) (pc' := 137) (cs' := 0) (sl' := 0) hf C (fun u => some (.int (b2i u.2))) (fun u => (wT (kD k) aT u.1)) (fun u hu => gr_V (rest := []) C (cX1_readSecond_ (kL k) C.tr (kD k) N aT r14.1 0 19 u hu) (fun ht => cwV 2 ht gX1_readOrder_X1_readSecond rfl rfl rfl hdX1_readSecond ⟨(Nat.le_of_ble_eq_true rfl), (Nat.le_of_ble_eq_true rfl)⟩) 0 rfl rfl [0, 1] rfl (by decide) rfl rfl (Nat.le_of_ble_eq_true rfl) dX1_readOrder_134 ⟨(Nat.le_of_ble_eq_true rfl), (Nat.le_of_ble_eq_true rfl)⟩) [0, 1] [] rfl rfl (by decide) (by decide) [0, 1] (by decide) (ws' := fun u => (wT (kD k) aT u.1)) (fun u => rfl) rfl rfl rfl (fun u => [.int (b2i u.2)]) (fun u => rfl) (fun r15 hf => ?_)
            refine g_ifB_eq (pc := 137) (tgt := 144) (b := r15.2) hf C dX1_readOrder_137 (by decide) (fun hf => ?_) (fun hf => ?_)
            · refine g_iconst (pc := 144) (v := 0) C dX1_readOrder_144 (by decide) ?_
              obtain rfl := Option.some.inj hf
              exact g_bret (b := false) C E dX1_readOrder_145 (Nat.le_of_ble_eq_true rfl) (Nat.le_of_ble_eq_true rfl) ⟨rfl, rfl⟩
            · refine g_iconst (pc := 140) (v := 1) C dX1_readOrder_140 (by decide) ?_
              refine g_goto (pc := 141) (tgt := 145) C dX1_readOrder_141 (by decide) ?_
              obtain rfl := Option.some.inj hf
              exact g_bret (b := true) C E dX1_readOrder_145 (Nat.le_of_ble_eq_true rfl) (Nat.le_of_ble_eq_true rfl) ⟨rfl, rfl⟩
    refine g_lswd (pc := 26) (x := ((tC tx) (Int32.toNatClampNeg (tA tx)))) (tgt := 239) C dX1_readOrder_26 (by have e26_98 : (((tC tx) (Int32.toNatClampNeg (tA tx)))).toInt ≠ 98 := fun h => n26_98 (Int32.toInt_inj.mp (h.trans (by decide))); have e26_104 : (((tC tx) (Int32.toNatClampNeg (tA tx)))).toInt ≠ 104 := fun h => n26_104 (Int32.toInt_inj.mp (h.trans (by decide))); have e26_114 : (((tC tx) (Int32.toNatClampNeg (tA tx)))).toInt ≠ 114 := fun h => n26_114 (Int32.toInt_inj.mp (h.trans (by decide))); have e26_117 : (((tC tx) (Int32.toNatClampNeg (tA tx)))).toInt ≠ 117 := fun h => n26_117 (Int32.toInt_inj.mp (h.trans (by decide))); have e26_119 : (((tC tx) (Int32.toNatClampNeg (tA tx)))).toInt ≠ 119 := fun h => n26_119 (Int32.toInt_inj.mp (h.trans (by decide))); simp [Op.lookupswitch.offset, e26_98, e26_104, e26_114, e26_117, e26_119, Ne.symm e26_98, Ne.symm e26_104, Ne.symm e26_114, Ne.symm e26_117, Ne.symm e26_119]) (by decide) ?_
    refine g_iconst (pc := 239) (v := 0) C dX1_readOrder_239 (by decide) ?_
    obtain rfl := Option.some.inj hf
    exact g_bret (b := false) C E dX1_readOrder_240 (Nat.le_of_ble_eq_true rfl) (Nat.le_of_ble_eq_true rfl) ⟨rfl, rfl⟩
  · refine g_iconst (pc := 7) (v := 0) C dX1_readOrder_7 (by decide) ?_
    obtain rfl := Option.some.inj hf
    exact g_bret (b := false) C E dX1_readOrder_8 (Nat.le_of_ble_eq_true rfl) (Nat.le_of_ble_eq_true rfl) ⟨rfl, rfl⟩
set_option maxRecDepth 100000 in
set_option maxHeartbeats 4000000 in
theorem cX1_readOrder_ (l : Launch) (htr : l.stackTraces = false) (D : va_G) (N : Nat) (aT : Nat → Nat) (tx : VT) (r : VT × Bool) (hf : fX1_readOrder N tx = some r) : Tc l D yX1_readOrder wsX1_readOrder rmX1_readOrder [.ref (aT 0)] (wT D aT tx) (fun rv w => rv = some (.int (b2i r.2)) ∧ w = (wT D aT r.1)) (fun _ _ => False) 0 0 := Tc_of htr (by decide +kernel) rfl (Nat.le_of_ble_eq_true rfl) (fun k C E hl hD => by subst hD; exact wkX1_readOrder C N aT tx r hf E)
abbrev rmX1_readAll : Room := { frames := 5, cells := 0, slots := 0, locals := 102 }
theorem inX1_readAll_X1 : ∀ w ∈ wsX10, w ∈ wsX1_readAll := by decide +kernel
theorem lkX1_readAll_19 : Cond.fieldLink RX1 19 "GaugeBlocks$OrderText" (TX1 2).2.1 (TX1 2).2.2.1 ∈ wsX1_readAll := by decide +kernel
theorem hdX1_readAll : yX1_readAll.cls = RX1 ∧ yX1_readAll.cls ≠ "java/lang/invoke/MethodHandle" ∧ yX1_readAll.cls ≠ "java/lang/invoke/VarHandle" ∧ (parseMethodDescriptor yX1_readAll.desc).map (fun d => d.parameters.length) = some 0 := by decide +kernel
def lX1_readAll_7 (N : Nat)  : Nat → VT → Int32 → Option ((VT) ⊕ (VT) ⊕ (VT) ⊕ (VT))
  | 0, _, _ => none
  | n + 1, tx, l1 => (if (60 : Int32) ≤ l1 then some (.inl tx) else ((fX1_readOrder N tx).bind fun r1 => (if r1.2 = true then ((fX1_isAtEnd N r1.1).bind fun r2 => (if r2 = true then some (.inr (.inr (.inl r1.1))) else ((fX1_readSign N r1.1 59).bind fun r3 => (if r3.2 = true then (lX1_readAll_7 N n r3.1 (l1 + 1)) else some (.inr (.inr (.inr r3.1))))))) else some (.inr (.inl r1.1)))))
set_option maxRecDepth 100000 in
set_option maxHeartbeats 4000000 in
theorem wlX1_readAll_7 {k : Kt} (C : gC k cX1_readAll 2 RX1 wsX1_readAll rmX1_readAll "readAll") (N : Nat) (aT : Nat → Nat) : ∀ (n : Nat) (tx : VT) (l1 : Int32) (u : (VT) ⊕ (VT) ⊕ (VT) ⊕ (VT)) (hf : lX1_readAll_7 N n tx l1 = some u) (hk0 : ∀ t : (VT), u = (.inl t) → gG k (wT (kD k) aT t) [] 0 0 48 []) (hk1 : ∀ t : (VT), u = (.inr (.inl t)) → gG k (wT (kD k) aT t) [] 0 0 20 []) (hk2 : ∀ t : (VT), u = (.inr (.inr (.inl t))) → gG k (wT (kD k) aT t) [] 0 0 29 []) (hk3 : ∀ t : (VT), u = (.inr (.inr (.inr t))) → gG k (wT (kD k) aT t) [] 0 0 40 []), gG k (wT (kD k) aT tx) [(0, .ref (aT 0)), (1, .int l1)] 0 0 7 [] := by
  intro n
  induction n with
  | zero => intro tx l1 u hf hk0 hk1 hk2 hk3; rw [lX1_readAll_7] at hf; cases hf
  | succ n ih =>
    intro tx l1 u hf hk0 hk1 hk2 hk3
    rw [lX1_readAll_7] at hf
    refine g_iload_n (pc := 7) (x := l1) C dX1_readAll_7 rfl ?_
    refine g_bipush (pc := 8) (v := 60) C dX1_readAll_8 (by decide) ?_
    refine g_icmp_ge (pc := 10) (tgt := 48) (x := l1) (y := 60) hf C dX1_readAll_10 (by decide) (fun hf => ?_) (fun hf => ?_)
    · obtain rfl := Option.some.inj hf
      refine g_lv [] (lv' := []) rfl ?_
      exact hk0 _ rfl
    · refine g_aload_n (pc := 13) (x := (aT 0)) C dX1_readAll_13 rfl ?_
      refine g_callW (wr := []) (pc' := 17) (cs' := 0) (sl' := 0) hf C (fun u => some (.int (b2i u.2))) (fun u => (wT (kD k) aT u.1)) (fun u hu => gr_V (rest := []) C (cX1_readOrder_ (kL k) C.tr (kD k) N aT tx u hu) (fun ht => cwV 0 ht gX1_readAll_X1_readOrder rfl rfl rfl hdX1_readOrder ⟨(Nat.le_of_ble_eq_true rfl), (Nat.le_of_ble_eq_true rfl)⟩) 0 rfl rfl [0, 1] rfl (by decide) rfl rfl (Nat.le_of_ble_eq_true rfl) dX1_readAll_14 ⟨(Nat.le_of_ble_eq_true rfl), (Nat.le_of_ble_eq_true rfl)⟩) [0, 1] [] rfl rfl (by decide) (by decide) [0, 1] (by decide) (ws' := fun u => (wT (kD k) aT u.1)) (fun u => rfl) rfl rfl rfl (fun u => [.int (b2i u.2)]) (fun u => rfl) (fun r1 hf => ?_)
      refine g_ifB_ne (pc := 17) (tgt := 22) (b := r1.2) hf C dX1_readAll_17 (by decide) (fun hf => ?_) (fun hf => ?_)
      · refine g_aload_n (pc := 22) (x := (aT 0)) C dX1_readAll_22 rfl ?_
        refine g_callR (pc' := 26) (cs' := 0) (sl' := 0) hf C (fun u => some (.int (b2i u))) (fun u hu => gr_V (rest := []) C (cX1_isAtEnd_ (kL k) C.tr (kD k) N aT r1.1 u hu) (fun ht => cwV 0 ht gX1_readAll_X1_isAtEnd rfl rfl rfl hdX1_isAtEnd ⟨(Nat.le_of_ble_eq_true rfl), (Nat.le_of_ble_eq_true rfl)⟩) 0 rfl rfl [0, 1] rfl (by decide) rfl rfl (Nat.le_of_ble_eq_true rfl) dX1_readAll_23 ⟨(Nat.le_of_ble_eq_true rfl), (Nat.le_of_ble_eq_true rfl)⟩) [0, 1] rfl rfl rfl rfl (fun u => [.int (b2i u)]) (fun u => rfl) (fun r2 hf => ?_)
        refine g_ifB_eq (pc := 26) (tgt := 31) (b := r2) hf C dX1_readAll_26 (by decide) (fun hf => ?_) (fun hf => ?_)
        · refine g_aload_n (pc := 31) (x := (aT 0)) C dX1_readAll_31 rfl ?_
          refine g_bipush (pc := 32) (v := 59) C dX1_readAll_32 (by decide) ?_
          refine g_callW (wr := []) (pc' := 37) (cs' := 0) (sl' := 0) hf C (fun u => some (.int (b2i u.2))) (fun u => (wT (kD k) aT u.1)) (fun u hu => gr_V (rest := []) C (cX1_readSign_ (kL k) C.tr (kD k) N aT r1.1 59 u hu) (fun ht => cwV 1 ht gX1_readAll_X1_readSign rfl rfl rfl hdX1_readSign ⟨(Nat.le_of_ble_eq_true rfl), (Nat.le_of_ble_eq_true rfl)⟩) 0 rfl rfl [0, 1] rfl (by decide) rfl rfl (Nat.le_of_ble_eq_true rfl) dX1_readAll_34 ⟨(Nat.le_of_ble_eq_true rfl), (Nat.le_of_ble_eq_true rfl)⟩) [0, 1] [] rfl rfl (by decide) (by decide) [0, 1] (by decide) (ws' := fun u => (wT (kD k) aT u.1)) (fun u => rfl) rfl rfl rfl (fun u => [.int (b2i u.2)]) (fun u => rfl) (fun r3 hf => ?_)
          refine g_ifB_ne (pc := 37) (tgt := 42) (b := r3.2) hf C dX1_readAll_37 (by decide) (fun hf => ?_) (fun hf => ?_)
          · refine g_iinc (pc := 42) (x := l1) (v := (l1 + 1)) (lv' := [(1, .int (l1 + 1)), (0, .ref (aT 0))]) C dX1_readAll_42 rfl rfl (by decide) rfl ?_
            refine g_goto (pc := 45) (tgt := 7) C dX1_readAll_45 (by decide) ?_
            refine g_lv [1, 0] (lv' := [(0, .ref (aT 0)), (1, .int (l1 + 1))]) rfl ?_
            exact ih r3.1 (l1 + 1) u hf hk0 hk1 hk2 hk3
          · obtain rfl := Option.some.inj hf
            refine g_lv [] (lv' := []) rfl ?_
            exact hk3 _ rfl
        · obtain rfl := Option.some.inj hf
          refine g_lv [] (lv' := []) rfl ?_
          exact hk2 _ rfl
      · obtain rfl := Option.some.inj hf
        refine g_lv [] (lv' := []) rfl ?_
        exact hk1 _ rfl
def fX1_readAll (N : Nat) (tx : VT) : Option (VT × Bool) := ((lX1_readAll_7 N N ((tC tx), (tL tx), 0, (tR tx), (tF tx), (tE tx)) 0).bind fun r1 => Sum.elim (fun (t1 : (VT)) => some (t1, false)) (fun (y0 : (VT) ⊕ (VT) ⊕ (VT)) => Sum.elim (fun (t1 : (VT)) => some (t1, false)) (fun (y1 : (VT) ⊕ (VT)) => Sum.elim (fun (t1 : (VT)) => some (t1, true)) (fun (y2 : (VT)) => (fun (t1 : (VT)) => some (t1, false)) y2) y1) y0) r1)
set_option maxRecDepth 100000 in
set_option maxHeartbeats 4000000 in
theorem wkX1_readAll {k : Kt} (C : gC k cX1_readAll 2 RX1 wsX1_readAll rmX1_readAll "readAll") (N : Nat) (aT : Nat → Nat) (tx : VT) (r : VT × Bool) (hf : fX1_readAll N tx = some r) (E : gE k (wT (kD k) aT tx) (fun rv w => rv = some (.int (b2i r.2)) ∧ w = (wT (kD k) aT r.1)) (fun _ _ => False) 0 0 (some .boolean) []) : gG k (wT (kD k) aT tx) [(0, .ref (aT 0))] 0 0 0 [] := by
  unfold fX1_readAll at hf
  refine g_aload_n (pc := 0) (x := (aT 0)) C dX1_readAll_0 rfl ?_
  refine g_iconst (pc := 1) (v := 0) C dX1_readAll_1 (by decide) ?_
  refine g_putf (pc := 2) C 0 rfl rfl inX1_readAll_X1 tyX1 tyX1_ok nmX1 2 (by decide) lkX1_readAll_19 rfl rfl pfX1_2 rfl rfl (Nat.le_of_ble_eq_true rfl) dX1_readAll_2 (ws' := (wT (kD k) aT ((tC tx), (tL tx), 0, (tR tx), (tF tx), (tE tx)))) rfl ?_
  refine g_iconst (pc := 5) (v := 0) C dX1_readAll_5 (by decide) ?_
  refine g_istore_n (pc := 6) (lv' := [(1, .int 0), (0, .ref (aT 0))]) C dX1_readAll_6 (by decide) rfl ?_
  obtain ⟨r1, h1, hf⟩ := bd_e hf
  refine g_lv [1, 0] (lv' := [(0, .ref (aT 0)), (1, .int 0)]) rfl ?_
  refine wlX1_readAll_7 C N aT N ((tC tx), (tL tx), 0, (tR tx), (tF tx), (tE tx)) 0 r1 h1 (fun t1 e => ?_) (fun t1 e => ?_) (fun t1 e => ?_) (fun t1 e => ?_)
  · subst e
    refine g_iconst (pc := 48) (v := 0) C dX1_readAll_48 (by decide) ?_
    obtain rfl := Option.some.inj hf
    exact g_bret (b := false) C E dX1_readAll_49 (Nat.le_of_ble_eq_true rfl) (Nat.le_of_ble_eq_true rfl) ⟨rfl, rfl⟩
  · subst e
    refine g_iconst (pc := 20) (v := 0) C dX1_readAll_20 (by decide) ?_
    obtain rfl := Option.some.inj hf
    exact g_bret (b := false) C E dX1_readAll_21 (Nat.le_of_ble_eq_true rfl) (Nat.le_of_ble_eq_true rfl) ⟨rfl, rfl⟩
  · subst e
    refine g_iconst (pc := 29) (v := 1) C dX1_readAll_29 (by decide) ?_
    obtain rfl := Option.some.inj hf
    exact g_bret (b := true) C E dX1_readAll_30 (Nat.le_of_ble_eq_true rfl) (Nat.le_of_ble_eq_true rfl) ⟨rfl, rfl⟩
  · subst e
    refine g_iconst (pc := 40) (v := 0) C dX1_readAll_40 (by decide) ?_
    obtain rfl := Option.some.inj hf
    exact g_bret (b := false) C E dX1_readAll_41 (Nat.le_of_ble_eq_true rfl) (Nat.le_of_ble_eq_true rfl) ⟨rfl, rfl⟩
set_option maxRecDepth 100000 in
set_option maxHeartbeats 4000000 in
theorem cX1_readAll_ (l : Launch) (htr : l.stackTraces = false) (D : va_G) (N : Nat) (aT : Nat → Nat) (tx : VT) (r : VT × Bool) (hf : fX1_readAll N tx = some r) : Tc l D yX1_readAll wsX1_readAll rmX1_readAll [.ref (aT 0)] (wT D aT tx) (fun rv w => rv = some (.int (b2i r.2)) ∧ w = (wT D aT r.1)) (fun _ _ => False) 0 0 := Tc_of htr (by decide +kernel) rfl (Nat.le_of_ble_eq_true rfl) (fun k C E hl hD => by subst hD; exact wkX1_readAll C N aT tx r hf E)
