abbrev rmX3_blocksIn : Room := { frames := 0, cells := 0, slots := 0, locals := 0 }
theorem inX3_blocksIn_X3 : ∀ w ∈ wsX30, w ∈ wsX3_blocksIn := by decide +kernel
theorem lkX3_blocksIn_50 : Cond.fieldLink RX3 50 "GaugeBlocks$State" (TX3 8).2.1 (TX3 8).2.2.1 ∈ wsX3_blocksIn := by decide +kernel
theorem lkX3_blocksIn_24 : Cond.fieldLink RX3 24 "GaugeBlocks$State" (TX3 4).2.1 (TX3 4).2.2.1 ∈ wsX3_blocksIn := by decide +kernel
theorem hdX3_blocksIn : yX3_blocksIn.cls = RX3 ∧ yX3_blocksIn.cls ≠ "java/lang/invoke/MethodHandle" ∧ yX3_blocksIn.cls ≠ "java/lang/invoke/VarHandle" ∧ (parseMethodDescriptor yX3_blocksIn.desc).map (fun d => d.parameters.length) = some 1 := by decide +kernel
def lX3_blocksIn_4 (N : Nat) (v : VS) (l1 : Int32) : Nat → Int32 → Int32 → Option ((Int32))
  | 0, _, _ => none
  | n + 1, l2, l3 => (if (sB v) ≤ l3 then some l2 else ck l3 20 ((if ((sK v) (Int32.toNatClampNeg l3)) = l1 then (lX3_blocksIn_4 N v l1 n (l2 ||| ((1 : Int32) <<< (l3 &&& 31))) (l3 + 1)) else (lX3_blocksIn_4 N v l1 n l2 (l3 + 1)))))
set_option maxRecDepth 100000 in
set_option maxHeartbeats 4000000 in
theorem wlX3_blocksIn_4 {k : Kt} (C : gC k cX3_blocksIn 4 RX3 wsX3_blocksIn rmX3_blocksIn "blocksIn") (N : Nat) (aS : Nat → Nat) (v : VS) (l1 : Int32) : ∀ (n : Nat) (l2 : Int32) (l3 : Int32) (u : (Int32)) (hf : lX3_blocksIn_4 N v l1 n l2 l3 = some u) (hk0 : gG k (wS (kD k) aS v) [(2, .int u)] 0 0 34 []), gG k (wS (kD k) aS v) [(0, .ref (aS 0)), (1, .int l1), (2, .int l2), (3, .int l3)] 0 0 4 [] := by
  intro n
  induction n with
  | zero => intro l2 l3 u hf hk0; rw [lX3_blocksIn_4] at hf; cases hf
  | succ n ih =>
    intro l2 l3 u hf hk0
    rw [lX3_blocksIn_4] at hf
    refine g_iload_n (pc := 4) (x := l3) C dX3_blocksIn_4 rfl ?_
    refine g_aload_n (pc := 5) (x := (aS 0)) C dX3_blocksIn_5 rfl ?_
    refine g_getf (pc := 6) C 0 rfl rfl inX3_blocksIn_X3 8 (by decide) lkX3_blocksIn_50 rfl rfl dX3_blocksIn_6 ?_
    refine g_icmp_ge (pc := 9) (tgt := 34) (x := l3) (y := (sB v)) hf C dX3_blocksIn_9 (by decide) (fun hf => ?_) (fun hf => ?_)
    · obtain rfl := Option.some.inj hf
      refine g_lv [2] (lv' := [(2, .int l2)]) rfl ?_
      exact hk0
    · refine g_aload_n (pc := 12) (x := (aS 0)) C dX3_blocksIn_12 rfl ?_
      refine g_getf (pc := 13) C 0 rfl rfl inX3_blocksIn_X3 4 (by decide) lkX3_blocksIn_24 rfl rfl dX3_blocksIn_13 ?_
      refine g_iload_n (pc := 16) (x := l3) C dX3_blocksIn_16 rfl ?_
      refine g_iald (pc := 17) (i := l3) hf C 5 rfl dX3_blocksIn_17 (fun hf => ?_)
      refine g_iload_n (pc := 18) (x := l1) C dX3_blocksIn_18 rfl ?_
      refine g_icmp_ne (pc := 19) (tgt := 28) (x := ((sK v) (Int32.toNatClampNeg l3))) (y := l1) hf C dX3_blocksIn_19 (by decide) (fun hf => ?_) (fun hf => ?_)
      · refine g_iinc (pc := 28) (x := l3) (v := (l3 + 1)) (lv' := [(3, .int (l3 + 1)), (0, .ref (aS 0)), (1, .int l1), (2, .int l2)]) C dX3_blocksIn_28 rfl rfl (by decide) rfl ?_
        refine g_goto (pc := 31) (tgt := 4) C dX3_blocksIn_31 (by decide) ?_
        refine g_lv [1, 2, 3, 0] (lv' := [(0, .ref (aS 0)), (1, .int l1), (2, .int l2), (3, .int (l3 + 1))]) rfl ?_
        exact ih l2 (l3 + 1) u hf hk0
      · refine g_iload_n (pc := 22) (x := l2) C dX3_blocksIn_22 rfl ?_
        refine g_iconst (pc := 23) (v := 1) C dX3_blocksIn_23 (by decide) ?_
        refine g_iload_n (pc := 24) (x := l3) C dX3_blocksIn_24 rfl ?_
        refine g_ishl (pc := 25) (x := (1 : Int32)) (y := l3) C dX3_blocksIn_25 ?_
        refine g_ior (pc := 26) (x := l2) (y := ((1 : Int32) <<< (l3 &&& 31))) C dX3_blocksIn_26 ?_
        refine g_istore_n (pc := 27) (lv' := [(2, .int (l2 ||| ((1 : Int32) <<< (l3 &&& 31)))), (0, .ref (aS 0)), (1, .int l1), (3, .int l3)]) C dX3_blocksIn_27 (by decide) rfl ?_
        refine g_iinc (pc := 28) (x := l3) (v := (l3 + 1)) (lv' := [(3, .int (l3 + 1)), (2, .int (l2 ||| ((1 : Int32) <<< (l3 &&& 31)))), (0, .ref (aS 0)), (1, .int l1)]) C dX3_blocksIn_28 rfl rfl (by decide) rfl ?_
        refine g_goto (pc := 31) (tgt := 4) C dX3_blocksIn_31 (by decide) ?_
        refine g_lv [2, 3, 1, 0] (lv' := [(0, .ref (aS 0)), (1, .int l1), (2, .int (l2 ||| ((1 : Int32) <<< (l3 &&& 31)))), (3, .int (l3 + 1))]) rfl ?_
        exact ih (l2 ||| ((1 : Int32) <<< (l3 &&& 31))) (l3 + 1) u hf hk0
def fX3_blocksIn (N : Nat) (v : VS) (p1 : Int32) : Option (Int32) := ((lX3_blocksIn_4 N v p1 N 0 0).bind fun r1 => some r1)
set_option maxRecDepth 100000 in
set_option maxHeartbeats 4000000 in
theorem wkX3_blocksIn {k : Kt} (C : gC k cX3_blocksIn 4 RX3 wsX3_blocksIn rmX3_blocksIn "blocksIn") (N : Nat) (aS : Nat → Nat) (v : VS) (p1 : Int32) (r : Int32) (hf : fX3_blocksIn N v p1 = some r) (E : gE k (wS (kD k) aS v) (fun rv w => rv = some (.int r) ∧ w = (wS (kD k) aS v)) (fun _ _ => False) 0 0 (some .int) []) : gG k (wS (kD k) aS v) [(0, .ref (aS 0)), (1, .int p1)] 0 0 0 [] := by
  unfold fX3_blocksIn at hf
  refine g_iconst (pc := 0) (v := 0) C dX3_blocksIn_0 (by decide) ?_
  refine g_istore_n (pc := 1) (lv' := [(2, .int 0), (0, .ref (aS 0)), (1, .int p1)]) C dX3_blocksIn_1 (by decide) rfl ?_
  refine g_iconst (pc := 2) (v := 0) C dX3_blocksIn_2 (by decide) ?_
  refine g_istore_n (pc := 3) (lv' := [(3, .int 0), (2, .int 0), (0, .ref (aS 0)), (1, .int p1)]) C dX3_blocksIn_3 (by decide) rfl ?_
  obtain ⟨r1, h1, hf⟩ := bd_e hf
  refine g_lv [2, 3, 1, 0] (lv' := [(0, .ref (aS 0)), (1, .int p1), (2, .int 0), (3, .int 0)]) rfl ?_
  refine wlX3_blocksIn_4 C N aS v p1 N 0 0 r1 h1 ?_
  refine g_iload_n (pc := 34) (x := r1) C dX3_blocksIn_34 rfl ?_
  obtain rfl := Option.some.inj hf
  exact g_iret (v := r1) C E dX3_blocksIn_35 (Nat.le_of_ble_eq_true rfl) (Nat.le_of_ble_eq_true rfl) ⟨rfl, rfl⟩
set_option maxRecDepth 100000 in
set_option maxHeartbeats 4000000 in
theorem cX3_blocksIn_ (l : Launch) (htr : l.stackTraces = false) (D : va_G) (N : Nat) (aS : Nat → Nat) (v : VS) (p1 : Int32) (r : Int32) (hf : fX3_blocksIn N v p1 = some r) : Tc l D yX3_blocksIn wsX3_blocksIn rmX3_blocksIn [.ref (aS 0), .int p1] (wS D aS v) (fun rv w => rv = some (.int r) ∧ w = (wS D aS v)) (fun _ _ => False) 0 0 := Tc_of htr (by decide +kernel) rfl (Nat.le_of_ble_eq_true rfl) (fun k C E hl hD => by subst hD; exact wkX3_blocksIn C N aS v p1 r hf E)
abbrev rmX3_isFree : Room := { frames := 0, cells := 0, slots := 0, locals := 0 }
theorem inX3_isFree_X3 : ∀ w ∈ wsX30, w ∈ wsX3_isFree := by decide +kernel
theorem lkX3_isFree_24 : Cond.fieldLink RX3 24 "GaugeBlocks$State" (TX3 4).2.1 (TX3 4).2.2.1 ∈ wsX3_isFree := by decide +kernel
theorem hdX3_isFree : yX3_isFree.cls = RX3 ∧ yX3_isFree.cls ≠ "java/lang/invoke/MethodHandle" ∧ yX3_isFree.cls ≠ "java/lang/invoke/VarHandle" ∧ (parseMethodDescriptor yX3_isFree.desc).map (fun d => d.parameters.length) = some 1 := by decide +kernel
def fX3_isFree (N : Nat) (v : VS) (p1 : Int32) : Option (Bool) := ck p1 20 ((if ((sK v) (Int32.toNatClampNeg p1)) = ((-1) : Int32) then some true else some false))
set_option maxRecDepth 100000 in
set_option maxHeartbeats 4000000 in
theorem wkX3_isFree {k : Kt} (C : gC k cX3_isFree 2 RX3 wsX3_isFree rmX3_isFree "isFree") (N : Nat) (aS : Nat → Nat) (v : VS) (p1 : Int32) (r : Bool) (hf : fX3_isFree N v p1 = some r) (E : gE k (wS (kD k) aS v) (fun rv w => rv = some (.int (b2i r)) ∧ w = (wS (kD k) aS v)) (fun _ _ => False) 0 0 (some .boolean) []) : gG k (wS (kD k) aS v) [(0, .ref (aS 0)), (1, .int p1)] 0 0 0 [] := by
  unfold fX3_isFree at hf
  refine g_aload_n (pc := 0) (x := (aS 0)) C dX3_isFree_0 rfl ?_
  refine g_getf (pc := 1) C 0 rfl rfl inX3_isFree_X3 4 (by decide) lkX3_isFree_24 rfl rfl dX3_isFree_1 ?_
  refine g_iload_n (pc := 4) (x := p1) C dX3_isFree_4 rfl ?_
  refine g_iald (pc := 5) (i := p1) hf C 5 rfl dX3_isFree_5 (fun hf => ?_)
  refine g_iconst (pc := 6) (v := (-1)) C dX3_isFree_6 (by decide) ?_
  refine g_icmp_ne (pc := 7) (tgt := 14) (x := ((sK v) (Int32.toNatClampNeg p1))) (y := (-1)) hf C dX3_isFree_7 (by decide) (fun hf => ?_) (fun hf => ?_)
  · refine g_iconst (pc := 14) (v := 0) C dX3_isFree_14 (by decide) ?_
    obtain rfl := Option.some.inj hf
    exact g_bret (b := false) C E dX3_isFree_15 (Nat.le_of_ble_eq_true rfl) (Nat.le_of_ble_eq_true rfl) ⟨rfl, rfl⟩
  · refine g_iconst (pc := 10) (v := 1) C dX3_isFree_10 (by decide) ?_
    refine g_goto (pc := 11) (tgt := 15) C dX3_isFree_11 (by decide) ?_
    obtain rfl := Option.some.inj hf
    exact g_bret (b := true) C E dX3_isFree_15 (Nat.le_of_ble_eq_true rfl) (Nat.le_of_ble_eq_true rfl) ⟨rfl, rfl⟩
set_option maxRecDepth 100000 in
set_option maxHeartbeats 4000000 in
theorem cX3_isFree_ (l : Launch) (htr : l.stackTraces = false) (D : va_G) (N : Nat) (aS : Nat → Nat) (v : VS) (p1 : Int32) (r : Bool) (hf : fX3_isFree N v p1 = some r) : Tc l D yX3_isFree wsX3_isFree rmX3_isFree [.ref (aS 0), .int p1] (wS D aS v) (fun rv w => rv = some (.int (b2i r)) ∧ w = (wS D aS v)) (fun _ _ => False) 0 0 := Tc_of htr (by decide +kernel) rfl (Nat.le_of_ble_eq_true rfl) (fun k C E hl hD => by subst hD; exact wkX3_isFree C N aS v p1 r hf E)
abbrev rmX3_errorOf : Room := { frames := 0, cells := 0, slots := 0, locals := 0 }
theorem inX3_errorOf_X3 : ∀ w ∈ wsX30, w ∈ wsX3_errorOf := by decide +kernel
theorem lkX3_errorOf_15 : Cond.fieldLink RX3 15 "GaugeBlocks$State" (TX3 1).2.1 (TX3 1).2.2.1 ∈ wsX3_errorOf := by decide +kernel
theorem lkX3_errorOf_18 : Cond.fieldLink RX3 18 "GaugeBlocks$State" (TX3 2).2.1 (TX3 2).2.2.1 ∈ wsX3_errorOf := by decide +kernel
theorem hdX3_errorOf : yX3_errorOf.cls = RX3 ∧ yX3_errorOf.cls ≠ "java/lang/invoke/MethodHandle" ∧ yX3_errorOf.cls ≠ "java/lang/invoke/VarHandle" ∧ (parseMethodDescriptor yX3_errorOf.desc).map (fun d => d.parameters.length) = some 1 := by decide +kernel
def fX3_errorOf (N : Nat) (v : VS) (p1 : Int32) : Option (Int32) := ck p1 20 (ck p1 20 (some (((sD v) (Int32.toNatClampNeg p1)) - ((sW v) (Int32.toNatClampNeg p1)))))
set_option maxRecDepth 100000 in
set_option maxHeartbeats 4000000 in
theorem wkX3_errorOf {k : Kt} (C : gC k cX3_errorOf 2 RX3 wsX3_errorOf rmX3_errorOf "errorOf") (N : Nat) (aS : Nat → Nat) (v : VS) (p1 : Int32) (r : Int32) (hf : fX3_errorOf N v p1 = some r) (E : gE k (wS (kD k) aS v) (fun rv w => rv = some (.int r) ∧ w = (wS (kD k) aS v)) (fun _ _ => False) 0 0 (some .int) []) : gG k (wS (kD k) aS v) [(0, .ref (aS 0)), (1, .int p1)] 0 0 0 [] := by
  unfold fX3_errorOf at hf
  refine g_aload_n (pc := 0) (x := (aS 0)) C dX3_errorOf_0 rfl ?_
  refine g_getf (pc := 1) C 0 rfl rfl inX3_errorOf_X3 1 (by decide) lkX3_errorOf_15 rfl rfl dX3_errorOf_1 ?_
  refine g_iload_n (pc := 4) (x := p1) C dX3_errorOf_4 rfl ?_
  refine g_iald (pc := 5) (i := p1) hf C 2 rfl dX3_errorOf_5 (fun hf => ?_)
  refine g_aload_n (pc := 6) (x := (aS 0)) C dX3_errorOf_6 rfl ?_
  refine g_getf (pc := 7) C 0 rfl rfl inX3_errorOf_X3 2 (by decide) lkX3_errorOf_18 rfl rfl dX3_errorOf_7 ?_
  refine g_iload_n (pc := 10) (x := p1) C dX3_errorOf_10 rfl ?_
  refine g_iald (pc := 11) (i := p1) hf C 3 rfl dX3_errorOf_11 (fun hf => ?_)
  refine g_isub (pc := 12) (x := ((sD v) (Int32.toNatClampNeg p1))) (y := ((sW v) (Int32.toNatClampNeg p1))) C dX3_errorOf_12 ?_
  obtain rfl := Option.some.inj hf
  exact g_iret (v := (((sD v) (Int32.toNatClampNeg p1)) - ((sW v) (Int32.toNatClampNeg p1)))) C E dX3_errorOf_13 (Nat.le_of_ble_eq_true rfl) (Nat.le_of_ble_eq_true rfl) ⟨rfl, rfl⟩
set_option maxRecDepth 100000 in
set_option maxHeartbeats 4000000 in
theorem cX3_errorOf_ (l : Launch) (htr : l.stackTraces = false) (D : va_G) (N : Nat) (aS : Nat → Nat) (v : VS) (p1 : Int32) (r : Int32) (hf : fX3_errorOf N v p1 = some r) : Tc l D yX3_errorOf wsX3_errorOf rmX3_errorOf [.ref (aS 0), .int p1] (wS D aS v) (fun rv w => rv = some (.int r) ∧ w = (wS D aS v)) (fun _ _ => False) 0 0 := Tc_of htr (by decide +kernel) rfl (Nat.le_of_ble_eq_true rfl) (fun k C E hl hD => by subst hD; exact wkX3_errorOf C N aS v p1 r hf E)
abbrev rmX3_sizeOfError : Room := { frames := 1, cells := 0, slots := 0, locals := 21 }
theorem mkX3_sizeOfError_78 : Cond.methodLink RX3 78 Lib.Math.abs.name ∈ wsX3_sizeOfError ∧ Cond.static Lib.Math.abs.name ∈ wsX3_sizeOfError ∧ Cond.initialized "java/lang/Math" ∈ wsX3_sizeOfError ∧ Cond.code Lib.Math.abs.name Lib.Math.abs.code 1 (some .int) ∈ wsX3_sizeOfError := by decide +kernel
theorem hdX3_sizeOfError : yX3_sizeOfError.cls = RX3 ∧ yX3_sizeOfError.cls ≠ "java/lang/invoke/MethodHandle" ∧ yX3_sizeOfError.cls ≠ "java/lang/invoke/VarHandle" ∧ (parseMethodDescriptor yX3_sizeOfError.desc).map (fun d => d.parameters.length) = some 1 := by decide +kernel
def fX3_sizeOfError (N : Nat) (v : VS) (p1 : Int32) : Option (Int32) := ((fX3_errorOf N v p1).bind fun r1 => some (jabs r1))
set_option maxRecDepth 100000 in
set_option maxHeartbeats 4000000 in
theorem wkX3_sizeOfError {k : Kt} (C : gC k cX3_sizeOfError 2 RX3 wsX3_sizeOfError rmX3_sizeOfError "sizeOfError") (N : Nat) (aS : Nat → Nat) (v : VS) (p1 : Int32) (r : Int32) (hf : fX3_sizeOfError N v p1 = some r) (E : gE k (wS (kD k) aS v) (fun rv w => rv = some (.int r) ∧ w = (wS (kD k) aS v)) (fun _ _ => False) 0 0 (some .int) []) : gG k (wS (kD k) aS v) [(0, .ref (aS 0)), (1, .int p1)] 0 0 0 [] := by
  unfold fX3_sizeOfError at hf
  refine g_aload_n (pc := 0) (x := (aS 0)) C dX3_sizeOfError_0 rfl ?_
  refine g_iload_n (pc := 1) (x := p1) C dX3_sizeOfError_1 rfl ?_
  refine g_callR (pc' := 5) (cs' := 0) (sl' := 0) hf C (fun u => some (.int u)) (fun u hu => gr_V (rest := []) C (cX3_errorOf_ (kL k) C.tr (kD k) N aS v p1 u hu) (fun ht => cwV 1 ht gX3_sizeOfError_X3_errorOf rfl rfl rfl hdX3_errorOf ⟨(Nat.le_of_ble_eq_true rfl), (Nat.le_of_ble_eq_true rfl)⟩) 0 rfl rfl [0, 1, 2, 3, 4, 5, 6, 7, 8] rfl (by decide) rfl rfl (Nat.le_of_ble_eq_true rfl) dX3_sizeOfError_2 ⟨(Nat.le_of_ble_eq_true rfl), (Nat.le_of_ble_eq_true rfl)⟩) [0, 1, 2, 3, 4, 5, 6, 7, 8] rfl rfl rfl rfl (fun u => [.int u]) (fun u => rfl) (fun r1 hf => ?_)
  refine g_abs (pc := 5) (x := r1) C mkX3_sizeOfError_78 (Nat.le_of_ble_eq_true rfl) (Nat.le_of_ble_eq_true rfl) (Nat.le_of_ble_eq_true rfl) (Nat.le_of_ble_eq_true rfl) dX3_sizeOfError_5 ?_
  obtain rfl := Option.some.inj hf
  exact g_iret (v := (jabs r1)) C E dX3_sizeOfError_8 (Nat.le_of_ble_eq_true rfl) (Nat.le_of_ble_eq_true rfl) ⟨rfl, rfl⟩
set_option maxRecDepth 100000 in
set_option maxHeartbeats 4000000 in
theorem cX3_sizeOfError_ (l : Launch) (htr : l.stackTraces = false) (D : va_G) (N : Nat) (aS : Nat → Nat) (v : VS) (p1 : Int32) (r : Int32) (hf : fX3_sizeOfError N v p1 = some r) : Tc l D yX3_sizeOfError wsX3_sizeOfError rmX3_sizeOfError [.ref (aS 0), .int p1] (wS D aS v) (fun rv w => rv = some (.int r) ∧ w = (wS D aS v)) (fun _ _ => False) 0 0 := Tc_of htr (by decide +kernel) rfl (Nat.le_of_ble_eq_true rfl) (fun k C E hl hD => by subst hD; exact wkX3_sizeOfError C N aS v p1 r hf E)
abbrev rmX3_copyFrom : Room := { frames := 1, cells := 0, slots := 0, locals := 60 }
theorem inX3_copyFrom_X3 : ∀ w ∈ wsX30, w ∈ wsX3_copyFrom := by decide +kernel
theorem lkX3_copyFrom_9 : Cond.fieldLink RX3 9 "GaugeBlocks$State" (TX3 0).2.1 (TX3 0).2.2.1 ∈ wsX3_copyFrom := by decide +kernel
theorem mkX3_copyFrom_44 : Cond.methodLink RX3 44 arraycopyName ∈ wsX3_copyFrom ∧ Cond.native arraycopyName ∈ wsX3_copyFrom ∧ Cond.static arraycopyName ∈ wsX3_copyFrom ∧ Cond.initialized "java/lang/System" ∈ wsX3_copyFrom := by decide +kernel
theorem lkX3_copyFrom_15 : Cond.fieldLink RX3 15 "GaugeBlocks$State" (TX3 1).2.1 (TX3 1).2.2.1 ∈ wsX3_copyFrom := by decide +kernel
theorem lkX3_copyFrom_18 : Cond.fieldLink RX3 18 "GaugeBlocks$State" (TX3 2).2.1 (TX3 2).2.2.1 ∈ wsX3_copyFrom := by decide +kernel
theorem lkX3_copyFrom_21 : Cond.fieldLink RX3 21 "GaugeBlocks$State" (TX3 3).2.1 (TX3 3).2.2.1 ∈ wsX3_copyFrom := by decide +kernel
theorem lkX3_copyFrom_24 : Cond.fieldLink RX3 24 "GaugeBlocks$State" (TX3 4).2.1 (TX3 4).2.2.1 ∈ wsX3_copyFrom := by decide +kernel
theorem lkX3_copyFrom_27 : Cond.fieldLink RX3 27 "GaugeBlocks$State" (TX3 5).2.1 (TX3 5).2.2.1 ∈ wsX3_copyFrom := by decide +kernel
theorem lkX3_copyFrom_30 : Cond.fieldLink RX3 30 "GaugeBlocks$State" (TX3 6).2.1 (TX3 6).2.2.1 ∈ wsX3_copyFrom := by decide +kernel
theorem lkX3_copyFrom_41 : Cond.fieldLink RX3 41 "GaugeBlocks$State" (TX3 7).2.1 (TX3 7).2.2.1 ∈ wsX3_copyFrom := by decide +kernel
theorem lkX3_copyFrom_50 : Cond.fieldLink RX3 50 "GaugeBlocks$State" (TX3 8).2.1 (TX3 8).2.2.1 ∈ wsX3_copyFrom := by decide +kernel
theorem lkX3_copyFrom_54 : Cond.fieldLink RX3 54 "GaugeBlocks$State" (TX3 9).2.1 (TX3 9).2.2.1 ∈ wsX3_copyFrom := by decide +kernel
theorem lkX3_copyFrom_57 : Cond.fieldLink RX3 57 "GaugeBlocks$State" (TX3 10).2.1 (TX3 10).2.2.1 ∈ wsX3_copyFrom := by decide +kernel
theorem lkX3_copyFrom_60 : Cond.fieldLink RX3 60 "GaugeBlocks$State" (TX3 11).2.1 (TX3 11).2.2.1 ∈ wsX3_copyFrom := by decide +kernel
theorem lkX3_copyFrom_63 : Cond.fieldLink RX3 63 "GaugeBlocks$State" (TX3 12).2.1 (TX3 12).2.2.1 ∈ wsX3_copyFrom := by decide +kernel
theorem hdX3_copyFrom : yX3_copyFrom.cls = RX3 ∧ yX3_copyFrom.cls ≠ "java/lang/invoke/MethodHandle" ∧ yX3_copyFrom.cls ≠ "java/lang/invoke/VarHandle" ∧ (parseMethodDescriptor yX3_copyFrom.desc).map (fun d => d.parameters.length) = some 1 := by decide +kernel
def fX3_copyFrom (N : Nat) (v : VS) (o : VS) : Option (VS) := some ((va_cpy (sN o) (sN v) 0 0 20), (va_cpy (sD o) (sD v) 0 0 20), (va_cpy (sW o) (sW v) 0 0 20), (va_cpy (sH o) (sH v) 0 0 20), (va_cpy (sK o) (sK v) 0 0 20), (va_cpy (sP o) (sP v) 0 0 20), (va_cpy (sT o) (sT v) 0 0 20), (va_cpy (sS o) (sS v) 0 0 4), (sB o), (sM o), (sG o), (sO o), (sR o))
set_option maxRecDepth 100000 in
set_option maxHeartbeats 4000000 in
theorem wkX3_copyFrom {k : Kt} (C : gC k cX3_copyFrom 2 RX3 wsX3_copyFrom rmX3_copyFrom "copyFrom") (N : Nat) (aS : Nat → Nat) (aO : Nat → Nat) (v : VS) (o : VS) (r : VS) (hf : fX3_copyFrom N v o = some r) (E : gE k ((wS (kD k) aS v) ++ (wS (kD k) aO o)) (fun rv w => rv = none ∧ w = ((wS (kD k) aS r) ++ (wS (kD k) aO o))) (fun _ _ => False) 0 0 none []) : gG k ((wS (kD k) aS v) ++ (wS (kD k) aO o)) [(0, .ref (aS 0)), (1, .ref (aO 0))] 0 0 0 [] := by
  unfold fX3_copyFrom at hf
  refine g_aload_n (pc := 0) (x := (aO 0)) C dX3_copyFrom_0 rfl ?_
  refine g_getf (pc := 1) C 9 rfl rfl inX3_copyFrom_X3 0 (by decide) lkX3_copyFrom_9 rfl rfl dX3_copyFrom_1 ?_
  refine g_iconst (pc := 4) (v := 0) C dX3_copyFrom_4 (by decide) ?_
  refine g_aload_n (pc := 5) (x := (aS 0)) C dX3_copyFrom_5 rfl ?_
  refine g_getf (pc := 6) C 0 rfl rfl inX3_copyFrom_X3 0 (by decide) lkX3_copyFrom_9 rfl rfl dX3_copyFrom_6 ?_
  refine g_iconst (pc := 9) (v := 0) C dX3_copyFrom_9 (by decide) ?_
  refine g_bipush (pc := 10) (v := 20) C dX3_copyFrom_10 (by decide) ?_
  refine g_copyi (pc := 12) (N := 20) C mkX3_copyFrom_44 10 1 rfl rfl rfl rfl (by decide) (by decide) (by decide) (by decide) (Nat.le_of_ble_eq_true rfl) (Nat.le_of_ble_eq_true rfl) dX3_copyFrom_12 (ws' := ((wS (kD k) aS ((va_cpy (sN o) (sN v) 0 0 20), (sD v), (sW v), (sH v), (sK v), (sP v), (sT v), (sS v), (sB v), (sM v), (sG v), (sO v), (sR v))) ++ (wS (kD k) aO o))) rfl ?_
  refine g_aload_n (pc := 15) (x := (aO 0)) C dX3_copyFrom_15 rfl ?_
  refine g_getf (pc := 16) C 9 rfl rfl inX3_copyFrom_X3 1 (by decide) lkX3_copyFrom_15 rfl rfl dX3_copyFrom_16 ?_
  refine g_iconst (pc := 19) (v := 0) C dX3_copyFrom_19 (by decide) ?_
  refine g_aload_n (pc := 20) (x := (aS 0)) C dX3_copyFrom_20 rfl ?_
  refine g_getf (pc := 21) C 0 rfl rfl inX3_copyFrom_X3 1 (by decide) lkX3_copyFrom_15 rfl rfl dX3_copyFrom_21 ?_
  refine g_iconst (pc := 24) (v := 0) C dX3_copyFrom_24 (by decide) ?_
  refine g_bipush (pc := 25) (v := 20) C dX3_copyFrom_25 (by decide) ?_
  refine g_copyi (pc := 27) (N := 20) C mkX3_copyFrom_44 11 2 rfl rfl rfl rfl (by decide) (by decide) (by decide) (by decide) (Nat.le_of_ble_eq_true rfl) (Nat.le_of_ble_eq_true rfl) dX3_copyFrom_27 (ws' := ((wS (kD k) aS ((va_cpy (sN o) (sN v) 0 0 20), (va_cpy (sD o) (sD v) 0 0 20), (sW v), (sH v), (sK v), (sP v), (sT v), (sS v), (sB v), (sM v), (sG v), (sO v), (sR v))) ++ (wS (kD k) aO o))) rfl ?_
  refine g_aload_n (pc := 30) (x := (aO 0)) C dX3_copyFrom_30 rfl ?_
  refine g_getf (pc := 31) C 9 rfl rfl inX3_copyFrom_X3 2 (by decide) lkX3_copyFrom_18 rfl rfl dX3_copyFrom_31 ?_
  refine g_iconst (pc := 34) (v := 0) C dX3_copyFrom_34 (by decide) ?_
  refine g_aload_n (pc := 35) (x := (aS 0)) C dX3_copyFrom_35 rfl ?_
  refine g_getf (pc := 36) C 0 rfl rfl inX3_copyFrom_X3 2 (by decide) lkX3_copyFrom_18 rfl rfl dX3_copyFrom_36 ?_
  refine g_iconst (pc := 39) (v := 0) C dX3_copyFrom_39 (by decide) ?_
  refine g_bipush (pc := 40) (v := 20) C dX3_copyFrom_40 (by decide) ?_
  refine g_copyi (pc := 42) (N := 20) C mkX3_copyFrom_44 12 3 rfl rfl rfl rfl (by decide) (by decide) (by decide) (by decide) (Nat.le_of_ble_eq_true rfl) (Nat.le_of_ble_eq_true rfl) dX3_copyFrom_42 (ws' := ((wS (kD k) aS ((va_cpy (sN o) (sN v) 0 0 20), (va_cpy (sD o) (sD v) 0 0 20), (va_cpy (sW o) (sW v) 0 0 20), (sH v), (sK v), (sP v), (sT v), (sS v), (sB v), (sM v), (sG v), (sO v), (sR v))) ++ (wS (kD k) aO o))) rfl ?_
  refine g_aload_n (pc := 45) (x := (aO 0)) C dX3_copyFrom_45 rfl ?_
  refine g_getf (pc := 46) C 9 rfl rfl inX3_copyFrom_X3 3 (by decide) lkX3_copyFrom_21 rfl rfl dX3_copyFrom_46 ?_
  refine g_iconst (pc := 49) (v := 0) C dX3_copyFrom_49 (by decide) ?_
  refine g_aload_n (pc := 50) (x := (aS 0)) C dX3_copyFrom_50 rfl ?_
  refine g_getf (pc := 51) C 0 rfl rfl inX3_copyFrom_X3 3 (by decide) lkX3_copyFrom_21 rfl rfl dX3_copyFrom_51 ?_
  refine g_iconst (pc := 54) (v := 0) C dX3_copyFrom_54 (by decide) ?_
  refine g_bipush (pc := 55) (v := 20) C dX3_copyFrom_55 (by decide) ?_
  refine g_copyi (pc := 57) (N := 20) C mkX3_copyFrom_44 13 4 rfl rfl rfl rfl (by decide) (by decide) (by decide) (by decide) (Nat.le_of_ble_eq_true rfl) (Nat.le_of_ble_eq_true rfl) dX3_copyFrom_57 (ws' := ((wS (kD k) aS ((va_cpy (sN o) (sN v) 0 0 20), (va_cpy (sD o) (sD v) 0 0 20), (va_cpy (sW o) (sW v) 0 0 20), (va_cpy (sH o) (sH v) 0 0 20), (sK v), (sP v), (sT v), (sS v), (sB v), (sM v), (sG v), (sO v), (sR v))) ++ (wS (kD k) aO o))) rfl ?_
  refine g_aload_n (pc := 60) (x := (aO 0)) C dX3_copyFrom_60 rfl ?_
  refine g_getf (pc := 61) C 9 rfl rfl inX3_copyFrom_X3 4 (by decide) lkX3_copyFrom_24 rfl rfl dX3_copyFrom_61 ?_
  refine g_iconst (pc := 64) (v := 0) C dX3_copyFrom_64 (by decide) ?_
  refine g_aload_n (pc := 65) (x := (aS 0)) C dX3_copyFrom_65 rfl ?_
  refine g_getf (pc := 66) C 0 rfl rfl inX3_copyFrom_X3 4 (by decide) lkX3_copyFrom_24 rfl rfl dX3_copyFrom_66 ?_
  refine g_iconst (pc := 69) (v := 0) C dX3_copyFrom_69 (by decide) ?_
  refine g_bipush (pc := 70) (v := 20) C dX3_copyFrom_70 (by decide) ?_
  refine g_copyi (pc := 72) (N := 20) C mkX3_copyFrom_44 14 5 rfl rfl rfl rfl (by decide) (by decide) (by decide) (by decide) (Nat.le_of_ble_eq_true rfl) (Nat.le_of_ble_eq_true rfl) dX3_copyFrom_72 (ws' := ((wS (kD k) aS ((va_cpy (sN o) (sN v) 0 0 20), (va_cpy (sD o) (sD v) 0 0 20), (va_cpy (sW o) (sW v) 0 0 20), (va_cpy (sH o) (sH v) 0 0 20), (va_cpy (sK o) (sK v) 0 0 20), (sP v), (sT v), (sS v), (sB v), (sM v), (sG v), (sO v), (sR v))) ++ (wS (kD k) aO o))) rfl ?_
  refine g_aload_n (pc := 75) (x := (aO 0)) C dX3_copyFrom_75 rfl ?_
  refine g_getf (pc := 76) C 9 rfl rfl inX3_copyFrom_X3 5 (by decide) lkX3_copyFrom_27 rfl rfl dX3_copyFrom_76 ?_
  refine g_iconst (pc := 79) (v := 0) C dX3_copyFrom_79 (by decide) ?_
  refine g_aload_n (pc := 80) (x := (aS 0)) C dX3_copyFrom_80 rfl ?_
  refine g_getf (pc := 81) C 0 rfl rfl inX3_copyFrom_X3 5 (by decide) lkX3_copyFrom_27 rfl rfl dX3_copyFrom_81 ?_
  refine g_iconst (pc := 84) (v := 0) C dX3_copyFrom_84 (by decide) ?_
  refine g_bipush (pc := 85) (v := 20) C dX3_copyFrom_85 (by decide) ?_
  refine g_copyi (pc := 87) (N := 20) C mkX3_copyFrom_44 15 6 rfl rfl rfl rfl (by decide) (by decide) (by decide) (by decide) (Nat.le_of_ble_eq_true rfl) (Nat.le_of_ble_eq_true rfl) dX3_copyFrom_87 (ws' := ((wS (kD k) aS ((va_cpy (sN o) (sN v) 0 0 20), (va_cpy (sD o) (sD v) 0 0 20), (va_cpy (sW o) (sW v) 0 0 20), (va_cpy (sH o) (sH v) 0 0 20), (va_cpy (sK o) (sK v) 0 0 20), (va_cpy (sP o) (sP v) 0 0 20), (sT v), (sS v), (sB v), (sM v), (sG v), (sO v), (sR v))) ++ (wS (kD k) aO o))) rfl ?_
  refine g_aload_n (pc := 90) (x := (aO 0)) C dX3_copyFrom_90 rfl ?_
  refine g_getf (pc := 91) C 9 rfl rfl inX3_copyFrom_X3 6 (by decide) lkX3_copyFrom_30 rfl rfl dX3_copyFrom_91 ?_
  refine g_iconst (pc := 94) (v := 0) C dX3_copyFrom_94 (by decide) ?_
  refine g_aload_n (pc := 95) (x := (aS 0)) C dX3_copyFrom_95 rfl ?_
  refine g_getf (pc := 96) C 0 rfl rfl inX3_copyFrom_X3 6 (by decide) lkX3_copyFrom_30 rfl rfl dX3_copyFrom_96 ?_
  refine g_iconst (pc := 99) (v := 0) C dX3_copyFrom_99 (by decide) ?_
  refine g_bipush (pc := 100) (v := 20) C dX3_copyFrom_100 (by decide) ?_
  refine g_copyi (pc := 102) (N := 20) C mkX3_copyFrom_44 16 7 rfl rfl rfl rfl (by decide) (by decide) (by decide) (by decide) (Nat.le_of_ble_eq_true rfl) (Nat.le_of_ble_eq_true rfl) dX3_copyFrom_102 (ws' := ((wS (kD k) aS ((va_cpy (sN o) (sN v) 0 0 20), (va_cpy (sD o) (sD v) 0 0 20), (va_cpy (sW o) (sW v) 0 0 20), (va_cpy (sH o) (sH v) 0 0 20), (va_cpy (sK o) (sK v) 0 0 20), (va_cpy (sP o) (sP v) 0 0 20), (va_cpy (sT o) (sT v) 0 0 20), (sS v), (sB v), (sM v), (sG v), (sO v), (sR v))) ++ (wS (kD k) aO o))) rfl ?_
  refine g_aload_n (pc := 105) (x := (aO 0)) C dX3_copyFrom_105 rfl ?_
  refine g_getf (pc := 106) C 9 rfl rfl inX3_copyFrom_X3 7 (by decide) lkX3_copyFrom_41 rfl rfl dX3_copyFrom_106 ?_
  refine g_iconst (pc := 109) (v := 0) C dX3_copyFrom_109 (by decide) ?_
  refine g_aload_n (pc := 110) (x := (aS 0)) C dX3_copyFrom_110 rfl ?_
  refine g_getf (pc := 111) C 0 rfl rfl inX3_copyFrom_X3 7 (by decide) lkX3_copyFrom_41 rfl rfl dX3_copyFrom_111 ?_
  refine g_iconst (pc := 114) (v := 0) C dX3_copyFrom_114 (by decide) ?_
  refine g_iconst (pc := 115) (v := 4) C dX3_copyFrom_115 (by decide) ?_
  refine g_copyi (pc := 116) (N := 4) C mkX3_copyFrom_44 17 8 rfl rfl rfl rfl (by decide) (by decide) (by decide) (by decide) (Nat.le_of_ble_eq_true rfl) (Nat.le_of_ble_eq_true rfl) dX3_copyFrom_116 (ws' := ((wS (kD k) aS ((va_cpy (sN o) (sN v) 0 0 20), (va_cpy (sD o) (sD v) 0 0 20), (va_cpy (sW o) (sW v) 0 0 20), (va_cpy (sH o) (sH v) 0 0 20), (va_cpy (sK o) (sK v) 0 0 20), (va_cpy (sP o) (sP v) 0 0 20), (va_cpy (sT o) (sT v) 0 0 20), (va_cpy (sS o) (sS v) 0 0 4), (sB v), (sM v), (sG v), (sO v), (sR v))) ++ (wS (kD k) aO o))) rfl ?_
  refine g_aload_n (pc := 119) (x := (aS 0)) C dX3_copyFrom_119 rfl ?_
  refine g_aload_n (pc := 120) (x := (aO 0)) C dX3_copyFrom_120 rfl ?_
  refine g_getf (pc := 121) C 9 rfl rfl inX3_copyFrom_X3 8 (by decide) lkX3_copyFrom_50 rfl rfl dX3_copyFrom_121 ?_
  refine g_putf (pc := 124) C 0 rfl rfl inX3_copyFrom_X3 tyX3 tyX3_ok nmX3 8 (by decide) lkX3_copyFrom_50 rfl rfl pfX3_8 rfl rfl (Nat.le_of_ble_eq_true rfl) dX3_copyFrom_124 (ws' := ((wS (kD k) aS ((va_cpy (sN o) (sN v) 0 0 20), (va_cpy (sD o) (sD v) 0 0 20), (va_cpy (sW o) (sW v) 0 0 20), (va_cpy (sH o) (sH v) 0 0 20), (va_cpy (sK o) (sK v) 0 0 20), (va_cpy (sP o) (sP v) 0 0 20), (va_cpy (sT o) (sT v) 0 0 20), (va_cpy (sS o) (sS v) 0 0 4), (sB o), (sM v), (sG v), (sO v), (sR v))) ++ (wS (kD k) aO o))) rfl ?_
  refine g_aload_n (pc := 127) (x := (aS 0)) C dX3_copyFrom_127 rfl ?_
  refine g_aload_n (pc := 128) (x := (aO 0)) C dX3_copyFrom_128 rfl ?_
  refine g_getf (pc := 129) C 9 rfl rfl inX3_copyFrom_X3 9 (by decide) lkX3_copyFrom_54 rfl rfl dX3_copyFrom_129 ?_
  refine g_putf (pc := 132) C 0 rfl rfl inX3_copyFrom_X3 tyX3 tyX3_ok nmX3 9 (by decide) lkX3_copyFrom_54 rfl rfl pfX3_9 rfl rfl (Nat.le_of_ble_eq_true rfl) dX3_copyFrom_132 (ws' := ((wS (kD k) aS ((va_cpy (sN o) (sN v) 0 0 20), (va_cpy (sD o) (sD v) 0 0 20), (va_cpy (sW o) (sW v) 0 0 20), (va_cpy (sH o) (sH v) 0 0 20), (va_cpy (sK o) (sK v) 0 0 20), (va_cpy (sP o) (sP v) 0 0 20), (va_cpy (sT o) (sT v) 0 0 20), (va_cpy (sS o) (sS v) 0 0 4), (sB o), (sM o), (sG v), (sO v), (sR v))) ++ (wS (kD k) aO o))) rfl ?_
  refine g_aload_n (pc := 135) (x := (aS 0)) C dX3_copyFrom_135 rfl ?_
  refine g_aload_n (pc := 136) (x := (aO 0)) C dX3_copyFrom_136 rfl ?_
  refine g_getf (pc := 137) C 9 rfl rfl inX3_copyFrom_X3 10 (by decide) lkX3_copyFrom_57 rfl rfl dX3_copyFrom_137 ?_
  refine g_putf (pc := 140) C 0 rfl rfl inX3_copyFrom_X3 tyX3 tyX3_ok nmX3 10 (by decide) lkX3_copyFrom_57 rfl rfl pfX3_10 rfl rfl (Nat.le_of_ble_eq_true rfl) dX3_copyFrom_140 (ws' := ((wS (kD k) aS ((va_cpy (sN o) (sN v) 0 0 20), (va_cpy (sD o) (sD v) 0 0 20), (va_cpy (sW o) (sW v) 0 0 20), (va_cpy (sH o) (sH v) 0 0 20), (va_cpy (sK o) (sK v) 0 0 20), (va_cpy (sP o) (sP v) 0 0 20), (va_cpy (sT o) (sT v) 0 0 20), (va_cpy (sS o) (sS v) 0 0 4), (sB o), (sM o), (sG o), (sO v), (sR v))) ++ (wS (kD k) aO o))) rfl ?_
  refine g_aload_n (pc := 143) (x := (aS 0)) C dX3_copyFrom_143 rfl ?_
  refine g_aload_n (pc := 144) (x := (aO 0)) C dX3_copyFrom_144 rfl ?_
  refine g_getf (pc := 145) C 9 rfl rfl inX3_copyFrom_X3 11 (by decide) lkX3_copyFrom_60 rfl rfl dX3_copyFrom_145 ?_
  refine g_putf (pc := 148) C 0 rfl rfl inX3_copyFrom_X3 tyX3 tyX3_ok nmX3 11 (by decide) lkX3_copyFrom_60 rfl rfl pfX3_11 rfl rfl (Nat.le_of_ble_eq_true rfl) dX3_copyFrom_148 (ws' := ((wS (kD k) aS ((va_cpy (sN o) (sN v) 0 0 20), (va_cpy (sD o) (sD v) 0 0 20), (va_cpy (sW o) (sW v) 0 0 20), (va_cpy (sH o) (sH v) 0 0 20), (va_cpy (sK o) (sK v) 0 0 20), (va_cpy (sP o) (sP v) 0 0 20), (va_cpy (sT o) (sT v) 0 0 20), (va_cpy (sS o) (sS v) 0 0 4), (sB o), (sM o), (sG o), (sO o), (sR v))) ++ (wS (kD k) aO o))) rfl ?_
  refine g_aload_n (pc := 151) (x := (aS 0)) C dX3_copyFrom_151 rfl ?_
  refine g_aload_n (pc := 152) (x := (aO 0)) C dX3_copyFrom_152 rfl ?_
  refine g_getf (pc := 153) C 9 rfl rfl inX3_copyFrom_X3 12 (by decide) lkX3_copyFrom_63 rfl rfl dX3_copyFrom_153 ?_
  refine g_putf (pc := 156) C 0 rfl rfl inX3_copyFrom_X3 tyX3 tyX3_ok nmX3 12 (by decide) lkX3_copyFrom_63 rfl rfl pfX3_12 rfl rfl (Nat.le_of_ble_eq_true rfl) dX3_copyFrom_156 (ws' := ((wS (kD k) aS ((va_cpy (sN o) (sN v) 0 0 20), (va_cpy (sD o) (sD v) 0 0 20), (va_cpy (sW o) (sW v) 0 0 20), (va_cpy (sH o) (sH v) 0 0 20), (va_cpy (sK o) (sK v) 0 0 20), (va_cpy (sP o) (sP v) 0 0 20), (va_cpy (sT o) (sT v) 0 0 20), (va_cpy (sS o) (sS v) 0 0 4), (sB o), (sM o), (sG o), (sO o), (sR o))) ++ (wS (kD k) aO o))) rfl ?_
  obtain rfl := Option.some.inj hf
  exact g_vret C E dX3_copyFrom_159 (Nat.le_of_ble_eq_true rfl) (Nat.le_of_ble_eq_true rfl) ⟨rfl, rfl⟩
set_option maxRecDepth 100000 in
set_option maxHeartbeats 4000000 in
theorem cX3_copyFrom_ (l : Launch) (htr : l.stackTraces = false) (D : va_G) (N : Nat) (aS : Nat → Nat) (aO : Nat → Nat) (v : VS) (o : VS) (r : VS) (hf : fX3_copyFrom N v o = some r) : Tc l D yX3_copyFrom wsX3_copyFrom rmX3_copyFrom [.ref (aS 0), .ref (aO 0)] ((wS D aS v) ++ (wS D aO o)) (fun rv w => rv = none ∧ w = ((wS D aS r) ++ (wS D aO o))) (fun _ _ => False) 0 0 := Tc_of htr (by decide +kernel) rfl (Nat.le_of_ble_eq_true rfl) (fun k C E hl hD => by subst hD; exact wkX3_copyFrom C N aS aO v o r hf E)
abbrev rmX3_isFull : Room := { frames := 0, cells := 0, slots := 0, locals := 0 }
theorem inX3_isFull_X3 : ∀ w ∈ wsX30, w ∈ wsX3_isFull := by decide +kernel
theorem lkX3_isFull_50 : Cond.fieldLink RX3 50 "GaugeBlocks$State" (TX3 8).2.1 (TX3 8).2.2.1 ∈ wsX3_isFull := by decide +kernel
theorem hdX3_isFull : yX3_isFull.cls = RX3 ∧ yX3_isFull.cls ≠ "java/lang/invoke/MethodHandle" ∧ yX3_isFull.cls ≠ "java/lang/invoke/VarHandle" ∧ (parseMethodDescriptor yX3_isFull.desc).map (fun d => d.parameters.length) = some 0 := by decide +kernel
def fX3_isFull (N : Nat) (v : VS) : Option (Bool) := (if (sB v) < (20 : Int32) then some false else some true)
set_option maxRecDepth 100000 in
set_option maxHeartbeats 4000000 in
theorem wkX3_isFull {k : Kt} (C : gC k cX3_isFull 1 RX3 wsX3_isFull rmX3_isFull "isFull") (N : Nat) (aS : Nat → Nat) (v : VS) (r : Bool) (hf : fX3_isFull N v = some r) (E : gE k (wS (kD k) aS v) (fun rv w => rv = some (.int (b2i r)) ∧ w = (wS (kD k) aS v)) (fun _ _ => False) 0 0 (some .boolean) []) : gG k (wS (kD k) aS v) [(0, .ref (aS 0))] 0 0 0 [] := by
  unfold fX3_isFull at hf
  refine g_aload_n (pc := 0) (x := (aS 0)) C dX3_isFull_0 rfl ?_
  refine g_getf (pc := 1) C 0 rfl rfl inX3_isFull_X3 8 (by decide) lkX3_isFull_50 rfl rfl dX3_isFull_1 ?_
  refine g_bipush (pc := 4) (v := 20) C dX3_isFull_4 (by decide) ?_
  refine g_icmp_lt (pc := 6) (tgt := 13) (x := (sB v)) (y := 20) hf C dX3_isFull_6 (by decide) (fun hf => ?_) (fun hf => ?_)
  · refine g_iconst (pc := 13) (v := 0) C dX3_isFull_13 (by decide) ?_
    obtain rfl := Option.some.inj hf
    exact g_bret (b := false) C E dX3_isFull_14 (Nat.le_of_ble_eq_true rfl) (Nat.le_of_ble_eq_true rfl) ⟨rfl, rfl⟩
  · refine g_iconst (pc := 9) (v := 1) C dX3_isFull_9 (by decide) ?_
    refine g_goto (pc := 10) (tgt := 14) C dX3_isFull_10 (by decide) ?_
    obtain rfl := Option.some.inj hf
    exact g_bret (b := true) C E dX3_isFull_14 (Nat.le_of_ble_eq_true rfl) (Nat.le_of_ble_eq_true rfl) ⟨rfl, rfl⟩
set_option maxRecDepth 100000 in
set_option maxHeartbeats 4000000 in
theorem cX3_isFull_ (l : Launch) (htr : l.stackTraces = false) (D : va_G) (N : Nat) (aS : Nat → Nat) (v : VS) (r : Bool) (hf : fX3_isFull N v = some r) : Tc l D yX3_isFull wsX3_isFull rmX3_isFull [.ref (aS 0)] (wS D aS v) (fun rv w => rv = some (.int (b2i r)) ∧ w = (wS D aS v)) (fun _ _ => False) 0 0 := Tc_of htr (by decide +kernel) rfl (Nat.le_of_ble_eq_true rfl) (fun k C E hl hD => by subst hD; exact wkX3_isFull C N aS v r hf E)
abbrev rmX3_hasBlock : Room := { frames := 0, cells := 0, slots := 0, locals := 0 }
theorem inX3_hasBlock_X3 : ∀ w ∈ wsX30, w ∈ wsX3_hasBlock := by decide +kernel
theorem lkX3_hasBlock_50 : Cond.fieldLink RX3 50 "GaugeBlocks$State" (TX3 8).2.1 (TX3 8).2.2.1 ∈ wsX3_hasBlock := by decide +kernel
theorem hdX3_hasBlock : yX3_hasBlock.cls = RX3 ∧ yX3_hasBlock.cls ≠ "java/lang/invoke/MethodHandle" ∧ yX3_hasBlock.cls ≠ "java/lang/invoke/VarHandle" ∧ (parseMethodDescriptor yX3_hasBlock.desc).map (fun d => d.parameters.length) = some 1 := by decide +kernel
def fX3_hasBlock (N : Nat) (v : VS) (p1 : Int32) : Option (Bool) := (if p1 < (0 : Int32) then some false else (if (sB v) ≤ p1 then some false else some true))
set_option maxRecDepth 100000 in
set_option maxHeartbeats 4000000 in
theorem wkX3_hasBlock {k : Kt} (C : gC k cX3_hasBlock 2 RX3 wsX3_hasBlock rmX3_hasBlock "hasBlock") (N : Nat) (aS : Nat → Nat) (v : VS) (p1 : Int32) (r : Bool) (hf : fX3_hasBlock N v p1 = some r) (E : gE k (wS (kD k) aS v) (fun rv w => rv = some (.int (b2i r)) ∧ w = (wS (kD k) aS v)) (fun _ _ => False) 0 0 (some .boolean) []) : gG k (wS (kD k) aS v) [(0, .ref (aS 0)), (1, .int p1)] 0 0 0 [] := by
  unfold fX3_hasBlock at hf
  refine g_iload_n (pc := 0) (x := p1) C dX3_hasBlock_0 rfl ?_
  refine g_if_lt (pc := 1) (tgt := 16) (x := p1) hf C dX3_hasBlock_1 (by decide) (fun hf => ?_) (fun hf => ?_)
  · refine g_iconst (pc := 16) (v := 0) C dX3_hasBlock_16 (by decide) ?_
    obtain rfl := Option.some.inj hf
    exact g_bret (b := false) C E dX3_hasBlock_17 (Nat.le_of_ble_eq_true rfl) (Nat.le_of_ble_eq_true rfl) ⟨rfl, rfl⟩
  · refine g_iload_n (pc := 4) (x := p1) C dX3_hasBlock_4 rfl ?_
    refine g_aload_n (pc := 5) (x := (aS 0)) C dX3_hasBlock_5 rfl ?_
    refine g_getf (pc := 6) C 0 rfl rfl inX3_hasBlock_X3 8 (by decide) lkX3_hasBlock_50 rfl rfl dX3_hasBlock_6 ?_
    refine g_icmp_ge (pc := 9) (tgt := 16) (x := p1) (y := (sB v)) hf C dX3_hasBlock_9 (by decide) (fun hf => ?_) (fun hf => ?_)
    · refine g_iconst (pc := 16) (v := 0) C dX3_hasBlock_16 (by decide) ?_
      obtain rfl := Option.some.inj hf
      exact g_bret (b := false) C E dX3_hasBlock_17 (Nat.le_of_ble_eq_true rfl) (Nat.le_of_ble_eq_true rfl) ⟨rfl, rfl⟩
    · refine g_iconst (pc := 12) (v := 1) C dX3_hasBlock_12 (by decide) ?_
      refine g_goto (pc := 13) (tgt := 17) C dX3_hasBlock_13 (by decide) ?_
      obtain rfl := Option.some.inj hf
      exact g_bret (b := true) C E dX3_hasBlock_17 (Nat.le_of_ble_eq_true rfl) (Nat.le_of_ble_eq_true rfl) ⟨rfl, rfl⟩
set_option maxRecDepth 100000 in
set_option maxHeartbeats 4000000 in
theorem cX3_hasBlock_ (l : Launch) (htr : l.stackTraces = false) (D : va_G) (N : Nat) (aS : Nat → Nat) (v : VS) (p1 : Int32) (r : Bool) (hf : fX3_hasBlock N v p1 = some r) : Tc l D yX3_hasBlock wsX3_hasBlock rmX3_hasBlock [.ref (aS 0), .int p1] (wS D aS v) (fun rv w => rv = some (.int (b2i r)) ∧ w = (wS D aS v)) (fun _ _ => False) 0 0 := Tc_of htr (by decide +kernel) rfl (Nat.le_of_ble_eq_true rfl) (fun k C E hl hD => by subst hD; exact wkX3_hasBlock C N aS v p1 r hf E)
abbrev rmX3_addBlock : Room := { frames := 1, cells := 0, slots := 0, locals := 20 }
theorem inX3_addBlock_X3 : ∀ w ∈ wsX30, w ∈ wsX3_addBlock := by decide +kernel
theorem lkX3_addBlock_50 : Cond.fieldLink RX3 50 "GaugeBlocks$State" (TX3 8).2.1 (TX3 8).2.2.1 ∈ wsX3_addBlock := by decide +kernel
theorem lkX3_addBlock_9 : Cond.fieldLink RX3 9 "GaugeBlocks$State" (TX3 0).2.1 (TX3 0).2.2.1 ∈ wsX3_addBlock := by decide +kernel
theorem lkX3_addBlock_15 : Cond.fieldLink RX3 15 "GaugeBlocks$State" (TX3 1).2.1 (TX3 1).2.2.1 ∈ wsX3_addBlock := by decide +kernel
theorem lkX3_addBlock_18 : Cond.fieldLink RX3 18 "GaugeBlocks$State" (TX3 2).2.1 (TX3 2).2.2.1 ∈ wsX3_addBlock := by decide +kernel
theorem lkX3_addBlock_21 : Cond.fieldLink RX3 21 "GaugeBlocks$State" (TX3 3).2.1 (TX3 3).2.2.1 ∈ wsX3_addBlock := by decide +kernel
theorem lkX3_addBlock_24 : Cond.fieldLink RX3 24 "GaugeBlocks$State" (TX3 4).2.1 (TX3 4).2.2.1 ∈ wsX3_addBlock := by decide +kernel
theorem lkX3_addBlock_27 : Cond.fieldLink RX3 27 "GaugeBlocks$State" (TX3 5).2.1 (TX3 5).2.2.1 ∈ wsX3_addBlock := by decide +kernel
theorem lkX3_addBlock_30 : Cond.fieldLink RX3 30 "GaugeBlocks$State" (TX3 6).2.1 (TX3 6).2.2.1 ∈ wsX3_addBlock := by decide +kernel
theorem hdX3_addBlock : yX3_addBlock.cls = RX3 ∧ yX3_addBlock.cls ≠ "java/lang/invoke/MethodHandle" ∧ yX3_addBlock.cls ≠ "java/lang/invoke/VarHandle" ∧ (parseMethodDescriptor yX3_addBlock.desc).map (fun d => d.parameters.length) = some 2 := by decide +kernel
def fX3_addBlock (N : Nat) (v : VS) (p1 : Int32) (p2 : Int32) : Option (VS × Int32) := ((fX3_isFull N v).bind fun r1 => (if r1 = true then some (v, (-1)) else ck (sB v) 20 (ck (sB v) 20 (ck (sB v) 20 (ck (sB v) 20 (ck (sB v) 20 (ck (sB v) 20 (ck (sB v) 20 (some (((upd (sN v) (Int32.toNatClampNeg (sB v)) p1), (upd (sD v) (Int32.toNatClampNeg (sB v)) p2), (upd (sW v) (Int32.toNatClampNeg (sB v)) 0), (upd (sH v) (Int32.toNatClampNeg (sB v)) 0), (upd (sK v) (Int32.toNatClampNeg (sB v)) (-1)), (upd (sP v) (Int32.toNatClampNeg (sB v)) (-1)), (upd (sT v) (Int32.toNatClampNeg (sB v)) 0), (sS v), ((sB v) + 1), (sM v), (sG v), (sO v), (sR v)), (sB v)))))))))))
set_option maxRecDepth 100000 in
set_option maxHeartbeats 4000000 in
theorem wkX3_addBlock {k : Kt} (C : gC k cX3_addBlock 4 RX3 wsX3_addBlock rmX3_addBlock "addBlock") (N : Nat) (aS : Nat → Nat) (v : VS) (p1 : Int32) (p2 : Int32) (r : VS × Int32) (hf : fX3_addBlock N v p1 p2 = some r) (E : gE k (wS (kD k) aS v) (fun rv w => rv = some (.int r.2) ∧ w = (wS (kD k) aS r.1)) (fun _ _ => False) 0 0 (some .int) []) : gG k (wS (kD k) aS v) [(0, .ref (aS 0)), (1, .int p1), (2, .int p2)] 0 0 0 [] := by
  unfold fX3_addBlock at hf
  refine g_aload_n (pc := 0) (x := (aS 0)) C dX3_addBlock_0 rfl ?_
  refine g_callR (pc' := 4) (cs' := 0) (sl' := 0) hf C (fun u => some (.int (b2i u))) (fun u hu => gr_V (rest := []) C (cX3_isFull_ (kL k) C.tr (kD k) N aS v u hu) (fun ht => cwV 0 ht gX3_addBlock_X3_isFull rfl rfl rfl hdX3_isFull ⟨(Nat.le_of_ble_eq_true rfl), (Nat.le_of_ble_eq_true rfl)⟩) 0 rfl rfl [0, 1, 2, 3, 4, 5, 6, 7, 8] rfl (by decide) rfl rfl (Nat.le_of_ble_eq_true rfl) dX3_addBlock_1 ⟨(Nat.le_of_ble_eq_true rfl), (Nat.le_of_ble_eq_true rfl)⟩) [0, 1, 2, 3, 4, 5, 6, 7, 8] rfl rfl rfl rfl (fun u => [.int (b2i u)]) (fun u => rfl) (fun r1 hf => ?_)
  refine g_ifB_eq (pc := 4) (tgt := 9) (b := r1) hf C dX3_addBlock_4 (by decide) (fun hf => ?_) (fun hf => ?_)
  · refine g_aload_n (pc := 9) (x := (aS 0)) C dX3_addBlock_9 rfl ?_
    refine g_getf (pc := 10) C 0 rfl rfl inX3_addBlock_X3 8 (by decide) lkX3_addBlock_50 rfl rfl dX3_addBlock_10 ?_
    refine g_istore_n (pc := 13) (lv' := [(3, .int (sB v)), (0, .ref (aS 0)), (1, .int p1), (2, .int p2)]) C dX3_addBlock_13 (by decide) rfl ?_
    refine g_aload_n (pc := 14) (x := (aS 0)) C dX3_addBlock_14 rfl ?_
    refine g_getf (pc := 15) C 0 rfl rfl inX3_addBlock_X3 0 (by decide) lkX3_addBlock_9 rfl rfl dX3_addBlock_15 ?_
    refine g_iload_n (pc := 18) (x := (sB v)) C dX3_addBlock_18 rfl ?_
    refine g_iload_n (pc := 19) (x := p1) C dX3_addBlock_19 rfl ?_
    refine g_iast (pc := 20) (i := (sB v)) (x := p1) hf C 1 rfl dX3_addBlock_20 (ws' := (wS (kD k) aS ((upd (sN v) (Int32.toNatClampNeg (sB v)) p1), (sD v), (sW v), (sH v), (sK v), (sP v), (sT v), (sS v), (sB v), (sM v), (sG v), (sO v), (sR v)))) rfl (fun hf => ?_)
    refine g_aload_n (pc := 21) (x := (aS 0)) C dX3_addBlock_21 rfl ?_
    refine g_getf (pc := 22) C 0 rfl rfl inX3_addBlock_X3 1 (by decide) lkX3_addBlock_15 rfl rfl dX3_addBlock_22 ?_
    refine g_iload_n (pc := 25) (x := (sB v)) C dX3_addBlock_25 rfl ?_
    refine g_iload_n (pc := 26) (x := p2) C dX3_addBlock_26 rfl ?_
    refine g_iast (pc := 27) (i := (sB v)) (x := p2) hf C 2 rfl dX3_addBlock_27 (ws' := (wS (kD k) aS ((upd (sN v) (Int32.toNatClampNeg (sB v)) p1), (upd (sD v) (Int32.toNatClampNeg (sB v)) p2), (sW v), (sH v), (sK v), (sP v), (sT v), (sS v), (sB v), (sM v), (sG v), (sO v), (sR v)))) rfl (fun hf => ?_)
    refine g_aload_n (pc := 28) (x := (aS 0)) C dX3_addBlock_28 rfl ?_
    refine g_getf (pc := 29) C 0 rfl rfl inX3_addBlock_X3 2 (by decide) lkX3_addBlock_18 rfl rfl dX3_addBlock_29 ?_
    refine g_iload_n (pc := 32) (x := (sB v)) C dX3_addBlock_32 rfl ?_
    refine g_iconst (pc := 33) (v := 0) C dX3_addBlock_33 (by decide) ?_
    refine g_iast (pc := 34) (i := (sB v)) (x := 0) hf C 3 rfl dX3_addBlock_34 (ws' := (wS (kD k) aS ((upd (sN v) (Int32.toNatClampNeg (sB v)) p1), (upd (sD v) (Int32.toNatClampNeg (sB v)) p2), (upd (sW v) (Int32.toNatClampNeg (sB v)) 0), (sH v), (sK v), (sP v), (sT v), (sS v), (sB v), (sM v), (sG v), (sO v), (sR v)))) rfl (fun hf => ?_)
    refine g_aload_n (pc := 35) (x := (aS 0)) C dX3_addBlock_35 rfl ?_
    refine g_getf (pc := 36) C 0 rfl rfl inX3_addBlock_X3 3 (by decide) lkX3_addBlock_21 rfl rfl dX3_addBlock_36 ?_
    refine g_iload_n (pc := 39) (x := (sB v)) C dX3_addBlock_39 rfl ?_
    refine g_iconst (pc := 40) (v := 0) C dX3_addBlock_40 (by decide) ?_
    refine g_iast (pc := 41) (i := (sB v)) (x := 0) hf C 4 rfl dX3_addBlock_41 (ws' := (wS (kD k) aS ((upd (sN v) (Int32.toNatClampNeg (sB v)) p1), (upd (sD v) (Int32.toNatClampNeg (sB v)) p2), (upd (sW v) (Int32.toNatClampNeg (sB v)) 0), (upd (sH v) (Int32.toNatClampNeg (sB v)) 0), (sK v), (sP v), (sT v), (sS v), (sB v), (sM v), (sG v), (sO v), (sR v)))) rfl (fun hf => ?_)
    refine g_aload_n (pc := 42) (x := (aS 0)) C dX3_addBlock_42 rfl ?_
    refine g_getf (pc := 43) C 0 rfl rfl inX3_addBlock_X3 4 (by decide) lkX3_addBlock_24 rfl rfl dX3_addBlock_43 ?_
    refine g_iload_n (pc := 46) (x := (sB v)) C dX3_addBlock_46 rfl ?_
    refine g_iconst (pc := 47) (v := (-1)) C dX3_addBlock_47 (by decide) ?_
    refine g_iast (pc := 48) (i := (sB v)) (x := (-1)) hf C 5 rfl dX3_addBlock_48 (ws' := (wS (kD k) aS ((upd (sN v) (Int32.toNatClampNeg (sB v)) p1), (upd (sD v) (Int32.toNatClampNeg (sB v)) p2), (upd (sW v) (Int32.toNatClampNeg (sB v)) 0), (upd (sH v) (Int32.toNatClampNeg (sB v)) 0), (upd (sK v) (Int32.toNatClampNeg (sB v)) (-1)), (sP v), (sT v), (sS v), (sB v), (sM v), (sG v), (sO v), (sR v)))) rfl (fun hf => ?_)
    refine g_aload_n (pc := 49) (x := (aS 0)) C dX3_addBlock_49 rfl ?_
    refine g_getf (pc := 50) C 0 rfl rfl inX3_addBlock_X3 5 (by decide) lkX3_addBlock_27 rfl rfl dX3_addBlock_50 ?_
    refine g_iload_n (pc := 53) (x := (sB v)) C dX3_addBlock_53 rfl ?_
    refine g_iconst (pc := 54) (v := (-1)) C dX3_addBlock_54 (by decide) ?_
    refine g_iast (pc := 55) (i := (sB v)) (x := (-1)) hf C 6 rfl dX3_addBlock_55 (ws' := (wS (kD k) aS ((upd (sN v) (Int32.toNatClampNeg (sB v)) p1), (upd (sD v) (Int32.toNatClampNeg (sB v)) p2), (upd (sW v) (Int32.toNatClampNeg (sB v)) 0), (upd (sH v) (Int32.toNatClampNeg (sB v)) 0), (upd (sK v) (Int32.toNatClampNeg (sB v)) (-1)), (upd (sP v) (Int32.toNatClampNeg (sB v)) (-1)), (sT v), (sS v), (sB v), (sM v), (sG v), (sO v), (sR v)))) rfl (fun hf => ?_)
    refine g_aload_n (pc := 56) (x := (aS 0)) C dX3_addBlock_56 rfl ?_
    refine g_getf (pc := 57) C 0 rfl rfl inX3_addBlock_X3 6 (by decide) lkX3_addBlock_30 rfl rfl dX3_addBlock_57 ?_
    refine g_iload_n (pc := 60) (x := (sB v)) C dX3_addBlock_60 rfl ?_
    refine g_iconst (pc := 61) (v := 0) C dX3_addBlock_61 (by decide) ?_
    refine g_iast (pc := 62) (i := (sB v)) (x := 0) hf C 7 rfl dX3_addBlock_62 (ws' := (wS (kD k) aS ((upd (sN v) (Int32.toNatClampNeg (sB v)) p1), (upd (sD v) (Int32.toNatClampNeg (sB v)) p2), (upd (sW v) (Int32.toNatClampNeg (sB v)) 0), (upd (sH v) (Int32.toNatClampNeg (sB v)) 0), (upd (sK v) (Int32.toNatClampNeg (sB v)) (-1)), (upd (sP v) (Int32.toNatClampNeg (sB v)) (-1)), (upd (sT v) (Int32.toNatClampNeg (sB v)) 0), (sS v), (sB v), (sM v), (sG v), (sO v), (sR v)))) rfl (fun hf => ?_)
    refine g_aload_n (pc := 63) (x := (aS 0)) C dX3_addBlock_63 rfl ?_
    refine g_dup (pc := 64) C dX3_addBlock_64 rfl ?_
    refine g_getf (pc := 65) C 0 rfl rfl inX3_addBlock_X3 8 (by decide) lkX3_addBlock_50 rfl rfl dX3_addBlock_65 ?_
    refine g_iconst (pc := 68) (v := 1) C dX3_addBlock_68 (by decide) ?_
    refine g_iadd (pc := 69) (x := (sB v)) (y := 1) C dX3_addBlock_69 ?_
    refine g_putf (pc := 70) C 0 rfl rfl inX3_addBlock_X3 tyX3 tyX3_ok nmX3 8 (by decide) lkX3_addBlock_50 rfl rfl pfX3_8 rfl rfl (Nat.le_of_ble_eq_true rfl) dX3_addBlock_70 (ws' := (wS (kD k) aS ((upd (sN v) (Int32.toNatClampNeg (sB v)) p1), (upd (sD v) (Int32.toNatClampNeg (sB v)) p2), (upd (sW v) (Int32.toNatClampNeg (sB v)) 0), (upd (sH v) (Int32.toNatClampNeg (sB v)) 0), (upd (sK v) (Int32.toNatClampNeg (sB v)) (-1)), (upd (sP v) (Int32.toNatClampNeg (sB v)) (-1)), (upd (sT v) (Int32.toNatClampNeg (sB v)) 0), (sS v), ((sB v) + 1), (sM v), (sG v), (sO v), (sR v)))) rfl ?_
    refine g_iload_n (pc := 73) (x := (sB v)) C dX3_addBlock_73 rfl ?_
    obtain rfl := Option.some.inj hf
    exact g_iret (v := (sB v)) C E dX3_addBlock_74 (Nat.le_of_ble_eq_true rfl) (Nat.le_of_ble_eq_true rfl) ⟨rfl, rfl⟩
  · refine g_iconst (pc := 7) (v := (-1)) C dX3_addBlock_7 (by decide) ?_
    obtain rfl := Option.some.inj hf
    exact g_iret (v := (-1)) C E dX3_addBlock_8 (Nat.le_of_ble_eq_true rfl) (Nat.le_of_ble_eq_true rfl) ⟨rfl, rfl⟩
set_option maxRecDepth 100000 in
set_option maxHeartbeats 4000000 in
theorem cX3_addBlock_ (l : Launch) (htr : l.stackTraces = false) (D : va_G) (N : Nat) (aS : Nat → Nat) (v : VS) (p1 : Int32) (p2 : Int32) (r : VS × Int32) (hf : fX3_addBlock N v p1 p2 = some r) : Tc l D yX3_addBlock wsX3_addBlock rmX3_addBlock [.ref (aS 0), .int p1, .int p2] (wS D aS v) (fun rv w => rv = some (.int r.2) ∧ w = (wS D aS r.1)) (fun _ _ => False) 0 0 := Tc_of htr (by decide +kernel) rfl (Nat.le_of_ble_eq_true rfl) (fun k C E hl hD => by subst hD; exact wkX3_addBlock C N aS v p1 p2 r hf E)
abbrev rmX3_closeGap : Room := { frames := 0, cells := 0, slots := 0, locals := 0 }
theorem inX3_closeGap_X3 : ∀ w ∈ wsX30, w ∈ wsX3_closeGap := by decide +kernel
theorem lkX3_closeGap_50 : Cond.fieldLink RX3 50 "GaugeBlocks$State" (TX3 8).2.1 (TX3 8).2.2.1 ∈ wsX3_closeGap := by decide +kernel
theorem hdX3_closeGap : yX3_closeGap.cls = RX3 ∧ yX3_closeGap.cls ≠ "java/lang/invoke/MethodHandle" ∧ yX3_closeGap.cls ≠ "java/lang/invoke/VarHandle" ∧ (parseMethodDescriptor yX3_closeGap.desc).map (fun d => d.parameters.length) = some 2 := by decide +kernel
def lX3_closeGap_4 (N : Nat) (v : VS) : Nat → (Nat → Int32) → Int32 → Option (((Nat → Int32)))
  | 0, _, _ => none
  | n + 1, g, l3 => (if (sB v) ≤ l3 then some g else ck l3 20 (ck (l3 - 1) 20 ((lX3_closeGap_4 N v n (upd g (Int32.toNatClampNeg (l3 - 1)) (g (Int32.toNatClampNeg l3))) (l3 + 1)))))
set_option maxRecDepth 100000 in
set_option maxHeartbeats 4000000 in
theorem wlX3_closeGap_4 {k : Kt} (C : gC k cX3_closeGap 4 RX3 wsX3_closeGap rmX3_closeGap "closeGap") (N : Nat) (aS : Nat → Nat) (aA : Nat) (v : VS) : ∀ (n : Nat) (g : (Nat → Int32)) (l3 : Int32) (u : ((Nat → Int32))) (hf : lX3_closeGap_4 N v n g l3 = some u) (hk0 : gG k ((wSH (kD k) aS v) ++ (wA (kD k) aA u)) [] 0 0 26 []), gG k ((wSH (kD k) aS v) ++ (wA (kD k) aA g)) [(0, .ref (aS 0)), (1, .ref aA), (3, .int l3)] 0 0 4 [] := by
  intro n
  induction n with
  | zero => intro g l3 u hf hk0; rw [lX3_closeGap_4] at hf; cases hf
  | succ n ih =>
    intro g l3 u hf hk0
    rw [lX3_closeGap_4] at hf
    refine g_iload_n (pc := 4) (x := l3) C dX3_closeGap_4 rfl ?_
    refine g_aload_n (pc := 5) (x := (aS 0)) C dX3_closeGap_5 rfl ?_
    refine g_getf (pc := 6) C 0 rfl rfl inX3_closeGap_X3 8 (by decide) lkX3_closeGap_50 rfl rfl dX3_closeGap_6 ?_
    refine g_icmp_ge (pc := 9) (tgt := 26) (x := l3) (y := (sB v)) hf C dX3_closeGap_9 (by decide) (fun hf => ?_) (fun hf => ?_)
    · obtain rfl := Option.some.inj hf
      refine g_lv [] (lv' := []) rfl ?_
      exact hk0
    · refine g_aload_n (pc := 12) (x := aA) C dX3_closeGap_12 rfl ?_
      refine g_iload_n (pc := 13) (x := l3) C dX3_closeGap_13 rfl ?_
      refine g_iconst (pc := 14) (v := 1) C dX3_closeGap_14 (by decide) ?_
      refine g_isub (pc := 15) (x := l3) (y := 1) C dX3_closeGap_15 ?_
      refine g_aload_n (pc := 16) (x := aA) C dX3_closeGap_16 rfl ?_
      refine g_iload_n (pc := 17) (x := l3) C dX3_closeGap_17 rfl ?_
      refine g_iald (pc := 18) (i := l3) hf C 1 rfl dX3_closeGap_18 (fun hf => ?_)
      refine g_iast (pc := 19) (i := (l3 - 1)) (x := (g (Int32.toNatClampNeg l3))) hf C 1 rfl dX3_closeGap_19 (ws' := ((wSH (kD k) aS v) ++ (wA (kD k) aA (upd g (Int32.toNatClampNeg (l3 - 1)) (g (Int32.toNatClampNeg l3)))))) rfl (fun hf => ?_)
      refine g_iinc (pc := 20) (x := l3) (v := (l3 + 1)) (lv' := [(3, .int (l3 + 1)), (0, .ref (aS 0)), (1, .ref aA)]) C dX3_closeGap_20 rfl rfl (by decide) rfl ?_
      refine g_goto (pc := 23) (tgt := 4) C dX3_closeGap_23 (by decide) ?_
      refine g_lv [1, 2, 0] (lv' := [(0, .ref (aS 0)), (1, .ref aA), (3, .int (l3 + 1))]) rfl ?_
      exact ih (upd g (Int32.toNatClampNeg (l3 - 1)) (g (Int32.toNatClampNeg l3))) (l3 + 1) u hf hk0
def fX3_closeGap (N : Nat) (v : VS) (g : (Nat → Int32)) (p2 : Int32) : Option ((Nat → Int32)) := ((lX3_closeGap_4 N v N g (p2 + 1)).bind fun r1 => some r1)
set_option maxRecDepth 100000 in
set_option maxHeartbeats 4000000 in
theorem wkX3_closeGap {k : Kt} (C : gC k cX3_closeGap 4 RX3 wsX3_closeGap rmX3_closeGap "closeGap") (N : Nat) (aS : Nat → Nat) (aA : Nat) (v : VS) (g : (Nat → Int32)) (p2 : Int32) (r : (Nat → Int32)) (hf : fX3_closeGap N v g p2 = some r) (E : gE k ((wSH (kD k) aS v) ++ (wA (kD k) aA g)) (fun rv w => rv = none ∧ w = ((wSH (kD k) aS v) ++ (wA (kD k) aA r))) (fun _ _ => False) 0 0 none []) : gG k ((wSH (kD k) aS v) ++ (wA (kD k) aA g)) [(0, .ref (aS 0)), (1, .ref aA), (2, .int p2)] 0 0 0 [] := by
  unfold fX3_closeGap at hf
  refine g_iload_n (pc := 0) (x := p2) C dX3_closeGap_0 rfl ?_
  refine g_iconst (pc := 1) (v := 1) C dX3_closeGap_1 (by decide) ?_
  refine g_iadd (pc := 2) (x := p2) (y := 1) C dX3_closeGap_2 ?_
  refine g_istore_n (pc := 3) (lv' := [(3, .int (p2 + 1)), (0, .ref (aS 0)), (1, .ref aA), (2, .int p2)]) C dX3_closeGap_3 (by decide) rfl ?_
  obtain ⟨r1, h1, hf⟩ := bd_e hf
  refine g_lv [1, 2, 0] (lv' := [(0, .ref (aS 0)), (1, .ref aA), (3, .int (p2 + 1))]) rfl ?_
  refine wlX3_closeGap_4 C N aS aA v N g (p2 + 1) r1 h1 ?_
  obtain rfl := Option.some.inj hf
  exact g_vret C E dX3_closeGap_26 (Nat.le_of_ble_eq_true rfl) (Nat.le_of_ble_eq_true rfl) ⟨rfl, rfl⟩
set_option maxRecDepth 100000 in
set_option maxHeartbeats 4000000 in
theorem cX3_closeGap_ (l : Launch) (htr : l.stackTraces = false) (D : va_G) (N : Nat) (aS : Nat → Nat) (aA : Nat) (v : VS) (g : (Nat → Int32)) (p2 : Int32) (r : (Nat → Int32)) (hf : fX3_closeGap N v g p2 = some r) : Tc l D yX3_closeGap wsX3_closeGap rmX3_closeGap [.ref (aS 0), .ref aA, .int p2] ((wSH D aS v) ++ (wA D aA g)) (fun rv w => rv = none ∧ w = ((wSH D aS v) ++ (wA D aA r))) (fun _ _ => False) 0 0 := Tc_of htr (by decide +kernel) rfl (Nat.le_of_ble_eq_true rfl) (fun k C E hl hD => by subst hD; exact wkX3_closeGap C N aS aA v g p2 r hf E)
abbrev rmX3_removeBlock : Room := { frames := 1, cells := 0, slots := 0, locals := 23 }
theorem inX3_removeBlock_X3 : ∀ w ∈ wsX30, w ∈ wsX3_removeBlock := by decide +kernel
theorem lkX3_removeBlock_9 : Cond.fieldLink RX3 9 "GaugeBlocks$State" (TX3 0).2.1 (TX3 0).2.2.1 ∈ wsX3_removeBlock := by decide +kernel
theorem lkX3_removeBlock_15 : Cond.fieldLink RX3 15 "GaugeBlocks$State" (TX3 1).2.1 (TX3 1).2.2.1 ∈ wsX3_removeBlock := by decide +kernel
theorem lkX3_removeBlock_18 : Cond.fieldLink RX3 18 "GaugeBlocks$State" (TX3 2).2.1 (TX3 2).2.2.1 ∈ wsX3_removeBlock := by decide +kernel
theorem lkX3_removeBlock_21 : Cond.fieldLink RX3 21 "GaugeBlocks$State" (TX3 3).2.1 (TX3 3).2.2.1 ∈ wsX3_removeBlock := by decide +kernel
theorem lkX3_removeBlock_24 : Cond.fieldLink RX3 24 "GaugeBlocks$State" (TX3 4).2.1 (TX3 4).2.2.1 ∈ wsX3_removeBlock := by decide +kernel
theorem lkX3_removeBlock_27 : Cond.fieldLink RX3 27 "GaugeBlocks$State" (TX3 5).2.1 (TX3 5).2.2.1 ∈ wsX3_removeBlock := by decide +kernel
theorem lkX3_removeBlock_30 : Cond.fieldLink RX3 30 "GaugeBlocks$State" (TX3 6).2.1 (TX3 6).2.2.1 ∈ wsX3_removeBlock := by decide +kernel
theorem lkX3_removeBlock_50 : Cond.fieldLink RX3 50 "GaugeBlocks$State" (TX3 8).2.1 (TX3 8).2.2.1 ∈ wsX3_removeBlock := by decide +kernel
theorem hdX3_removeBlock : yX3_removeBlock.cls = RX3 ∧ yX3_removeBlock.cls ≠ "java/lang/invoke/MethodHandle" ∧ yX3_removeBlock.cls ≠ "java/lang/invoke/VarHandle" ∧ (parseMethodDescriptor yX3_removeBlock.desc).map (fun d => d.parameters.length) = some 1 := by decide +kernel
def fX3_removeBlock (N : Nat) (v : VS) (p1 : Int32) : Option (VS) := ((fX3_closeGap N v (sN v) p1).bind fun r1 => ((fX3_closeGap N (r1, (sD v), (sW v), (sH v), (sK v), (sP v), (sT v), (sS v), (sB v), (sM v), (sG v), (sO v), (sR v)) (sD v) p1).bind fun r2 => ((fX3_closeGap N (r1, r2, (sW v), (sH v), (sK v), (sP v), (sT v), (sS v), (sB v), (sM v), (sG v), (sO v), (sR v)) (sW v) p1).bind fun r3 => ((fX3_closeGap N (r1, r2, r3, (sH v), (sK v), (sP v), (sT v), (sS v), (sB v), (sM v), (sG v), (sO v), (sR v)) (sH v) p1).bind fun r4 => ((fX3_closeGap N (r1, r2, r3, r4, (sK v), (sP v), (sT v), (sS v), (sB v), (sM v), (sG v), (sO v), (sR v)) (sK v) p1).bind fun r5 => ((fX3_closeGap N (r1, r2, r3, r4, r5, (sP v), (sT v), (sS v), (sB v), (sM v), (sG v), (sO v), (sR v)) (sP v) p1).bind fun r6 => ((fX3_closeGap N (r1, r2, r3, r4, r5, r6, (sT v), (sS v), (sB v), (sM v), (sG v), (sO v), (sR v)) (sT v) p1).bind fun r7 => some (r1, r2, r3, r4, r5, r6, r7, (sS v), ((sB v) - 1), (sM v), (sG v), (sO v), (sR v)))))))))
set_option maxRecDepth 100000 in
set_option maxHeartbeats 4000000 in
theorem wkX3_removeBlock {k : Kt} (C : gC k cX3_removeBlock 2 RX3 wsX3_removeBlock rmX3_removeBlock "removeBlock") (N : Nat) (aS : Nat → Nat) (v : VS) (p1 : Int32) (r : VS) (hf : fX3_removeBlock N v p1 = some r) (E : gE k (wS (kD k) aS v) (fun rv w => rv = none ∧ w = (wS (kD k) aS r)) (fun _ _ => False) 0 0 none []) : gG k (wS (kD k) aS v) [(0, .ref (aS 0)), (1, .int p1)] 0 0 0 [] := by
  unfold fX3_removeBlock at hf
  refine g_aload_n (pc := 0) (x := (aS 0)) C dX3_removeBlock_0 rfl ?_
  refine g_aload_n (pc := 1) (x := (aS 0)) C dX3_removeBlock_1 rfl ?_
  refine g_getf (pc := 2) C 0 rfl rfl inX3_removeBlock_X3 0 (by decide) lkX3_removeBlock_9 rfl rfl dX3_removeBlock_2 ?_
  refine g_iload_n (pc := 5) (x := p1) C dX3_removeBlock_5 rfl ?_
  refine g_callW (wr := ([2, 3, 4, 5, 6, 7, 8] : List Nat).filterMap (fun i => (wS (kD k) aS v)[i]?)) (pc' := 9) (cs' := 0) (sl' := 0) hf C (fun u => none) (fun u => ((wSH (kD k) aS v) ++ (wA (kD k) (aS 1) u))) (fun u hu => gr_V (rest := []) C (cX3_closeGap_ (kL k) C.tr (kD k) N aS (aS 1) v (sN v) p1 u hu) (fun ht => cwV 2 ht gX3_removeBlock_X3_closeGap rfl rfl rfl hdX3_closeGap ⟨(Nat.le_of_ble_eq_true rfl), (Nat.le_of_ble_eq_true rfl)⟩) 0 rfl rfl [0, 1] rfl (by decide) rfl rfl (Nat.le_of_ble_eq_true rfl) dX3_removeBlock_6 ⟨(Nat.le_of_ble_eq_true rfl), (Nat.le_of_ble_eq_true rfl)⟩) [0, 1] [2, 3, 4, 5, 6, 7, 8] rfl rfl (by decide) (by decide) [7, 8, 0, 1, 2, 3, 4, 5, 6] (by decide) (ws' := fun u => (wS (kD k) aS (u, (sD v), (sW v), (sH v), (sK v), (sP v), (sT v), (sS v), (sB v), (sM v), (sG v), (sO v), (sR v)))) (fun u => rfl) rfl rfl rfl (fun u => []) (fun u => rfl) (fun r1 hf => ?_)
  refine g_aload_n (pc := 9) (x := (aS 0)) C dX3_removeBlock_9 rfl ?_
  refine g_aload_n (pc := 10) (x := (aS 0)) C dX3_removeBlock_10 rfl ?_
  refine g_getf (pc := 11) C 0 rfl rfl inX3_removeBlock_X3 1 (by decide) lkX3_removeBlock_15 rfl rfl dX3_removeBlock_11 ?_
  refine g_iload_n (pc := 14) (x := p1) C dX3_removeBlock_14 rfl ?_
  refine g_callW (wr := ([1, 3, 4, 5, 6, 7, 8] : List Nat).filterMap (fun i => (wS (kD k) aS (r1, (sD v), (sW v), (sH v), (sK v), (sP v), (sT v), (sS v), (sB v), (sM v), (sG v), (sO v), (sR v)))[i]?)) (pc' := 18) (cs' := 0) (sl' := 0) hf C (fun u => none) (fun u => ((wSH (kD k) aS (r1, (sD v), (sW v), (sH v), (sK v), (sP v), (sT v), (sS v), (sB v), (sM v), (sG v), (sO v), (sR v))) ++ (wA (kD k) (aS 2) u))) (fun u hu => gr_V (rest := []) C (cX3_closeGap_ (kL k) C.tr (kD k) N aS (aS 2) (r1, (sD v), (sW v), (sH v), (sK v), (sP v), (sT v), (sS v), (sB v), (sM v), (sG v), (sO v), (sR v)) (sD v) p1 u hu) (fun ht => cwV 2 ht gX3_removeBlock_X3_closeGap rfl rfl rfl hdX3_closeGap ⟨(Nat.le_of_ble_eq_true rfl), (Nat.le_of_ble_eq_true rfl)⟩) 0 rfl rfl [0, 2] rfl (by decide) rfl rfl (Nat.le_of_ble_eq_true rfl) dX3_removeBlock_15 ⟨(Nat.le_of_ble_eq_true rfl), (Nat.le_of_ble_eq_true rfl)⟩) [0, 2] [1, 3, 4, 5, 6, 7, 8] rfl rfl (by decide) (by decide) [7, 0, 8, 1, 2, 3, 4, 5, 6] (by decide) (ws' := fun u => (wS (kD k) aS (r1, u, (sW v), (sH v), (sK v), (sP v), (sT v), (sS v), (sB v), (sM v), (sG v), (sO v), (sR v)))) (fun u => rfl) rfl rfl rfl (fun u => []) (fun u => rfl) (fun r2 hf => ?_)
  refine g_aload_n (pc := 18) (x := (aS 0)) C dX3_removeBlock_18 rfl ?_
  refine g_aload_n (pc := 19) (x := (aS 0)) C dX3_removeBlock_19 rfl ?_
  refine g_getf (pc := 20) C 0 rfl rfl inX3_removeBlock_X3 2 (by decide) lkX3_removeBlock_18 rfl rfl dX3_removeBlock_20 ?_
  refine g_iload_n (pc := 23) (x := p1) C dX3_removeBlock_23 rfl ?_
  refine g_callW (wr := ([1, 2, 4, 5, 6, 7, 8] : List Nat).filterMap (fun i => (wS (kD k) aS (r1, r2, (sW v), (sH v), (sK v), (sP v), (sT v), (sS v), (sB v), (sM v), (sG v), (sO v), (sR v)))[i]?)) (pc' := 27) (cs' := 0) (sl' := 0) hf C (fun u => none) (fun u => ((wSH (kD k) aS (r1, r2, (sW v), (sH v), (sK v), (sP v), (sT v), (sS v), (sB v), (sM v), (sG v), (sO v), (sR v))) ++ (wA (kD k) (aS 3) u))) (fun u hu => gr_V (rest := []) C (cX3_closeGap_ (kL k) C.tr (kD k) N aS (aS 3) (r1, r2, (sW v), (sH v), (sK v), (sP v), (sT v), (sS v), (sB v), (sM v), (sG v), (sO v), (sR v)) (sW v) p1 u hu) (fun ht => cwV 2 ht gX3_removeBlock_X3_closeGap rfl rfl rfl hdX3_closeGap ⟨(Nat.le_of_ble_eq_true rfl), (Nat.le_of_ble_eq_true rfl)⟩) 0 rfl rfl [0, 3] rfl (by decide) rfl rfl (Nat.le_of_ble_eq_true rfl) dX3_removeBlock_24 ⟨(Nat.le_of_ble_eq_true rfl), (Nat.le_of_ble_eq_true rfl)⟩) [0, 3] [1, 2, 4, 5, 6, 7, 8] rfl rfl (by decide) (by decide) [7, 0, 1, 8, 2, 3, 4, 5, 6] (by decide) (ws' := fun u => (wS (kD k) aS (r1, r2, u, (sH v), (sK v), (sP v), (sT v), (sS v), (sB v), (sM v), (sG v), (sO v), (sR v)))) (fun u => rfl) rfl rfl rfl (fun u => []) (fun u => rfl) (fun r3 hf => ?_)
  refine g_aload_n (pc := 27) (x := (aS 0)) C dX3_removeBlock_27 rfl ?_
  refine g_aload_n (pc := 28) (x := (aS 0)) C dX3_removeBlock_28 rfl ?_
  refine g_getf (pc := 29) C 0 rfl rfl inX3_removeBlock_X3 3 (by decide) lkX3_removeBlock_21 rfl rfl dX3_removeBlock_29 ?_
  refine g_iload_n (pc := 32) (x := p1) C dX3_removeBlock_32 rfl ?_
  refine g_callW (wr := ([1, 2, 3, 5, 6, 7, 8] : List Nat).filterMap (fun i => (wS (kD k) aS (r1, r2, r3, (sH v), (sK v), (sP v), (sT v), (sS v), (sB v), (sM v), (sG v), (sO v), (sR v)))[i]?)) (pc' := 36) (cs' := 0) (sl' := 0) hf C (fun u => none) (fun u => ((wSH (kD k) aS (r1, r2, r3, (sH v), (sK v), (sP v), (sT v), (sS v), (sB v), (sM v), (sG v), (sO v), (sR v))) ++ (wA (kD k) (aS 4) u))) (fun u hu => gr_V (rest := []) C (cX3_closeGap_ (kL k) C.tr (kD k) N aS (aS 4) (r1, r2, r3, (sH v), (sK v), (sP v), (sT v), (sS v), (sB v), (sM v), (sG v), (sO v), (sR v)) (sH v) p1 u hu) (fun ht => cwV 2 ht gX3_removeBlock_X3_closeGap rfl rfl rfl hdX3_closeGap ⟨(Nat.le_of_ble_eq_true rfl), (Nat.le_of_ble_eq_true rfl)⟩) 0 rfl rfl [0, 4] rfl (by decide) rfl rfl (Nat.le_of_ble_eq_true rfl) dX3_removeBlock_33 ⟨(Nat.le_of_ble_eq_true rfl), (Nat.le_of_ble_eq_true rfl)⟩) [0, 4] [1, 2, 3, 5, 6, 7, 8] rfl rfl (by decide) (by decide) [7, 0, 1, 2, 8, 3, 4, 5, 6] (by decide) (ws' := fun u => (wS (kD k) aS (r1, r2, r3, u, (sK v), (sP v), (sT v), (sS v), (sB v), (sM v), (sG v), (sO v), (sR v)))) (fun u => rfl) rfl rfl rfl (fun u => []) (fun u => rfl) (fun r4 hf => ?_)
  refine g_aload_n (pc := 36) (x := (aS 0)) C dX3_removeBlock_36 rfl ?_
  refine g_aload_n (pc := 37) (x := (aS 0)) C dX3_removeBlock_37 rfl ?_
  refine g_getf (pc := 38) C 0 rfl rfl inX3_removeBlock_X3 4 (by decide) lkX3_removeBlock_24 rfl rfl dX3_removeBlock_38 ?_
  refine g_iload_n (pc := 41) (x := p1) C dX3_removeBlock_41 rfl ?_
  refine g_callW (wr := ([1, 2, 3, 4, 6, 7, 8] : List Nat).filterMap (fun i => (wS (kD k) aS (r1, r2, r3, r4, (sK v), (sP v), (sT v), (sS v), (sB v), (sM v), (sG v), (sO v), (sR v)))[i]?)) (pc' := 45) (cs' := 0) (sl' := 0) hf C (fun u => none) (fun u => ((wSH (kD k) aS (r1, r2, r3, r4, (sK v), (sP v), (sT v), (sS v), (sB v), (sM v), (sG v), (sO v), (sR v))) ++ (wA (kD k) (aS 5) u))) (fun u hu => gr_V (rest := []) C (cX3_closeGap_ (kL k) C.tr (kD k) N aS (aS 5) (r1, r2, r3, r4, (sK v), (sP v), (sT v), (sS v), (sB v), (sM v), (sG v), (sO v), (sR v)) (sK v) p1 u hu) (fun ht => cwV 2 ht gX3_removeBlock_X3_closeGap rfl rfl rfl hdX3_closeGap ⟨(Nat.le_of_ble_eq_true rfl), (Nat.le_of_ble_eq_true rfl)⟩) 0 rfl rfl [0, 5] rfl (by decide) rfl rfl (Nat.le_of_ble_eq_true rfl) dX3_removeBlock_42 ⟨(Nat.le_of_ble_eq_true rfl), (Nat.le_of_ble_eq_true rfl)⟩) [0, 5] [1, 2, 3, 4, 6, 7, 8] rfl rfl (by decide) (by decide) [7, 0, 1, 2, 3, 8, 4, 5, 6] (by decide) (ws' := fun u => (wS (kD k) aS (r1, r2, r3, r4, u, (sP v), (sT v), (sS v), (sB v), (sM v), (sG v), (sO v), (sR v)))) (fun u => rfl) rfl rfl rfl (fun u => []) (fun u => rfl) (fun r5 hf => ?_)
  refine g_aload_n (pc := 45) (x := (aS 0)) C dX3_removeBlock_45 rfl ?_
  refine g_aload_n (pc := 46) (x := (aS 0)) C dX3_removeBlock_46 rfl ?_
  refine g_getf (pc := 47) C 0 rfl rfl inX3_removeBlock_X3 5 (by decide) lkX3_removeBlock_27 rfl rfl dX3_removeBlock_47 ?_
  refine g_iload_n (pc := 50) (x := p1) C dX3_removeBlock_50 rfl ?_
  refine g_callW (wr := ([1, 2, 3, 4, 5, 7, 8] : List Nat).filterMap (fun i => (wS (kD k) aS (r1, r2, r3, r4, r5, (sP v), (sT v), (sS v), (sB v), (sM v), (sG v), (sO v), (sR v)))[i]?)) (pc' := 54) (cs' := 0) (sl' := 0) hf C (fun u => none) (fun u => ((wSH (kD k) aS (r1, r2, r3, r4, r5, (sP v), (sT v), (sS v), (sB v), (sM v), (sG v), (sO v), (sR v))) ++ (wA (kD k) (aS 6) u))) (fun u hu => gr_V (rest := []) C (cX3_closeGap_ (kL k) C.tr (kD k) N aS (aS 6) (r1, r2, r3, r4, r5, (sP v), (sT v), (sS v), (sB v), (sM v), (sG v), (sO v), (sR v)) (sP v) p1 u hu) (fun ht => cwV 2 ht gX3_removeBlock_X3_closeGap rfl rfl rfl hdX3_closeGap ⟨(Nat.le_of_ble_eq_true rfl), (Nat.le_of_ble_eq_true rfl)⟩) 0 rfl rfl [0, 6] rfl (by decide) rfl rfl (Nat.le_of_ble_eq_true rfl) dX3_removeBlock_51 ⟨(Nat.le_of_ble_eq_true rfl), (Nat.le_of_ble_eq_true rfl)⟩) [0, 6] [1, 2, 3, 4, 5, 7, 8] rfl rfl (by decide) (by decide) [7, 0, 1, 2, 3, 4, 8, 5, 6] (by decide) (ws' := fun u => (wS (kD k) aS (r1, r2, r3, r4, r5, u, (sT v), (sS v), (sB v), (sM v), (sG v), (sO v), (sR v)))) (fun u => rfl) rfl rfl rfl (fun u => []) (fun u => rfl) (fun r6 hf => ?_)
  refine g_aload_n (pc := 54) (x := (aS 0)) C dX3_removeBlock_54 rfl ?_
  refine g_aload_n (pc := 55) (x := (aS 0)) C dX3_removeBlock_55 rfl ?_
  refine g_getf (pc := 56) C 0 rfl rfl inX3_removeBlock_X3 6 (by decide) lkX3_removeBlock_30 rfl rfl dX3_removeBlock_56 ?_
  refine g_iload_n (pc := 59) (x := p1) C dX3_removeBlock_59 rfl ?_
  refine g_callW (wr := ([1, 2, 3, 4, 5, 6, 8] : List Nat).filterMap (fun i => (wS (kD k) aS (r1, r2, r3, r4, r5, r6, (sT v), (sS v), (sB v), (sM v), (sG v), (sO v), (sR v)))[i]?)) (pc' := 63) (cs' := 0) (sl' := 0) hf C (fun u => none) (fun u => ((wSH (kD k) aS (r1, r2, r3, r4, r5, r6, (sT v), (sS v), (sB v), (sM v), (sG v), (sO v), (sR v))) ++ (wA (kD k) (aS 7) u))) (fun u hu => gr_V (rest := []) C (cX3_closeGap_ (kL k) C.tr (kD k) N aS (aS 7) (r1, r2, r3, r4, r5, r6, (sT v), (sS v), (sB v), (sM v), (sG v), (sO v), (sR v)) (sT v) p1 u hu) (fun ht => cwV 2 ht gX3_removeBlock_X3_closeGap rfl rfl rfl hdX3_closeGap ⟨(Nat.le_of_ble_eq_true rfl), (Nat.le_of_ble_eq_true rfl)⟩) 0 rfl rfl [0, 7] rfl (by decide) rfl rfl (Nat.le_of_ble_eq_true rfl) dX3_removeBlock_60 ⟨(Nat.le_of_ble_eq_true rfl), (Nat.le_of_ble_eq_true rfl)⟩) [0, 7] [1, 2, 3, 4, 5, 6, 8] rfl rfl (by decide) (by decide) [7, 0, 1, 2, 3, 4, 5, 8, 6] (by decide) (ws' := fun u => (wS (kD k) aS (r1, r2, r3, r4, r5, r6, u, (sS v), (sB v), (sM v), (sG v), (sO v), (sR v)))) (fun u => rfl) rfl rfl rfl (fun u => []) (fun u => rfl) (fun r7 hf => ?_)
  refine g_aload_n (pc := 63) (x := (aS 0)) C dX3_removeBlock_63 rfl ?_
  refine g_dup (pc := 64) C dX3_removeBlock_64 rfl ?_
  refine g_getf (pc := 65) C 0 rfl rfl inX3_removeBlock_X3 8 (by decide) lkX3_removeBlock_50 rfl rfl dX3_removeBlock_65 ?_
  refine g_iconst (pc := 68) (v := 1) C dX3_removeBlock_68 (by decide) ?_
  refine g_isub (pc := 69) (x := (sB v)) (y := 1) C dX3_removeBlock_69 ?_
  refine g_putf (pc := 70) C 0 rfl rfl inX3_removeBlock_X3 tyX3 tyX3_ok nmX3 8 (by decide) lkX3_removeBlock_50 rfl rfl pfX3_8 rfl rfl (Nat.le_of_ble_eq_true rfl) dX3_removeBlock_70 (ws' := (wS (kD k) aS (r1, r2, r3, r4, r5, r6, r7, (sS v), ((sB v) - 1), (sM v), (sG v), (sO v), (sR v)))) rfl ?_
  obtain rfl := Option.some.inj hf
  exact g_vret C E dX3_removeBlock_73 (Nat.le_of_ble_eq_true rfl) (Nat.le_of_ble_eq_true rfl) ⟨rfl, rfl⟩
set_option maxRecDepth 100000 in
set_option maxHeartbeats 4000000 in
theorem cX3_removeBlock_ (l : Launch) (htr : l.stackTraces = false) (D : va_G) (N : Nat) (aS : Nat → Nat) (v : VS) (p1 : Int32) (r : VS) (hf : fX3_removeBlock N v p1 = some r) : Tc l D yX3_removeBlock wsX3_removeBlock rmX3_removeBlock [.ref (aS 0), .int p1] (wS D aS v) (fun rv w => rv = none ∧ w = (wS D aS r)) (fun _ _ => False) 0 0 := Tc_of htr (by decide +kernel) rfl (Nat.le_of_ble_eq_true rfl) (fun k C E hl hD => by subst hD; exact wkX3_removeBlock C N aS v p1 r hf E)
abbrev rmX3_sizesOfErrors : Room := { frames := 2, cells := 0, slots := 0, locals := 42 }
theorem inX3_sizesOfErrors_X3 : ∀ w ∈ wsX30, w ∈ wsX3_sizesOfErrors := by decide +kernel
theorem lkX3_sizesOfErrors_50 : Cond.fieldLink RX3 50 "GaugeBlocks$State" (TX3 8).2.1 (TX3 8).2.2.1 ∈ wsX3_sizesOfErrors := by decide +kernel
theorem hdX3_sizesOfErrors : yX3_sizesOfErrors.cls = RX3 ∧ yX3_sizesOfErrors.cls ≠ "java/lang/invoke/MethodHandle" ∧ yX3_sizesOfErrors.cls ≠ "java/lang/invoke/VarHandle" ∧ (parseMethodDescriptor yX3_sizesOfErrors.desc).map (fun d => d.parameters.length) = some 0 := by decide +kernel
def lX3_sizesOfErrors_4 (N : Nat) (v : VS) : Nat → Int32 → Int32 → Option ((Int32))
  | 0, _, _ => none
  | n + 1, l1, l2 => (if (sB v) ≤ l2 then some l1 else ((fX3_sizeOfError N v l2).bind fun r1 => (lX3_sizesOfErrors_4 N v n (l1 + r1) (l2 + 1))))
set_option maxRecDepth 100000 in
set_option maxHeartbeats 4000000 in
theorem wlX3_sizesOfErrors_4 {k : Kt} (C : gC k cX3_sizesOfErrors 3 RX3 wsX3_sizesOfErrors rmX3_sizesOfErrors "sizesOfErrors") (N : Nat) (aS : Nat → Nat) (v : VS) : ∀ (n : Nat) (l1 : Int32) (l2 : Int32) (u : (Int32)) (hf : lX3_sizesOfErrors_4 N v n l1 l2 = some u) (hk0 : gG k (wS (kD k) aS v) [(1, .int u)] 0 0 26 []), gG k (wS (kD k) aS v) [(0, .ref (aS 0)), (1, .int l1), (2, .int l2)] 0 0 4 [] := by
  intro n
  induction n with
  | zero => intro l1 l2 u hf hk0; rw [lX3_sizesOfErrors_4] at hf; cases hf
  | succ n ih =>
    intro l1 l2 u hf hk0
    rw [lX3_sizesOfErrors_4] at hf
    refine g_iload_n (pc := 4) (x := l2) C dX3_sizesOfErrors_4 rfl ?_
    refine g_aload_n (pc := 5) (x := (aS 0)) C dX3_sizesOfErrors_5 rfl ?_
    refine g_getf (pc := 6) C 0 rfl rfl inX3_sizesOfErrors_X3 8 (by decide) lkX3_sizesOfErrors_50 rfl rfl dX3_sizesOfErrors_6 ?_
    refine g_icmp_ge (pc := 9) (tgt := 26) (x := l2) (y := (sB v)) hf C dX3_sizesOfErrors_9 (by decide) (fun hf => ?_) (fun hf => ?_)
    · obtain rfl := Option.some.inj hf
      refine g_lv [1] (lv' := [(1, .int l1)]) rfl ?_
      exact hk0
    · refine g_iload_n (pc := 12) (x := l1) C dX3_sizesOfErrors_12 rfl ?_
      refine g_aload_n (pc := 13) (x := (aS 0)) C dX3_sizesOfErrors_13 rfl ?_
      refine g_iload_n (pc := 14) (x := l2) C dX3_sizesOfErrors_14 rfl ?_
      refine g_callR (pc' := 18) (cs' := 0) (sl' := 0) hf C (fun u => some (.int u)) (fun u hu => gr_V (rest := [.int l1]) C (cX3_sizeOfError_ (kL k) C.tr (kD k) N aS v l2 u hu) (fun ht => cwV 1 ht gX3_sizesOfErrors_X3_sizeOfError rfl rfl rfl hdX3_sizeOfError ⟨(Nat.le_of_ble_eq_true rfl), (Nat.le_of_ble_eq_true rfl)⟩) 0 rfl rfl [0, 1, 2, 3, 4, 5, 6, 7, 8] rfl (by decide) rfl rfl (Nat.le_of_ble_eq_true rfl) dX3_sizesOfErrors_15 ⟨(Nat.le_of_ble_eq_true rfl), (Nat.le_of_ble_eq_true rfl)⟩) [0, 1, 2, 3, 4, 5, 6, 7, 8] rfl rfl rfl rfl (fun u => [.int u, .int l1]) (fun u => rfl) (fun r1 hf => ?_)
      refine g_iadd (pc := 18) (x := l1) (y := r1) C dX3_sizesOfErrors_18 ?_
      refine g_istore_n (pc := 19) (lv' := [(1, .int (l1 + r1)), (0, .ref (aS 0)), (2, .int l2)]) C dX3_sizesOfErrors_19 (by decide) rfl ?_
      refine g_iinc (pc := 20) (x := l2) (v := (l2 + 1)) (lv' := [(2, .int (l2 + 1)), (1, .int (l1 + r1)), (0, .ref (aS 0))]) C dX3_sizesOfErrors_20 rfl rfl (by decide) rfl ?_
      refine g_goto (pc := 23) (tgt := 4) C dX3_sizesOfErrors_23 (by decide) ?_
      refine g_lv [2, 1, 0] (lv' := [(0, .ref (aS 0)), (1, .int (l1 + r1)), (2, .int (l2 + 1))]) rfl ?_
      exact ih (l1 + r1) (l2 + 1) u hf hk0
def fX3_sizesOfErrors (N : Nat) (v : VS) : Option (Int32) := ((lX3_sizesOfErrors_4 N v N 0 0).bind fun r1 => some r1)
set_option maxRecDepth 100000 in
set_option maxHeartbeats 4000000 in
theorem wkX3_sizesOfErrors {k : Kt} (C : gC k cX3_sizesOfErrors 3 RX3 wsX3_sizesOfErrors rmX3_sizesOfErrors "sizesOfErrors") (N : Nat) (aS : Nat → Nat) (v : VS) (r : Int32) (hf : fX3_sizesOfErrors N v = some r) (E : gE k (wS (kD k) aS v) (fun rv w => rv = some (.int r) ∧ w = (wS (kD k) aS v)) (fun _ _ => False) 0 0 (some .int) []) : gG k (wS (kD k) aS v) [(0, .ref (aS 0))] 0 0 0 [] := by
  unfold fX3_sizesOfErrors at hf
  refine g_iconst (pc := 0) (v := 0) C dX3_sizesOfErrors_0 (by decide) ?_
  refine g_istore_n (pc := 1) (lv' := [(1, .int 0), (0, .ref (aS 0))]) C dX3_sizesOfErrors_1 (by decide) rfl ?_
  refine g_iconst (pc := 2) (v := 0) C dX3_sizesOfErrors_2 (by decide) ?_
  refine g_istore_n (pc := 3) (lv' := [(2, .int 0), (1, .int 0), (0, .ref (aS 0))]) C dX3_sizesOfErrors_3 (by decide) rfl ?_
  obtain ⟨r1, h1, hf⟩ := bd_e hf
  refine g_lv [2, 1, 0] (lv' := [(0, .ref (aS 0)), (1, .int 0), (2, .int 0)]) rfl ?_
  refine wlX3_sizesOfErrors_4 C N aS v N 0 0 r1 h1 ?_
  refine g_iload_n (pc := 26) (x := r1) C dX3_sizesOfErrors_26 rfl ?_
  obtain rfl := Option.some.inj hf
  exact g_iret (v := r1) C E dX3_sizesOfErrors_27 (Nat.le_of_ble_eq_true rfl) (Nat.le_of_ble_eq_true rfl) ⟨rfl, rfl⟩
set_option maxRecDepth 100000 in
set_option maxHeartbeats 4000000 in
theorem cX3_sizesOfErrors_ (l : Launch) (htr : l.stackTraces = false) (D : va_G) (N : Nat) (aS : Nat → Nat) (v : VS) (r : Int32) (hf : fX3_sizesOfErrors N v = some r) : Tc l D yX3_sizesOfErrors wsX3_sizesOfErrors rmX3_sizesOfErrors [.ref (aS 0)] (wS D aS v) (fun rv w => rv = some (.int r) ∧ w = (wS D aS v)) (fun _ _ => False) 0 0 := Tc_of htr (by decide +kernel) rfl (Nat.le_of_ble_eq_true rfl) (fun k C E hl hD => by subst hD; exact wkX3_sizesOfErrors C N aS v r hf E)
abbrev rmX3_gradeOf : Room := { frames := 2, cells := 0, slots := 0, locals := 42 }
theorem hdX3_gradeOf : yX3_gradeOf.cls = RX3 ∧ yX3_gradeOf.cls ≠ "java/lang/invoke/MethodHandle" ∧ yX3_gradeOf.cls ≠ "java/lang/invoke/VarHandle" ∧ (parseMethodDescriptor yX3_gradeOf.desc).map (fun d => d.parameters.length) = some 1 := by decide +kernel
def fX3_gradeOf (N : Nat) (v : VS) (p1 : Int32) : Option (Int32) := ((fX3_sizeOfError N v p1).bind fun r1 => (if (100 : Int32) < r1 then (if (250 : Int32) < r1 then (if (500 : Int32) < r1 then some 3 else some 2) else some 1) else some 0))
set_option maxRecDepth 100000 in
set_option maxHeartbeats 4000000 in
theorem wkX3_gradeOf {k : Kt} (C : gC k cX3_gradeOf 3 RX3 wsX3_gradeOf rmX3_gradeOf "gradeOf") (N : Nat) (aS : Nat → Nat) (v : VS) (p1 : Int32) (r : Int32) (hf : fX3_gradeOf N v p1 = some r) (E : gE k (wS (kD k) aS v) (fun rv w => rv = some (.int r) ∧ w = (wS (kD k) aS v)) (fun _ _ => False) 0 0 (some .int) []) : gG k (wS (kD k) aS v) [(0, .ref (aS 0)), (1, .int p1)] 0 0 0 [] := by
  unfold fX3_gradeOf at hf
  refine g_aload_n (pc := 0) (x := (aS 0)) C dX3_gradeOf_0 rfl ?_
  refine g_iload_n (pc := 1) (x := p1) C dX3_gradeOf_1 rfl ?_
  refine g_callR (pc' := 5) (cs' := 0) (sl' := 0) hf C (fun u => some (.int u)) (fun u hu => gr_V (rest := []) C (cX3_sizeOfError_ (kL k) C.tr (kD k) N aS v p1 u hu) (fun ht => cwV 1 ht gX3_gradeOf_X3_sizeOfError rfl rfl rfl hdX3_sizeOfError ⟨(Nat.le_of_ble_eq_true rfl), (Nat.le_of_ble_eq_true rfl)⟩) 0 rfl rfl [0, 1, 2, 3, 4, 5, 6, 7, 8] rfl (by decide) rfl rfl (Nat.le_of_ble_eq_true rfl) dX3_gradeOf_2 ⟨(Nat.le_of_ble_eq_true rfl), (Nat.le_of_ble_eq_true rfl)⟩) [0, 1, 2, 3, 4, 5, 6, 7, 8] rfl rfl rfl rfl (fun u => [.int u]) (fun u => rfl) (fun r1 hf => ?_)
  refine g_istore_n (pc := 5) (lv' := [(2, .int r1), (0, .ref (aS 0)), (1, .int p1)]) C dX3_gradeOf_5 (by decide) rfl ?_
  refine g_iload_n (pc := 6) (x := r1) C dX3_gradeOf_6 rfl ?_
  refine g_bipush (pc := 7) (v := 100) C dX3_gradeOf_7 (by decide) ?_
  refine g_icmp_gt (pc := 9) (tgt := 14) (x := r1) (y := 100) hf C dX3_gradeOf_9 (by decide) (fun hf => ?_) (fun hf => ?_)
  · refine g_iload_n (pc := 14) (x := r1) C dX3_gradeOf_14 rfl ?_
    refine g_sipush (pc := 15) (v := 250) C dX3_gradeOf_15 (by decide) ?_
    refine g_icmp_gt (pc := 18) (tgt := 23) (x := r1) (y := 250) hf C dX3_gradeOf_18 (by decide) (fun hf => ?_) (fun hf => ?_)
    · refine g_iload_n (pc := 23) (x := r1) C dX3_gradeOf_23 rfl ?_
      refine g_sipush (pc := 24) (v := 500) C dX3_gradeOf_24 (by decide) ?_
      refine g_icmp_gt (pc := 27) (tgt := 34) (x := r1) (y := 500) hf C dX3_gradeOf_27 (by decide) (fun hf => ?_) (fun hf => ?_)
      · refine g_iconst (pc := 34) (v := 3) C dX3_gradeOf_34 (by decide) ?_
        obtain rfl := Option.some.inj hf
        exact g_iret (v := 3) C E dX3_gradeOf_35 (Nat.le_of_ble_eq_true rfl) (Nat.le_of_ble_eq_true rfl) ⟨rfl, rfl⟩
      · refine g_iconst (pc := 30) (v := 2) C dX3_gradeOf_30 (by decide) ?_
        refine g_goto (pc := 31) (tgt := 35) C dX3_gradeOf_31 (by decide) ?_
        obtain rfl := Option.some.inj hf
        exact g_iret (v := 2) C E dX3_gradeOf_35 (Nat.le_of_ble_eq_true rfl) (Nat.le_of_ble_eq_true rfl) ⟨rfl, rfl⟩
    · refine g_iconst (pc := 21) (v := 1) C dX3_gradeOf_21 (by decide) ?_
      obtain rfl := Option.some.inj hf
      exact g_iret (v := 1) C E dX3_gradeOf_22 (Nat.le_of_ble_eq_true rfl) (Nat.le_of_ble_eq_true rfl) ⟨rfl, rfl⟩
  · refine g_iconst (pc := 12) (v := 0) C dX3_gradeOf_12 (by decide) ?_
    obtain rfl := Option.some.inj hf
    exact g_iret (v := 0) C E dX3_gradeOf_13 (Nat.le_of_ble_eq_true rfl) (Nat.le_of_ble_eq_true rfl) ⟨rfl, rfl⟩
set_option maxRecDepth 100000 in
set_option maxHeartbeats 4000000 in
theorem cX3_gradeOf_ (l : Launch) (htr : l.stackTraces = false) (D : va_G) (N : Nat) (aS : Nat → Nat) (v : VS) (p1 : Int32) (r : Int32) (hf : fX3_gradeOf N v p1 = some r) : Tc l D yX3_gradeOf wsX3_gradeOf rmX3_gradeOf [.ref (aS 0), .int p1] (wS D aS v) (fun rv w => rv = some (.int r) ∧ w = (wS D aS v)) (fun _ _ => False) 0 0 := Tc_of htr (by decide +kernel) rfl (Nat.le_of_ble_eq_true rfl) (fun k C E hl hD => by subst hD; exact wkX3_gradeOf C N aS v p1 r hf E)
abbrev rmX3_turnWearIntoDeviation : Room := { frames := 1, cells := 0, slots := 0, locals := 21 }
theorem inX3_turnWearIntoDeviation_X3 : ∀ w ∈ wsX30, w ∈ wsX3_turnWearIntoDeviation := by decide +kernel
theorem lkX3_turnWearIntoDeviation_15 : Cond.fieldLink RX3 15 "GaugeBlocks$State" (TX3 1).2.1 (TX3 1).2.2.1 ∈ wsX3_turnWearIntoDeviation := by decide +kernel
theorem mkX3_turnWearIntoDeviation_86 : Cond.methodLink RX3 86 Lib.Math.max.name ∈ wsX3_turnWearIntoDeviation ∧ Cond.static Lib.Math.max.name ∈ wsX3_turnWearIntoDeviation ∧ Cond.initialized "java/lang/Math" ∈ wsX3_turnWearIntoDeviation ∧ Cond.code Lib.Math.max.name Lib.Math.max.code 2 (some .int) ∈ wsX3_turnWearIntoDeviation := by decide +kernel
theorem lkX3_turnWearIntoDeviation_18 : Cond.fieldLink RX3 18 "GaugeBlocks$State" (TX3 2).2.1 (TX3 2).2.2.1 ∈ wsX3_turnWearIntoDeviation := by decide +kernel
theorem hdX3_turnWearIntoDeviation : yX3_turnWearIntoDeviation.cls = RX3 ∧ yX3_turnWearIntoDeviation.cls ≠ "java/lang/invoke/MethodHandle" ∧ yX3_turnWearIntoDeviation.cls ≠ "java/lang/invoke/VarHandle" ∧ (parseMethodDescriptor yX3_turnWearIntoDeviation.desc).map (fun d => d.parameters.length) = some 1 := by decide +kernel
def fX3_turnWearIntoDeviation (N : Nat) (v : VS) (p1 : Int32) : Option (VS) := ((fX3_errorOf N v p1).bind fun r1 => ck p1 20 (ck p1 20 (some ((sN v), (upd (sD v) (Int32.toNatClampNeg p1) (jmax r1 (-900))), (upd (sW v) (Int32.toNatClampNeg p1) 0), (sH v), (sK v), (sP v), (sT v), (sS v), (sB v), (sM v), (sG v), (sO v), (sR v)))))
set_option maxRecDepth 100000 in
set_option maxHeartbeats 4000000 in
theorem wkX3_turnWearIntoDeviation {k : Kt} (C : gC k cX3_turnWearIntoDeviation 2 RX3 wsX3_turnWearIntoDeviation rmX3_turnWearIntoDeviation "turnWearIntoDeviation") (N : Nat) (aS : Nat → Nat) (v : VS) (p1 : Int32) (r : VS) (hf : fX3_turnWearIntoDeviation N v p1 = some r) (E : gE k (wS (kD k) aS v) (fun rv w => rv = none ∧ w = (wS (kD k) aS r)) (fun _ _ => False) 0 0 none []) : gG k (wS (kD k) aS v) [(0, .ref (aS 0)), (1, .int p1)] 0 0 0 [] := by
  unfold fX3_turnWearIntoDeviation at hf
  refine g_aload_n (pc := 0) (x := (aS 0)) C dX3_turnWearIntoDeviation_0 rfl ?_
  refine g_getf (pc := 1) C 0 rfl rfl inX3_turnWearIntoDeviation_X3 1 (by decide) lkX3_turnWearIntoDeviation_15 rfl rfl dX3_turnWearIntoDeviation_1 ?_
  refine g_iload_n (pc := 4) (x := p1) C dX3_turnWearIntoDeviation_4 rfl ?_
  refine g_aload_n (pc := 5) (x := (aS 0)) C dX3_turnWearIntoDeviation_5 rfl ?_
  refine g_iload_n (pc := 6) (x := p1) C dX3_turnWearIntoDeviation_6 rfl ?_
  refine g_callR (pc' := 10) (cs' := 0) (sl' := 0) hf C (fun u => some (.int u)) (fun u hu => gr_V (rest := [.int p1, .ref (aS 2)]) C (cX3_errorOf_ (kL k) C.tr (kD k) N aS v p1 u hu) (fun ht => cwV 1 ht gX3_turnWearIntoDeviation_X3_errorOf rfl rfl rfl hdX3_errorOf ⟨(Nat.le_of_ble_eq_true rfl), (Nat.le_of_ble_eq_true rfl)⟩) 0 rfl rfl [0, 1, 2, 3, 4, 5, 6, 7, 8] rfl (by decide) rfl rfl (Nat.le_of_ble_eq_true rfl) dX3_turnWearIntoDeviation_7 ⟨(Nat.le_of_ble_eq_true rfl), (Nat.le_of_ble_eq_true rfl)⟩) [0, 1, 2, 3, 4, 5, 6, 7, 8] rfl rfl rfl rfl (fun u => [.int u, .int p1, .ref (aS 2)]) (fun u => rfl) (fun r1 hf => ?_)
  refine g_sipush (pc := 10) (v := (-900)) C dX3_turnWearIntoDeviation_10 (by decide) ?_
  refine g_max (pc := 13) (x := r1) (y := (-900)) C mkX3_turnWearIntoDeviation_86 (Nat.le_of_ble_eq_true rfl) (Nat.le_of_ble_eq_true rfl) (Nat.le_of_ble_eq_true rfl) (Nat.le_of_ble_eq_true rfl) dX3_turnWearIntoDeviation_13 ?_
  refine g_iast (pc := 16) (i := p1) (x := (jmax r1 (-900))) hf C 2 rfl dX3_turnWearIntoDeviation_16 (ws' := (wS (kD k) aS ((sN v), (upd (sD v) (Int32.toNatClampNeg p1) (jmax r1 (-900))), (sW v), (sH v), (sK v), (sP v), (sT v), (sS v), (sB v), (sM v), (sG v), (sO v), (sR v)))) rfl (fun hf => ?_)
  refine g_aload_n (pc := 17) (x := (aS 0)) C dX3_turnWearIntoDeviation_17 rfl ?_
  refine g_getf (pc := 18) C 0 rfl rfl inX3_turnWearIntoDeviation_X3 2 (by decide) lkX3_turnWearIntoDeviation_18 rfl rfl dX3_turnWearIntoDeviation_18 ?_
  refine g_iload_n (pc := 21) (x := p1) C dX3_turnWearIntoDeviation_21 rfl ?_
  refine g_iconst (pc := 22) (v := 0) C dX3_turnWearIntoDeviation_22 (by decide) ?_
  refine g_iast (pc := 23) (i := p1) (x := 0) hf C 3 rfl dX3_turnWearIntoDeviation_23 (ws' := (wS (kD k) aS ((sN v), (upd (sD v) (Int32.toNatClampNeg p1) (jmax r1 (-900))), (upd (sW v) (Int32.toNatClampNeg p1) 0), (sH v), (sK v), (sP v), (sT v), (sS v), (sB v), (sM v), (sG v), (sO v), (sR v)))) rfl (fun hf => ?_)
  obtain rfl := Option.some.inj hf
  exact g_vret C E dX3_turnWearIntoDeviation_24 (Nat.le_of_ble_eq_true rfl) (Nat.le_of_ble_eq_true rfl) ⟨rfl, rfl⟩
set_option maxRecDepth 100000 in
set_option maxHeartbeats 4000000 in
theorem cX3_turnWearIntoDeviation_ (l : Launch) (htr : l.stackTraces = false) (D : va_G) (N : Nat) (aS : Nat → Nat) (v : VS) (p1 : Int32) (r : VS) (hf : fX3_turnWearIntoDeviation N v p1 = some r) : Tc l D yX3_turnWearIntoDeviation wsX3_turnWearIntoDeviation rmX3_turnWearIntoDeviation [.ref (aS 0), .int p1] (wS D aS v) (fun rv w => rv = none ∧ w = (wS D aS r)) (fun _ _ => False) 0 0 := Tc_of htr (by decide +kernel) rfl (Nat.le_of_ble_eq_true rfl) (fun k C E hl hD => by subst hD; exact wkX3_turnWearIntoDeviation C N aS v p1 r hf E)
abbrev rmX3_wearOfAll : Room := { frames := 0, cells := 0, slots := 0, locals := 0 }
theorem inX3_wearOfAll_X3 : ∀ w ∈ wsX30, w ∈ wsX3_wearOfAll := by decide +kernel
theorem lkX3_wearOfAll_50 : Cond.fieldLink RX3 50 "GaugeBlocks$State" (TX3 8).2.1 (TX3 8).2.2.1 ∈ wsX3_wearOfAll := by decide +kernel
theorem lkX3_wearOfAll_18 : Cond.fieldLink RX3 18 "GaugeBlocks$State" (TX3 2).2.1 (TX3 2).2.2.1 ∈ wsX3_wearOfAll := by decide +kernel
theorem hdX3_wearOfAll : yX3_wearOfAll.cls = RX3 ∧ yX3_wearOfAll.cls ≠ "java/lang/invoke/MethodHandle" ∧ yX3_wearOfAll.cls ≠ "java/lang/invoke/VarHandle" ∧ (parseMethodDescriptor yX3_wearOfAll.desc).map (fun d => d.parameters.length) = some 0 := by decide +kernel
def lX3_wearOfAll_4 (N : Nat) (v : VS) : Nat → Int32 → Int32 → Option ((Int32))
  | 0, _, _ => none
  | n + 1, l1, l2 => (if (sB v) ≤ l2 then some l1 else ck l2 20 ((lX3_wearOfAll_4 N v n (l1 + ((sW v) (Int32.toNatClampNeg l2))) (l2 + 1))))
set_option maxRecDepth 100000 in
set_option maxHeartbeats 4000000 in
theorem wlX3_wearOfAll_4 {k : Kt} (C : gC k cX3_wearOfAll 3 RX3 wsX3_wearOfAll rmX3_wearOfAll "wearOfAll") (N : Nat) (aS : Nat → Nat) (v : VS) : ∀ (n : Nat) (l1 : Int32) (l2 : Int32) (u : (Int32)) (hf : lX3_wearOfAll_4 N v n l1 l2 = some u) (hk0 : gG k (wS (kD k) aS v) [(1, .int u)] 0 0 27 []), gG k (wS (kD k) aS v) [(0, .ref (aS 0)), (1, .int l1), (2, .int l2)] 0 0 4 [] := by
  intro n
  induction n with
  | zero => intro l1 l2 u hf hk0; rw [lX3_wearOfAll_4] at hf; cases hf
  | succ n ih =>
    intro l1 l2 u hf hk0
    rw [lX3_wearOfAll_4] at hf
    refine g_iload_n (pc := 4) (x := l2) C dX3_wearOfAll_4 rfl ?_
    refine g_aload_n (pc := 5) (x := (aS 0)) C dX3_wearOfAll_5 rfl ?_
    refine g_getf (pc := 6) C 0 rfl rfl inX3_wearOfAll_X3 8 (by decide) lkX3_wearOfAll_50 rfl rfl dX3_wearOfAll_6 ?_
    refine g_icmp_ge (pc := 9) (tgt := 27) (x := l2) (y := (sB v)) hf C dX3_wearOfAll_9 (by decide) (fun hf => ?_) (fun hf => ?_)
    · obtain rfl := Option.some.inj hf
      refine g_lv [1] (lv' := [(1, .int l1)]) rfl ?_
      exact hk0
    · refine g_iload_n (pc := 12) (x := l1) C dX3_wearOfAll_12 rfl ?_
      refine g_aload_n (pc := 13) (x := (aS 0)) C dX3_wearOfAll_13 rfl ?_
      refine g_getf (pc := 14) C 0 rfl rfl inX3_wearOfAll_X3 2 (by decide) lkX3_wearOfAll_18 rfl rfl dX3_wearOfAll_14 ?_
      refine g_iload_n (pc := 17) (x := l2) C dX3_wearOfAll_17 rfl ?_
      refine g_iald (pc := 18) (i := l2) hf C 3 rfl dX3_wearOfAll_18 (fun hf => ?_)
      refine g_iadd (pc := 19) (x := l1) (y := ((sW v) (Int32.toNatClampNeg l2))) C dX3_wearOfAll_19 ?_
      refine g_istore_n (pc := 20) (lv' := [(1, .int (l1 + ((sW v) (Int32.toNatClampNeg l2)))), (0, .ref (aS 0)), (2, .int l2)]) C dX3_wearOfAll_20 (by decide) rfl ?_
      refine g_iinc (pc := 21) (x := l2) (v := (l2 + 1)) (lv' := [(2, .int (l2 + 1)), (1, .int (l1 + ((sW v) (Int32.toNatClampNeg l2)))), (0, .ref (aS 0))]) C dX3_wearOfAll_21 rfl rfl (by decide) rfl ?_
      refine g_goto (pc := 24) (tgt := 4) C dX3_wearOfAll_24 (by decide) ?_
      refine g_lv [2, 1, 0] (lv' := [(0, .ref (aS 0)), (1, .int (l1 + ((sW v) (Int32.toNatClampNeg l2)))), (2, .int (l2 + 1))]) rfl ?_
      exact ih (l1 + ((sW v) (Int32.toNatClampNeg l2))) (l2 + 1) u hf hk0
def fX3_wearOfAll (N : Nat) (v : VS) : Option (Int32) := ((lX3_wearOfAll_4 N v N 0 0).bind fun r1 => some r1)
set_option maxRecDepth 100000 in
set_option maxHeartbeats 4000000 in
theorem wkX3_wearOfAll {k : Kt} (C : gC k cX3_wearOfAll 3 RX3 wsX3_wearOfAll rmX3_wearOfAll "wearOfAll") (N : Nat) (aS : Nat → Nat) (v : VS) (r : Int32) (hf : fX3_wearOfAll N v = some r) (E : gE k (wS (kD k) aS v) (fun rv w => rv = some (.int r) ∧ w = (wS (kD k) aS v)) (fun _ _ => False) 0 0 (some .int) []) : gG k (wS (kD k) aS v) [(0, .ref (aS 0))] 0 0 0 [] := by
  unfold fX3_wearOfAll at hf
  refine g_iconst (pc := 0) (v := 0) C dX3_wearOfAll_0 (by decide) ?_
  refine g_istore_n (pc := 1) (lv' := [(1, .int 0), (0, .ref (aS 0))]) C dX3_wearOfAll_1 (by decide) rfl ?_
  refine g_iconst (pc := 2) (v := 0) C dX3_wearOfAll_2 (by decide) ?_
  refine g_istore_n (pc := 3) (lv' := [(2, .int 0), (1, .int 0), (0, .ref (aS 0))]) C dX3_wearOfAll_3 (by decide) rfl ?_
  obtain ⟨r1, h1, hf⟩ := bd_e hf
  refine g_lv [2, 1, 0] (lv' := [(0, .ref (aS 0)), (1, .int 0), (2, .int 0)]) rfl ?_
  refine wlX3_wearOfAll_4 C N aS v N 0 0 r1 h1 ?_
  refine g_iload_n (pc := 27) (x := r1) C dX3_wearOfAll_27 rfl ?_
  obtain rfl := Option.some.inj hf
  exact g_iret (v := r1) C E dX3_wearOfAll_28 (Nat.le_of_ble_eq_true rfl) (Nat.le_of_ble_eq_true rfl) ⟨rfl, rfl⟩
set_option maxRecDepth 100000 in
set_option maxHeartbeats 4000000 in
theorem cX3_wearOfAll_ (l : Launch) (htr : l.stackTraces = false) (D : va_G) (N : Nat) (aS : Nat → Nat) (v : VS) (r : Int32) (hf : fX3_wearOfAll N v = some r) : Tc l D yX3_wearOfAll wsX3_wearOfAll rmX3_wearOfAll [.ref (aS 0)] (wS D aS v) (fun rv w => rv = some (.int r) ∧ w = (wS D aS v)) (fun _ _ => False) 0 0 := Tc_of htr (by decide +kernel) rfl (Nat.le_of_ble_eq_true rfl) (fun k C E hl hD => by subst hD; exact wkX3_wearOfAll C N aS v r hf E)
abbrev rmX3_warm : Room := { frames := 1, cells := 0, slots := 0, locals := 15 }
theorem inX3_warm_X3 : ∀ w ∈ wsX30, w ∈ wsX3_warm := by decide +kernel
theorem lkX3_warm_21 : Cond.fieldLink RX3 21 "GaugeBlocks$State" (TX3 3).2.1 (TX3 3).2.2.1 ∈ wsX3_warm := by decide +kernel
theorem mkX3_warm_90 : Cond.methodLink RX3 90 Lib.Math.min.name ∈ wsX3_warm ∧ Cond.static Lib.Math.min.name ∈ wsX3_warm ∧ Cond.initialized "java/lang/Math" ∈ wsX3_warm ∧ Cond.code Lib.Math.min.name Lib.Math.min.code 2 (some .int) ∈ wsX3_warm := by decide +kernel
theorem hdX3_warm : yX3_warm.cls = RX3 ∧ yX3_warm.cls ≠ "java/lang/invoke/MethodHandle" ∧ yX3_warm.cls ≠ "java/lang/invoke/VarHandle" ∧ (parseMethodDescriptor yX3_warm.desc).map (fun d => d.parameters.length) = some 2 := by decide +kernel
def fX3_warm (N : Nat) (v : VS) (p1 : Int32) (p2 : Int32) : Option (VS) := ck p1 20 (ck p1 20 (some ((sN v), (sD v), (sW v), (upd (sH v) (Int32.toNatClampNeg p1) (jmin (((sH v) (Int32.toNatClampNeg p1)) + p2) 1000)), (sK v), (sP v), (sT v), (sS v), (sB v), (sM v), (sG v), (sO v), (sR v))))
set_option maxRecDepth 100000 in
set_option maxHeartbeats 4000000 in
theorem wkX3_warm {k : Kt} (C : gC k cX3_warm 3 RX3 wsX3_warm rmX3_warm "warm") (N : Nat) (aS : Nat → Nat) (v : VS) (p1 : Int32) (p2 : Int32) (r : VS) (hf : fX3_warm N v p1 p2 = some r) (E : gE k (wS (kD k) aS v) (fun rv w => rv = none ∧ w = (wS (kD k) aS r)) (fun _ _ => False) 0 0 none []) : gG k (wS (kD k) aS v) [(0, .ref (aS 0)), (1, .int p1), (2, .int p2)] 0 0 0 [] := by
  unfold fX3_warm at hf
  refine g_aload_n (pc := 0) (x := (aS 0)) C dX3_warm_0 rfl ?_
  refine g_getf (pc := 1) C 0 rfl rfl inX3_warm_X3 3 (by decide) lkX3_warm_21 rfl rfl dX3_warm_1 ?_
  refine g_iload_n (pc := 4) (x := p1) C dX3_warm_4 rfl ?_
  refine g_aload_n (pc := 5) (x := (aS 0)) C dX3_warm_5 rfl ?_
  refine g_getf (pc := 6) C 0 rfl rfl inX3_warm_X3 3 (by decide) lkX3_warm_21 rfl rfl dX3_warm_6 ?_
  refine g_iload_n (pc := 9) (x := p1) C dX3_warm_9 rfl ?_
  refine g_iald (pc := 10) (i := p1) hf C 4 rfl dX3_warm_10 (fun hf => ?_)
  refine g_iload_n (pc := 11) (x := p2) C dX3_warm_11 rfl ?_
  refine g_iadd (pc := 12) (x := ((sH v) (Int32.toNatClampNeg p1))) (y := p2) C dX3_warm_12 ?_
  refine g_sipush (pc := 13) (v := 1000) C dX3_warm_13 (by decide) ?_
  refine g_min (pc := 16) (x := (((sH v) (Int32.toNatClampNeg p1)) + p2)) (y := 1000) C mkX3_warm_90 (Nat.le_of_ble_eq_true rfl) (Nat.le_of_ble_eq_true rfl) (Nat.le_of_ble_eq_true rfl) (Nat.le_of_ble_eq_true rfl) dX3_warm_16 ?_
  refine g_iast (pc := 19) (i := p1) (x := (jmin (((sH v) (Int32.toNatClampNeg p1)) + p2) 1000)) hf C 4 rfl dX3_warm_19 (ws' := (wS (kD k) aS ((sN v), (sD v), (sW v), (upd (sH v) (Int32.toNatClampNeg p1) (jmin (((sH v) (Int32.toNatClampNeg p1)) + p2) 1000)), (sK v), (sP v), (sT v), (sS v), (sB v), (sM v), (sG v), (sO v), (sR v)))) rfl (fun hf => ?_)
  obtain rfl := Option.some.inj hf
  exact g_vret C E dX3_warm_20 (Nat.le_of_ble_eq_true rfl) (Nat.le_of_ble_eq_true rfl) ⟨rfl, rfl⟩
set_option maxRecDepth 100000 in
set_option maxHeartbeats 4000000 in
theorem cX3_warm_ (l : Launch) (htr : l.stackTraces = false) (D : va_G) (N : Nat) (aS : Nat → Nat) (v : VS) (p1 : Int32) (p2 : Int32) (r : VS) (hf : fX3_warm N v p1 p2 = some r) : Tc l D yX3_warm wsX3_warm rmX3_warm [.ref (aS 0), .int p1, .int p2] (wS D aS v) (fun rv w => rv = none ∧ w = (wS D aS r)) (fun _ _ => False) 0 0 := Tc_of htr (by decide +kernel) rfl (Nat.le_of_ble_eq_true rfl) (fun k C E hl hD => by subst hD; exact wkX3_warm C N aS v p1 p2 r hf E)
abbrev rmX3_cooled : Room := { frames := 0, cells := 0, slots := 0, locals := 0 }
theorem hsX3_cooled : yX3_cooled.cls ≠ "java/lang/invoke/MethodHandle" ∧ yX3_cooled.cls ≠ "java/lang/invoke/VarHandle" ∧ (parseMethodDescriptor yX3_cooled.desc).map (fun d => d.parameters.length) = some 2 := by decide +kernel
def lX3_cooled_4 (N : Nat) (l1 : Int32) : Nat → Int32 → Int32 → Option ((Int32))
  | 0, _, _ => none
  | n + 1, l2, l3 => (if l1 ≤ l3 then some l2 else (if l2 ≤ (0 : Int32) then some l2 else (lX3_cooled_4 N l1 n (l2 - ((l2 + 9) / 10)) (l3 + 1))))
set_option maxRecDepth 100000 in
set_option maxHeartbeats 4000000 in
theorem wlX3_cooled_4 {k : Kt} (C : gC k cX3_cooled 4 RX3 wsX3_cooled rmX3_cooled "cooled") (N : Nat) (l1 : Int32) : ∀ (n : Nat) (l2 : Int32) (l3 : Int32) (u : (Int32)) (hf : lX3_cooled_4 N l1 n l2 l3 = some u) (hk0 : gG k [] [(2, .int u)] 0 0 29 []), gG k [] [(1, .int l1), (2, .int l2), (3, .int l3)] 0 0 4 [] := by
  intro n
  induction n with
  | zero => intro l2 l3 u hf hk0; rw [lX3_cooled_4] at hf; cases hf
  | succ n ih =>
    intro l2 l3 u hf hk0
    rw [lX3_cooled_4] at hf
    refine g_iload_n (pc := 4) (x := l3) C dX3_cooled_4 rfl ?_
    refine g_iload_n (pc := 5) (x := l1) C dX3_cooled_5 rfl ?_
    refine g_icmp_ge (pc := 6) (tgt := 29) (x := l3) (y := l1) hf C dX3_cooled_6 (by decide) (fun hf => ?_) (fun hf => ?_)
    · obtain rfl := Option.some.inj hf
      refine g_lv [1] (lv' := [(2, .int l2)]) rfl ?_
      exact hk0
    · refine g_iload_n (pc := 9) (x := l2) C dX3_cooled_9 rfl ?_
      refine g_if_le (pc := 10) (tgt := 29) (x := l2) hf C dX3_cooled_10 (by decide) (fun hf => ?_) (fun hf => ?_)
      · obtain rfl := Option.some.inj hf
        refine g_lv [1] (lv' := [(2, .int l2)]) rfl ?_
        exact hk0
      · refine g_iload_n (pc := 13) (x := l2) C dX3_cooled_13 rfl ?_
        refine g_iload_n (pc := 14) (x := l2) C dX3_cooled_14 rfl ?_
        refine g_bipush (pc := 15) (v := 9) C dX3_cooled_15 (by decide) ?_
        refine g_iadd (pc := 17) (x := l2) (y := 9) C dX3_cooled_17 ?_
        refine g_bipush (pc := 18) (v := 10) C dX3_cooled_18 (by decide) ?_
        refine g_idiv (pc := 20) (x := (l2 + 9)) (y := 10) C dX3_cooled_20 (by decide) ?_
        refine g_isub (pc := 21) (x := l2) (y := ((l2 + 9) / 10)) C dX3_cooled_21 ?_
        refine g_istore_n (pc := 22) (lv' := [(2, .int (l2 - ((l2 + 9) / 10))), (1, .int l1), (3, .int l3)]) C dX3_cooled_22 (by decide) rfl ?_
        refine g_iinc (pc := 23) (x := l3) (v := (l3 + 1)) (lv' := [(3, .int (l3 + 1)), (2, .int (l2 - ((l2 + 9) / 10))), (1, .int l1)]) C dX3_cooled_23 rfl rfl (by decide) rfl ?_
        refine g_goto (pc := 26) (tgt := 4) C dX3_cooled_26 (by decide) ?_
        refine g_lv [2, 1, 0] (lv' := [(1, .int l1), (2, .int (l2 - ((l2 + 9) / 10))), (3, .int (l3 + 1))]) rfl ?_
        exact ih (l2 - ((l2 + 9) / 10)) (l3 + 1) u hf hk0
def fX3_cooled (N : Nat) (p0 : Int32) (p1 : Int32) : Option (Int32) := ((lX3_cooled_4 N p1 N p0 0).bind fun r1 => some r1)
set_option maxRecDepth 100000 in
set_option maxHeartbeats 4000000 in
theorem wkX3_cooled {k : Kt} (C : gC k cX3_cooled 4 RX3 wsX3_cooled rmX3_cooled "cooled") (N : Nat) (p0 : Int32) (p1 : Int32) (r : Int32) (hf : fX3_cooled N p0 p1 = some r) (E : gE k [] (fun rv w => rv = some (.int r) ∧ w = []) (fun _ _ => False) 0 0 (some .int) []) : gG k [] [(0, .int p0), (1, .int p1)] 0 0 0 [] := by
  unfold fX3_cooled at hf
  refine g_iload_n (pc := 0) (x := p0) C dX3_cooled_0 rfl ?_
  refine g_istore_n (pc := 1) (lv' := [(2, .int p0), (0, .int p0), (1, .int p1)]) C dX3_cooled_1 (by decide) rfl ?_
  refine g_iconst (pc := 2) (v := 0) C dX3_cooled_2 (by decide) ?_
  refine g_istore_n (pc := 3) (lv' := [(3, .int 0), (2, .int p0), (0, .int p0), (1, .int p1)]) C dX3_cooled_3 (by decide) rfl ?_
  obtain ⟨r1, h1, hf⟩ := bd_e hf
  refine g_lv [3, 1, 0] (lv' := [(1, .int p1), (2, .int p0), (3, .int 0)]) rfl ?_
  refine wlX3_cooled_4 C N p1 N p0 0 r1 h1 ?_
  refine g_iload_n (pc := 29) (x := r1) C dX3_cooled_29 rfl ?_
  obtain rfl := Option.some.inj hf
  exact g_iret (v := r1) C E dX3_cooled_30 (Nat.le_of_ble_eq_true rfl) (Nat.le_of_ble_eq_true rfl) ⟨rfl, rfl⟩
set_option maxRecDepth 100000 in
set_option maxHeartbeats 4000000 in
theorem cX3_cooled_ (l : Launch) (htr : l.stackTraces = false) (D : va_G) (N : Nat) (p0 : Int32) (p1 : Int32) (r : Int32) (hf : fX3_cooled N p0 p1 = some r) : Tc l D yX3_cooled wsX3_cooled rmX3_cooled [.int p0, .int p1] [] (fun rv w => rv = some (.int r) ∧ w = []) (fun _ _ => False) 0 0 := Tc_of htr (by decide +kernel) rfl (Nat.le_of_ble_eq_true rfl) (fun k C E hl hD => by subst hD; exact wkX3_cooled C N p0 p1 r hf E)
abbrev rmX3_letPass : Room := { frames := 1, cells := 0, slots := 0, locals := 23 }
theorem inX3_letPass_X3 : ∀ w ∈ wsX30, w ∈ wsX3_letPass := by decide +kernel
theorem lkX3_letPass_50 : Cond.fieldLink RX3 50 "GaugeBlocks$State" (TX3 8).2.1 (TX3 8).2.2.1 ∈ wsX3_letPass := by decide +kernel
theorem lkX3_letPass_21 : Cond.fieldLink RX3 21 "GaugeBlocks$State" (TX3 3).2.1 (TX3 3).2.2.1 ∈ wsX3_letPass := by decide +kernel
theorem lkX3_letPass_54 : Cond.fieldLink RX3 54 "GaugeBlocks$State" (TX3 9).2.1 (TX3 9).2.2.1 ∈ wsX3_letPass := by decide +kernel
theorem hdX3_letPass : yX3_letPass.cls = RX3 ∧ yX3_letPass.cls ≠ "java/lang/invoke/MethodHandle" ∧ yX3_letPass.cls ≠ "java/lang/invoke/VarHandle" ∧ (parseMethodDescriptor yX3_letPass.desc).map (fun d => d.parameters.length) = some 1 := by decide +kernel
def lX3_letPass_2 (N : Nat) (l1 : Int32) : Nat → VS → Int32 → Option ((VS))
  | 0, _, _ => none
  | n + 1, v, l2 => (if (sB v) ≤ l2 then some v else ck l2 20 (((fX3_cooled N ((sH v) (Int32.toNatClampNeg l2)) l1).bind fun r1 => ck l2 20 ((lX3_letPass_2 N l1 n ((sN v), (sD v), (sW v), (upd (sH v) (Int32.toNatClampNeg l2) r1), (sK v), (sP v), (sT v), (sS v), (sB v), (sM v), (sG v), (sO v), (sR v)) (l2 + 1))))))
set_option maxRecDepth 100000 in
set_option maxHeartbeats 4000000 in
theorem wlX3_letPass_2 {k : Kt} (C : gC k cX3_letPass 3 RX3 wsX3_letPass rmX3_letPass "letPass") (N : Nat) (aS : Nat → Nat) (l1 : Int32) : ∀ (n : Nat) (v : VS) (l2 : Int32) (u : (VS)) (hf : lX3_letPass_2 N l1 n v l2 = some u) (hk0 : gG k (wS (kD k) aS u) [(0, .ref (aS 0)), (1, .int l1)] 0 0 32 []), gG k (wS (kD k) aS v) [(0, .ref (aS 0)), (1, .int l1), (2, .int l2)] 0 0 2 [] := by
  intro n
  induction n with
  | zero => intro v l2 u hf hk0; rw [lX3_letPass_2] at hf; cases hf
  | succ n ih =>
    intro v l2 u hf hk0
    rw [lX3_letPass_2] at hf
    refine g_iload_n (pc := 2) (x := l2) C dX3_letPass_2 rfl ?_
    refine g_aload_n (pc := 3) (x := (aS 0)) C dX3_letPass_3 rfl ?_
    refine g_getf (pc := 4) C 0 rfl rfl inX3_letPass_X3 8 (by decide) lkX3_letPass_50 rfl rfl dX3_letPass_4 ?_
    refine g_icmp_ge (pc := 7) (tgt := 32) (x := l2) (y := (sB v)) hf C dX3_letPass_7 (by decide) (fun hf => ?_) (fun hf => ?_)
    · obtain rfl := Option.some.inj hf
      refine g_lv [0, 1] (lv' := [(0, .ref (aS 0)), (1, .int l1)]) rfl ?_
      exact hk0
    · refine g_aload_n (pc := 10) (x := (aS 0)) C dX3_letPass_10 rfl ?_
      refine g_getf (pc := 11) C 0 rfl rfl inX3_letPass_X3 3 (by decide) lkX3_letPass_21 rfl rfl dX3_letPass_11 ?_
      refine g_iload_n (pc := 14) (x := l2) C dX3_letPass_14 rfl ?_
      refine g_aload_n (pc := 15) (x := (aS 0)) C dX3_letPass_15 rfl ?_
      refine g_getf (pc := 16) C 0 rfl rfl inX3_letPass_X3 3 (by decide) lkX3_letPass_21 rfl rfl dX3_letPass_16 ?_
      refine g_iload_n (pc := 19) (x := l2) C dX3_letPass_19 rfl ?_
      refine g_iald (pc := 20) (i := l2) hf C 4 rfl dX3_letPass_20 (fun hf => ?_)
      refine g_iload_n (pc := 21) (x := l1) C dX3_letPass_21 rfl ?_
      refine g_callR (pc' := 25) (cs' := 0) (sl' := 0) hf C (fun u => some (.int u)) (fun u hu => gr_S (rest := [.int l2, .ref (aS 4)]) C (cX3_cooled_ (kL k) C.tr (kD k) N ((sH v) (Int32.toNatClampNeg l2)) l1 u hu) (fun ht => va_cwS 2 ht gX3_letPass_X3_cooled rfl rfl rfl hsX3_cooled ⟨(Nat.le_of_ble_eq_true rfl), (Nat.le_of_ble_eq_true rfl)⟩) [] rfl (by decide) rfl rfl (Nat.le_of_ble_eq_true rfl) dX3_letPass_22 ⟨(Nat.le_of_ble_eq_true rfl), (Nat.le_of_ble_eq_true rfl)⟩) [] rfl rfl rfl rfl (fun u => [.int u, .int l2, .ref (aS 4)]) (fun u => rfl) (fun r1 hf => ?_)
      refine g_iast (pc := 25) (i := l2) (x := r1) hf C 4 rfl dX3_letPass_25 (ws' := (wS (kD k) aS ((sN v), (sD v), (sW v), (upd (sH v) (Int32.toNatClampNeg l2) r1), (sK v), (sP v), (sT v), (sS v), (sB v), (sM v), (sG v), (sO v), (sR v)))) rfl (fun hf => ?_)
      refine g_iinc (pc := 26) (x := l2) (v := (l2 + 1)) (lv' := [(2, .int (l2 + 1)), (0, .ref (aS 0)), (1, .int l1)]) C dX3_letPass_26 rfl rfl (by decide) rfl ?_
      refine g_goto (pc := 29) (tgt := 2) C dX3_letPass_29 (by decide) ?_
      refine g_lv [1, 2, 0] (lv' := [(0, .ref (aS 0)), (1, .int l1), (2, .int (l2 + 1))]) rfl ?_
      exact ih ((sN v), (sD v), (sW v), (upd (sH v) (Int32.toNatClampNeg l2) r1), (sK v), (sP v), (sT v), (sS v), (sB v), (sM v), (sG v), (sO v), (sR v)) (l2 + 1) u hf hk0
def fX3_letPass (N : Nat) (v : VS) (p1 : Int32) : Option (VS) := ((lX3_letPass_2 N p1 N v 0).bind fun r1 => some ((sN r1), (sD r1), (sW r1), (sH r1), (sK r1), (sP r1), (sT r1), (sS r1), (sB r1), ((sM r1) + p1), (sG r1), (sO r1), (sR r1)))
set_option maxRecDepth 100000 in
set_option maxHeartbeats 4000000 in
theorem wkX3_letPass {k : Kt} (C : gC k cX3_letPass 3 RX3 wsX3_letPass rmX3_letPass "letPass") (N : Nat) (aS : Nat → Nat) (v : VS) (p1 : Int32) (r : VS) (hf : fX3_letPass N v p1 = some r) (E : gE k (wS (kD k) aS v) (fun rv w => rv = none ∧ w = (wS (kD k) aS r)) (fun _ _ => False) 0 0 none []) : gG k (wS (kD k) aS v) [(0, .ref (aS 0)), (1, .int p1)] 0 0 0 [] := by
  unfold fX3_letPass at hf
  refine g_iconst (pc := 0) (v := 0) C dX3_letPass_0 (by decide) ?_
  refine g_istore_n (pc := 1) (lv' := [(2, .int 0), (0, .ref (aS 0)), (1, .int p1)]) C dX3_letPass_1 (by decide) rfl ?_
  obtain ⟨r1, h1, hf⟩ := bd_e hf
  refine g_lv [1, 2, 0] (lv' := [(0, .ref (aS 0)), (1, .int p1), (2, .int 0)]) rfl ?_
  refine wlX3_letPass_2 C N aS p1 N v 0 r1 h1 ?_
  refine g_aload_n (pc := 32) (x := (aS 0)) C dX3_letPass_32 rfl ?_
  refine g_dup (pc := 33) C dX3_letPass_33 rfl ?_
  refine g_getf (pc := 34) C 0 rfl rfl inX3_letPass_X3 9 (by decide) lkX3_letPass_54 rfl rfl dX3_letPass_34 ?_
  refine g_iload_n (pc := 37) (x := p1) C dX3_letPass_37 rfl ?_
  refine g_iadd (pc := 38) (x := (sM r1)) (y := p1) C dX3_letPass_38 ?_
  refine g_putf (pc := 39) C 0 rfl rfl inX3_letPass_X3 tyX3 tyX3_ok nmX3 9 (by decide) lkX3_letPass_54 rfl rfl pfX3_9 rfl rfl (Nat.le_of_ble_eq_true rfl) dX3_letPass_39 (ws' := (wS (kD k) aS ((sN r1), (sD r1), (sW r1), (sH r1), (sK r1), (sP r1), (sT r1), (sS r1), (sB r1), ((sM r1) + p1), (sG r1), (sO r1), (sR r1)))) rfl ?_
  obtain rfl := Option.some.inj hf
  exact g_vret C E dX3_letPass_42 (Nat.le_of_ble_eq_true rfl) (Nat.le_of_ble_eq_true rfl) ⟨rfl, rfl⟩
set_option maxRecDepth 100000 in
set_option maxHeartbeats 4000000 in
theorem cX3_letPass_ (l : Launch) (htr : l.stackTraces = false) (D : va_G) (N : Nat) (aS : Nat → Nat) (v : VS) (p1 : Int32) (r : VS) (hf : fX3_letPass N v p1 = some r) : Tc l D yX3_letPass wsX3_letPass rmX3_letPass [.ref (aS 0), .int p1] (wS D aS v) (fun rv w => rv = none ∧ w = (wS D aS r)) (fun _ _ => False) 0 0 := Tc_of htr (by decide +kernel) rfl (Nat.le_of_ble_eq_true rfl) (fun k C E hl hD => by subst hD; exact wkX3_letPass C N aS v p1 r hf E)
abbrev rmX3_minutesUntilCool : Room := { frames := 1, cells := 0, slots := 0, locals := 23 }
theorem inX3_minutesUntilCool_X3 : ∀ w ∈ wsX30, w ∈ wsX3_minutesUntilCool := by decide +kernel
theorem lkX3_minutesUntilCool_21 : Cond.fieldLink RX3 21 "GaugeBlocks$State" (TX3 3).2.1 (TX3 3).2.2.1 ∈ wsX3_minutesUntilCool := by decide +kernel
theorem lkX3_minutesUntilCool_41 : Cond.fieldLink RX3 41 "GaugeBlocks$State" (TX3 7).2.1 (TX3 7).2.2.1 ∈ wsX3_minutesUntilCool := by decide +kernel
theorem hdX3_minutesUntilCool : yX3_minutesUntilCool.cls = RX3 ∧ yX3_minutesUntilCool.cls ≠ "java/lang/invoke/MethodHandle" ∧ yX3_minutesUntilCool.cls ≠ "java/lang/invoke/VarHandle" ∧ (parseMethodDescriptor yX3_minutesUntilCool.desc).map (fun d => d.parameters.length) = some 1 := by decide +kernel
def lX3_minutesUntilCool_9 (N : Nat) (v : VS) : Nat → Int32 → Int32 → Option ((Int32))
  | 0, _, _ => none
  | n + 1, l2, l3 => ck 1 4 ((if l2 ≤ ((sS v) (Int32.toNatClampNeg 1)) then some l3 else (if (1000 : Int32) ≤ l3 then some l3 else ((fX3_cooled N l2 1).bind fun r1 => (lX3_minutesUntilCool_9 N v n r1 (l3 + 1))))))
set_option maxRecDepth 100000 in
set_option maxHeartbeats 4000000 in
theorem wlX3_minutesUntilCool_9 {k : Kt} (C : gC k cX3_minutesUntilCool 4 RX3 wsX3_minutesUntilCool rmX3_minutesUntilCool "minutesUntilCool") (N : Nat) (aS : Nat → Nat) (v : VS) : ∀ (n : Nat) (l2 : Int32) (l3 : Int32) (u : (Int32)) (hf : lX3_minutesUntilCool_9 N v n l2 l3 = some u) (hk0 : gG k (wS (kD k) aS v) [(3, .int u)] 0 0 38 []), gG k (wS (kD k) aS v) [(0, .ref (aS 0)), (2, .int l2), (3, .int l3)] 0 0 9 [] := by
  intro n
  induction n with
  | zero => intro l2 l3 u hf hk0; rw [lX3_minutesUntilCool_9] at hf; cases hf
  | succ n ih =>
    intro l2 l3 u hf hk0
    rw [lX3_minutesUntilCool_9] at hf
    refine g_iload_n (pc := 9) (x := l2) C dX3_minutesUntilCool_9 rfl ?_
    refine g_aload_n (pc := 10) (x := (aS 0)) C dX3_minutesUntilCool_10 rfl ?_
    refine g_getf (pc := 11) C 0 rfl rfl inX3_minutesUntilCool_X3 7 (by decide) lkX3_minutesUntilCool_41 rfl rfl dX3_minutesUntilCool_11 ?_
    refine g_iconst (pc := 14) (v := 1) C dX3_minutesUntilCool_14 (by decide) ?_
    refine g_iald (pc := 15) (i := 1) hf C 8 rfl dX3_minutesUntilCool_15 (fun hf => ?_)
    refine g_icmp_le (pc := 16) (tgt := 38) (x := l2) (y := ((sS v) (Int32.toNatClampNeg 1))) hf C dX3_minutesUntilCool_16 (by decide) (fun hf => ?_) (fun hf => ?_)
    · obtain rfl := Option.some.inj hf
      refine g_lv [2] (lv' := [(3, .int l3)]) rfl ?_
      exact hk0
    · refine g_iload_n (pc := 19) (x := l3) C dX3_minutesUntilCool_19 rfl ?_
      refine g_sipush (pc := 20) (v := 1000) C dX3_minutesUntilCool_20 (by decide) ?_
      refine g_icmp_ge (pc := 23) (tgt := 38) (x := l3) (y := 1000) hf C dX3_minutesUntilCool_23 (by decide) (fun hf => ?_) (fun hf => ?_)
      · obtain rfl := Option.some.inj hf
        refine g_lv [2] (lv' := [(3, .int l3)]) rfl ?_
        exact hk0
      · refine g_iload_n (pc := 26) (x := l2) C dX3_minutesUntilCool_26 rfl ?_
        refine g_iconst (pc := 27) (v := 1) C dX3_minutesUntilCool_27 (by decide) ?_
        refine g_callR (pc' := 31) (cs' := 0) (sl' := 0) hf C (fun u => some (.int u)) (fun u hu => gr_S (rest := []) C (cX3_cooled_ (kL k) C.tr (kD k) N l2 1 u hu) (fun ht => va_cwS 2 ht gX3_minutesUntilCool_X3_cooled rfl rfl rfl hsX3_cooled ⟨(Nat.le_of_ble_eq_true rfl), (Nat.le_of_ble_eq_true rfl)⟩) [] rfl (by decide) rfl rfl (Nat.le_of_ble_eq_true rfl) dX3_minutesUntilCool_28 ⟨(Nat.le_of_ble_eq_true rfl), (Nat.le_of_ble_eq_true rfl)⟩) [] rfl rfl rfl rfl (fun u => [.int u]) (fun u => rfl) (fun r1 hf => ?_)
        refine g_istore_n (pc := 31) (lv' := [(2, .int r1), (0, .ref (aS 0)), (3, .int l3)]) C dX3_minutesUntilCool_31 (by decide) rfl ?_
        refine g_iinc (pc := 32) (x := l3) (v := (l3 + 1)) (lv' := [(3, .int (l3 + 1)), (2, .int r1), (0, .ref (aS 0))]) C dX3_minutesUntilCool_32 rfl rfl (by decide) rfl ?_
        refine g_goto (pc := 35) (tgt := 9) C dX3_minutesUntilCool_35 (by decide) ?_
        refine g_lv [2, 1, 0] (lv' := [(0, .ref (aS 0)), (2, .int r1), (3, .int (l3 + 1))]) rfl ?_
        exact ih r1 (l3 + 1) u hf hk0
def fX3_minutesUntilCool (N : Nat) (v : VS) (p1 : Int32) : Option (Int32) := ck p1 20 (((lX3_minutesUntilCool_9 N v N ((sH v) (Int32.toNatClampNeg p1)) 0).bind fun r1 => some r1))
set_option maxRecDepth 100000 in
set_option maxHeartbeats 4000000 in
theorem wkX3_minutesUntilCool {k : Kt} (C : gC k cX3_minutesUntilCool 4 RX3 wsX3_minutesUntilCool rmX3_minutesUntilCool "minutesUntilCool") (N : Nat) (aS : Nat → Nat) (v : VS) (p1 : Int32) (r : Int32) (hf : fX3_minutesUntilCool N v p1 = some r) (E : gE k (wS (kD k) aS v) (fun rv w => rv = some (.int r) ∧ w = (wS (kD k) aS v)) (fun _ _ => False) 0 0 (some .int) []) : gG k (wS (kD k) aS v) [(0, .ref (aS 0)), (1, .int p1)] 0 0 0 [] := by
  unfold fX3_minutesUntilCool at hf
  refine g_aload_n (pc := 0) (x := (aS 0)) C dX3_minutesUntilCool_0 rfl ?_
  refine g_getf (pc := 1) C 0 rfl rfl inX3_minutesUntilCool_X3 3 (by decide) lkX3_minutesUntilCool_21 rfl rfl dX3_minutesUntilCool_1 ?_
  refine g_iload_n (pc := 4) (x := p1) C dX3_minutesUntilCool_4 rfl ?_
  refine g_iald (pc := 5) (i := p1) hf C 4 rfl dX3_minutesUntilCool_5 (fun hf => ?_)
  refine g_istore_n (pc := 6) (lv' := [(2, .int ((sH v) (Int32.toNatClampNeg p1))), (0, .ref (aS 0)), (1, .int p1)]) C dX3_minutesUntilCool_6 (by decide) rfl ?_
  refine g_iconst (pc := 7) (v := 0) C dX3_minutesUntilCool_7 (by decide) ?_
  refine g_istore_n (pc := 8) (lv' := [(3, .int 0), (2, .int ((sH v) (Int32.toNatClampNeg p1))), (0, .ref (aS 0)), (1, .int p1)]) C dX3_minutesUntilCool_8 (by decide) rfl ?_
  obtain ⟨r1, h1, hf⟩ := bd_e hf
  refine g_lv [2, 1, 0] (lv' := [(0, .ref (aS 0)), (2, .int ((sH v) (Int32.toNatClampNeg p1))), (3, .int 0)]) rfl ?_
  refine wlX3_minutesUntilCool_9 C N aS v N ((sH v) (Int32.toNatClampNeg p1)) 0 r1 h1 ?_
  refine g_iload_n (pc := 38) (x := r1) C dX3_minutesUntilCool_38 rfl ?_
  obtain rfl := Option.some.inj hf
  exact g_iret (v := r1) C E dX3_minutesUntilCool_39 (Nat.le_of_ble_eq_true rfl) (Nat.le_of_ble_eq_true rfl) ⟨rfl, rfl⟩
set_option maxRecDepth 100000 in
set_option maxHeartbeats 4000000 in
theorem cX3_minutesUntilCool_ (l : Launch) (htr : l.stackTraces = false) (D : va_G) (N : Nat) (aS : Nat → Nat) (v : VS) (p1 : Int32) (r : Int32) (hf : fX3_minutesUntilCool N v p1 = some r) : Tc l D yX3_minutesUntilCool wsX3_minutesUntilCool rmX3_minutesUntilCool [.ref (aS 0), .int p1] (wS D aS v) (fun rv w => rv = some (.int r) ∧ w = (wS D aS v)) (fun _ _ => False) 0 0 := Tc_of htr (by decide +kernel) rfl (Nat.le_of_ble_eq_true rfl) (fun k C E hl hD => by subst hD; exact wkX3_minutesUntilCool C N aS v p1 r hf E)
abbrev rmX3_greatestWarmth : Room := { frames := 1, cells := 0, slots := 0, locals := 13 }
theorem inX3_greatestWarmth_X3 : ∀ w ∈ wsX30, w ∈ wsX3_greatestWarmth := by decide +kernel
theorem lkX3_greatestWarmth_50 : Cond.fieldLink RX3 50 "GaugeBlocks$State" (TX3 8).2.1 (TX3 8).2.2.1 ∈ wsX3_greatestWarmth := by decide +kernel
theorem lkX3_greatestWarmth_21 : Cond.fieldLink RX3 21 "GaugeBlocks$State" (TX3 3).2.1 (TX3 3).2.2.1 ∈ wsX3_greatestWarmth := by decide +kernel
theorem mkX3_greatestWarmth_86 : Cond.methodLink RX3 86 Lib.Math.max.name ∈ wsX3_greatestWarmth ∧ Cond.static Lib.Math.max.name ∈ wsX3_greatestWarmth ∧ Cond.initialized "java/lang/Math" ∈ wsX3_greatestWarmth ∧ Cond.code Lib.Math.max.name Lib.Math.max.code 2 (some .int) ∈ wsX3_greatestWarmth := by decide +kernel
theorem hdX3_greatestWarmth : yX3_greatestWarmth.cls = RX3 ∧ yX3_greatestWarmth.cls ≠ "java/lang/invoke/MethodHandle" ∧ yX3_greatestWarmth.cls ≠ "java/lang/invoke/VarHandle" ∧ (parseMethodDescriptor yX3_greatestWarmth.desc).map (fun d => d.parameters.length) = some 0 := by decide +kernel
def lX3_greatestWarmth_4 (N : Nat) (v : VS) : Nat → Int32 → Int32 → Option ((Int32))
  | 0, _, _ => none
  | n + 1, l1, l2 => (if (sB v) ≤ l2 then some l1 else ck l2 20 ((lX3_greatestWarmth_4 N v n (jmax l1 ((sH v) (Int32.toNatClampNeg l2))) (l2 + 1))))
set_option maxRecDepth 100000 in
set_option maxHeartbeats 4000000 in
theorem wlX3_greatestWarmth_4 {k : Kt} (C : gC k cX3_greatestWarmth 3 RX3 wsX3_greatestWarmth rmX3_greatestWarmth "greatestWarmth") (N : Nat) (aS : Nat → Nat) (v : VS) : ∀ (n : Nat) (l1 : Int32) (l2 : Int32) (u : (Int32)) (hf : lX3_greatestWarmth_4 N v n l1 l2 = some u) (hk0 : gG k (wS (kD k) aS v) [(1, .int u)] 0 0 29 []), gG k (wS (kD k) aS v) [(0, .ref (aS 0)), (1, .int l1), (2, .int l2)] 0 0 4 [] := by
  intro n
  induction n with
  | zero => intro l1 l2 u hf hk0; rw [lX3_greatestWarmth_4] at hf; cases hf
  | succ n ih =>
    intro l1 l2 u hf hk0
    rw [lX3_greatestWarmth_4] at hf
    refine g_iload_n (pc := 4) (x := l2) C dX3_greatestWarmth_4 rfl ?_
    refine g_aload_n (pc := 5) (x := (aS 0)) C dX3_greatestWarmth_5 rfl ?_
    refine g_getf (pc := 6) C 0 rfl rfl inX3_greatestWarmth_X3 8 (by decide) lkX3_greatestWarmth_50 rfl rfl dX3_greatestWarmth_6 ?_
    refine g_icmp_ge (pc := 9) (tgt := 29) (x := l2) (y := (sB v)) hf C dX3_greatestWarmth_9 (by decide) (fun hf => ?_) (fun hf => ?_)
    · obtain rfl := Option.some.inj hf
      refine g_lv [1] (lv' := [(1, .int l1)]) rfl ?_
      exact hk0
    · refine g_iload_n (pc := 12) (x := l1) C dX3_greatestWarmth_12 rfl ?_
      refine g_aload_n (pc := 13) (x := (aS 0)) C dX3_greatestWarmth_13 rfl ?_
      refine g_getf (pc := 14) C 0 rfl rfl inX3_greatestWarmth_X3 3 (by decide) lkX3_greatestWarmth_21 rfl rfl dX3_greatestWarmth_14 ?_
      refine g_iload_n (pc := 17) (x := l2) C dX3_greatestWarmth_17 rfl ?_
      refine g_iald (pc := 18) (i := l2) hf C 4 rfl dX3_greatestWarmth_18 (fun hf => ?_)
      refine g_max (pc := 19) (x := l1) (y := ((sH v) (Int32.toNatClampNeg l2))) C mkX3_greatestWarmth_86 (Nat.le_of_ble_eq_true rfl) (Nat.le_of_ble_eq_true rfl) (Nat.le_of_ble_eq_true rfl) (Nat.le_of_ble_eq_true rfl) dX3_greatestWarmth_19 ?_
      refine g_istore_n (pc := 22) (lv' := [(1, .int (jmax l1 ((sH v) (Int32.toNatClampNeg l2)))), (0, .ref (aS 0)), (2, .int l2)]) C dX3_greatestWarmth_22 (by decide) rfl ?_
      refine g_iinc (pc := 23) (x := l2) (v := (l2 + 1)) (lv' := [(2, .int (l2 + 1)), (1, .int (jmax l1 ((sH v) (Int32.toNatClampNeg l2)))), (0, .ref (aS 0))]) C dX3_greatestWarmth_23 rfl rfl (by decide) rfl ?_
      refine g_goto (pc := 26) (tgt := 4) C dX3_greatestWarmth_26 (by decide) ?_
      refine g_lv [2, 1, 0] (lv' := [(0, .ref (aS 0)), (1, .int (jmax l1 ((sH v) (Int32.toNatClampNeg l2)))), (2, .int (l2 + 1))]) rfl ?_
      exact ih (jmax l1 ((sH v) (Int32.toNatClampNeg l2))) (l2 + 1) u hf hk0
def fX3_greatestWarmth (N : Nat) (v : VS) : Option (Int32) := ((lX3_greatestWarmth_4 N v N 0 0).bind fun r1 => some r1)
set_option maxRecDepth 100000 in
set_option maxHeartbeats 4000000 in
theorem wkX3_greatestWarmth {k : Kt} (C : gC k cX3_greatestWarmth 3 RX3 wsX3_greatestWarmth rmX3_greatestWarmth "greatestWarmth") (N : Nat) (aS : Nat → Nat) (v : VS) (r : Int32) (hf : fX3_greatestWarmth N v = some r) (E : gE k (wS (kD k) aS v) (fun rv w => rv = some (.int r) ∧ w = (wS (kD k) aS v)) (fun _ _ => False) 0 0 (some .int) []) : gG k (wS (kD k) aS v) [(0, .ref (aS 0))] 0 0 0 [] := by
  unfold fX3_greatestWarmth at hf
  refine g_iconst (pc := 0) (v := 0) C dX3_greatestWarmth_0 (by decide) ?_
  refine g_istore_n (pc := 1) (lv' := [(1, .int 0), (0, .ref (aS 0))]) C dX3_greatestWarmth_1 (by decide) rfl ?_
  refine g_iconst (pc := 2) (v := 0) C dX3_greatestWarmth_2 (by decide) ?_
  refine g_istore_n (pc := 3) (lv' := [(2, .int 0), (1, .int 0), (0, .ref (aS 0))]) C dX3_greatestWarmth_3 (by decide) rfl ?_
  obtain ⟨r1, h1, hf⟩ := bd_e hf
  refine g_lv [2, 1, 0] (lv' := [(0, .ref (aS 0)), (1, .int 0), (2, .int 0)]) rfl ?_
  refine wlX3_greatestWarmth_4 C N aS v N 0 0 r1 h1 ?_
  refine g_iload_n (pc := 29) (x := r1) C dX3_greatestWarmth_29 rfl ?_
  obtain rfl := Option.some.inj hf
  exact g_iret (v := r1) C E dX3_greatestWarmth_30 (Nat.le_of_ble_eq_true rfl) (Nat.le_of_ble_eq_true rfl) ⟨rfl, rfl⟩
set_option maxRecDepth 100000 in
set_option maxHeartbeats 4000000 in
theorem cX3_greatestWarmth_ (l : Launch) (htr : l.stackTraces = false) (D : va_G) (N : Nat) (aS : Nat → Nat) (v : VS) (r : Int32) (hf : fX3_greatestWarmth N v = some r) : Tc l D yX3_greatestWarmth wsX3_greatestWarmth rmX3_greatestWarmth [.ref (aS 0)] (wS D aS v) (fun rv w => rv = some (.int r) ∧ w = (wS D aS v)) (fun _ _ => False) 0 0 := Tc_of htr (by decide +kernel) rfl (Nat.le_of_ble_eq_true rfl) (fun k C E hl hD => by subst hD; exact wkX3_greatestWarmth C N aS v r hf E)
abbrev rmJ6_bitCount_0f7a4 : Room := { frames := 0, cells := 0, slots := 0, locals := 0 }
theorem kcJ6_bitCount_0f7a4_265 : Jvm.Cond.constant RJ6 265 1431655765 ∈ wsJ6_bitCount_0f7a4 := by decide +kernel
theorem kcJ6_bitCount_0f7a4_266 : Jvm.Cond.constant RJ6 266 858993459 ∈ wsJ6_bitCount_0f7a4 := by decide +kernel
theorem kcJ6_bitCount_0f7a4_267 : Jvm.Cond.constant RJ6 267 252645135 ∈ wsJ6_bitCount_0f7a4 := by decide +kernel
theorem hsJ6_bitCount_0f7a4 : yJ6_bitCount_0f7a4.cls ≠ "java/lang/invoke/MethodHandle" ∧ yJ6_bitCount_0f7a4.cls ≠ "java/lang/invoke/VarHandle" ∧ (parseMethodDescriptor yJ6_bitCount_0f7a4.desc).map (fun d => d.parameters.length) = some 1 := by decide +kernel
def fJ6_bitCount_0f7a4 (N : Nat) (p0 : Int32) : Option (Int32) := some ((((((((p0 - (((Int32.toUInt32 p0 >>> (Int32.toUInt32 1 &&& Int32.toUInt32 31)).toInt32) &&& 1431655765)) &&& 858993459) + (((Int32.toUInt32 (p0 - (((Int32.toUInt32 p0 >>> (Int32.toUInt32 1 &&& Int32.toUInt32 31)).toInt32) &&& 1431655765)) >>> (Int32.toUInt32 2 &&& Int32.toUInt32 31)).toInt32) &&& 858993459)) + ((Int32.toUInt32 (((p0 - (((Int32.toUInt32 p0 >>> (Int32.toUInt32 1 &&& Int32.toUInt32 31)).toInt32) &&& 1431655765)) &&& 858993459) + (((Int32.toUInt32 (p0 - (((Int32.toUInt32 p0 >>> (Int32.toUInt32 1 &&& Int32.toUInt32 31)).toInt32) &&& 1431655765)) >>> (Int32.toUInt32 2 &&& Int32.toUInt32 31)).toInt32) &&& 858993459)) >>> (Int32.toUInt32 4 &&& Int32.toUInt32 31)).toInt32)) &&& 252645135) + ((Int32.toUInt32 (((((p0 - (((Int32.toUInt32 p0 >>> (Int32.toUInt32 1 &&& Int32.toUInt32 31)).toInt32) &&& 1431655765)) &&& 858993459) + (((Int32.toUInt32 (p0 - (((Int32.toUInt32 p0 >>> (Int32.toUInt32 1 &&& Int32.toUInt32 31)).toInt32) &&& 1431655765)) >>> (Int32.toUInt32 2 &&& Int32.toUInt32 31)).toInt32) &&& 858993459)) + ((Int32.toUInt32 (((p0 - (((Int32.toUInt32 p0 >>> (Int32.toUInt32 1 &&& Int32.toUInt32 31)).toInt32) &&& 1431655765)) &&& 858993459) + (((Int32.toUInt32 (p0 - (((Int32.toUInt32 p0 >>> (Int32.toUInt32 1 &&& Int32.toUInt32 31)).toInt32) &&& 1431655765)) >>> (Int32.toUInt32 2 &&& Int32.toUInt32 31)).toInt32) &&& 858993459)) >>> (Int32.toUInt32 4 &&& Int32.toUInt32 31)).toInt32)) &&& 252645135) >>> (Int32.toUInt32 8 &&& Int32.toUInt32 31)).toInt32)) + ((Int32.toUInt32 ((((((p0 - (((Int32.toUInt32 p0 >>> (Int32.toUInt32 1 &&& Int32.toUInt32 31)).toInt32) &&& 1431655765)) &&& 858993459) + (((Int32.toUInt32 (p0 - (((Int32.toUInt32 p0 >>> (Int32.toUInt32 1 &&& Int32.toUInt32 31)).toInt32) &&& 1431655765)) >>> (Int32.toUInt32 2 &&& Int32.toUInt32 31)).toInt32) &&& 858993459)) + ((Int32.toUInt32 (((p0 - (((Int32.toUInt32 p0 >>> (Int32.toUInt32 1 &&& Int32.toUInt32 31)).toInt32) &&& 1431655765)) &&& 858993459) + (((Int32.toUInt32 (p0 - (((Int32.toUInt32 p0 >>> (Int32.toUInt32 1 &&& Int32.toUInt32 31)).toInt32) &&& 1431655765)) >>> (Int32.toUInt32 2 &&& Int32.toUInt32 31)).toInt32) &&& 858993459)) >>> (Int32.toUInt32 4 &&& Int32.toUInt32 31)).toInt32)) &&& 252645135) + ((Int32.toUInt32 (((((p0 - (((Int32.toUInt32 p0 >>> (Int32.toUInt32 1 &&& Int32.toUInt32 31)).toInt32) &&& 1431655765)) &&& 858993459) + (((Int32.toUInt32 (p0 - (((Int32.toUInt32 p0 >>> (Int32.toUInt32 1 &&& Int32.toUInt32 31)).toInt32) &&& 1431655765)) >>> (Int32.toUInt32 2 &&& Int32.toUInt32 31)).toInt32) &&& 858993459)) + ((Int32.toUInt32 (((p0 - (((Int32.toUInt32 p0 >>> (Int32.toUInt32 1 &&& Int32.toUInt32 31)).toInt32) &&& 1431655765)) &&& 858993459) + (((Int32.toUInt32 (p0 - (((Int32.toUInt32 p0 >>> (Int32.toUInt32 1 &&& Int32.toUInt32 31)).toInt32) &&& 1431655765)) >>> (Int32.toUInt32 2 &&& Int32.toUInt32 31)).toInt32) &&& 858993459)) >>> (Int32.toUInt32 4 &&& Int32.toUInt32 31)).toInt32)) &&& 252645135) >>> (Int32.toUInt32 8 &&& Int32.toUInt32 31)).toInt32)) >>> (Int32.toUInt32 16 &&& Int32.toUInt32 31)).toInt32)) &&& 63)
set_option maxRecDepth 100000 in
set_option maxHeartbeats 4000000 in
theorem wkJ6_bitCount_0f7a4 {k : Kt} (C : gC k cJ6_bitCount_0f7a4 1 RJ6 wsJ6_bitCount_0f7a4 rmJ6_bitCount_0f7a4 "bitCount") (N : Nat) (p0 : Int32) (r : Int32) (hf : fJ6_bitCount_0f7a4 N p0 = some r) (E : gE k [] (fun rv w => rv = some (.int r) ∧ w = []) (fun _ _ => False) 0 0 (some .int) []) : gG k [] [(0, .int p0)] 0 0 0 [] := by
  unfold fJ6_bitCount_0f7a4 at hf
  refine g_iload_n (pc := 0) (x := p0) C dJ6_bitCount_0f7a4_0 rfl ?_
  refine g_iload_n (pc := 1) (x := p0) C dJ6_bitCount_0f7a4_1 rfl ?_
  refine g_iconst (pc := 2) (v := 1) C dJ6_bitCount_0f7a4_2 (by decide) ?_
  refine g_iushr (pc := 3) (x := p0) (y := 1) C dJ6_bitCount_0f7a4_3 ?_
  refine g_ldcw (pc := 4) (v := 1431655765) C dJ6_bitCount_0f7a4_4 kcJ6_bitCount_0f7a4_265 ?_
  refine g_iand (pc := 7) (x := ((Int32.toUInt32 p0 >>> (Int32.toUInt32 1 &&& Int32.toUInt32 31)).toInt32)) (y := 1431655765) C dJ6_bitCount_0f7a4_7 ?_
  refine g_isub (pc := 8) (x := p0) (y := (((Int32.toUInt32 p0 >>> (Int32.toUInt32 1 &&& Int32.toUInt32 31)).toInt32) &&& 1431655765)) C dJ6_bitCount_0f7a4_8 ?_
  refine g_istore_n (pc := 9) (lv' := [(0, .int (p0 - (((Int32.toUInt32 p0 >>> (Int32.toUInt32 1 &&& Int32.toUInt32 31)).toInt32) &&& 1431655765)))]) C dJ6_bitCount_0f7a4_9 (by decide) rfl ?_
  refine g_iload_n (pc := 10) (x := (p0 - (((Int32.toUInt32 p0 >>> (Int32.toUInt32 1 &&& Int32.toUInt32 31)).toInt32) &&& 1431655765))) C dJ6_bitCount_0f7a4_10 rfl ?_
  refine g_ldcw (pc := 11) (v := 858993459) C dJ6_bitCount_0f7a4_11 kcJ6_bitCount_0f7a4_266 ?_
  refine g_iand (pc := 14) (x := (p0 - (((Int32.toUInt32 p0 >>> (Int32.toUInt32 1 &&& Int32.toUInt32 31)).toInt32) &&& 1431655765))) (y := 858993459) C dJ6_bitCount_0f7a4_14 ?_
  refine g_iload_n (pc := 15) (x := (p0 - (((Int32.toUInt32 p0 >>> (Int32.toUInt32 1 &&& Int32.toUInt32 31)).toInt32) &&& 1431655765))) C dJ6_bitCount_0f7a4_15 rfl ?_
  refine g_iconst (pc := 16) (v := 2) C dJ6_bitCount_0f7a4_16 (by decide) ?_
  refine g_iushr (pc := 17) (x := (p0 - (((Int32.toUInt32 p0 >>> (Int32.toUInt32 1 &&& Int32.toUInt32 31)).toInt32) &&& 1431655765))) (y := 2) C dJ6_bitCount_0f7a4_17 ?_
  refine g_ldcw (pc := 18) (v := 858993459) C dJ6_bitCount_0f7a4_18 kcJ6_bitCount_0f7a4_266 ?_
  refine g_iand (pc := 21) (x := ((Int32.toUInt32 (p0 - (((Int32.toUInt32 p0 >>> (Int32.toUInt32 1 &&& Int32.toUInt32 31)).toInt32) &&& 1431655765)) >>> (Int32.toUInt32 2 &&& Int32.toUInt32 31)).toInt32)) (y := 858993459) C dJ6_bitCount_0f7a4_21 ?_
  refine g_iadd (pc := 22) (x := ((p0 - (((Int32.toUInt32 p0 >>> (Int32.toUInt32 1 &&& Int32.toUInt32 31)).toInt32) &&& 1431655765)) &&& 858993459)) (y := (((Int32.toUInt32 (p0 - (((Int32.toUInt32 p0 >>> (Int32.toUInt32 1 &&& Int32.toUInt32 31)).toInt32) &&& 1431655765)) >>> (Int32.toUInt32 2 &&& Int32.toUInt32 31)).toInt32) &&& 858993459)) C dJ6_bitCount_0f7a4_22 ?_
  refine g_istore_n (pc := 23) (lv' := [(0, .int (((p0 - (((Int32.toUInt32 p0 >>> (Int32.toUInt32 1 &&& Int32.toUInt32 31)).toInt32) &&& 1431655765)) &&& 858993459) + (((Int32.toUInt32 (p0 - (((Int32.toUInt32 p0 >>> (Int32.toUInt32 1 &&& Int32.toUInt32 31)).toInt32) &&& 1431655765)) >>> (Int32.toUInt32 2 &&& Int32.toUInt32 31)).toInt32) &&& 858993459)))]) C dJ6_bitCount_0f7a4_23 (by decide) rfl ?_
  refine g_iload_n (pc := 24) (x := (((p0 - (((Int32.toUInt32 p0 >>> (Int32.toUInt32 1 &&& Int32.toUInt32 31)).toInt32) &&& 1431655765)) &&& 858993459) + (((Int32.toUInt32 (p0 - (((Int32.toUInt32 p0 >>> (Int32.toUInt32 1 &&& Int32.toUInt32 31)).toInt32) &&& 1431655765)) >>> (Int32.toUInt32 2 &&& Int32.toUInt32 31)).toInt32) &&& 858993459))) C dJ6_bitCount_0f7a4_24 rfl ?_
  refine g_iload_n (pc := 25) (x := (((p0 - (((Int32.toUInt32 p0 >>> (Int32.toUInt32 1 &&& Int32.toUInt32 31)).toInt32) &&& 1431655765)) &&& 858993459) + (((Int32.toUInt32 (p0 - (((Int32.toUInt32 p0 >>> (Int32.toUInt32 1 &&& Int32.toUInt32 31)).toInt32) &&& 1431655765)) >>> (Int32.toUInt32 2 &&& Int32.toUInt32 31)).toInt32) &&& 858993459))) C dJ6_bitCount_0f7a4_25 rfl ?_
  refine g_iconst (pc := 26) (v := 4) C dJ6_bitCount_0f7a4_26 (by decide) ?_
  refine g_iushr (pc := 27) (x := (((p0 - (((Int32.toUInt32 p0 >>> (Int32.toUInt32 1 &&& Int32.toUInt32 31)).toInt32) &&& 1431655765)) &&& 858993459) + (((Int32.toUInt32 (p0 - (((Int32.toUInt32 p0 >>> (Int32.toUInt32 1 &&& Int32.toUInt32 31)).toInt32) &&& 1431655765)) >>> (Int32.toUInt32 2 &&& Int32.toUInt32 31)).toInt32) &&& 858993459))) (y := 4) C dJ6_bitCount_0f7a4_27 ?_
  refine g_iadd (pc := 28) (x := (((p0 - (((Int32.toUInt32 p0 >>> (Int32.toUInt32 1 &&& Int32.toUInt32 31)).toInt32) &&& 1431655765)) &&& 858993459) + (((Int32.toUInt32 (p0 - (((Int32.toUInt32 p0 >>> (Int32.toUInt32 1 &&& Int32.toUInt32 31)).toInt32) &&& 1431655765)) >>> (Int32.toUInt32 2 &&& Int32.toUInt32 31)).toInt32) &&& 858993459))) (y := ((Int32.toUInt32 (((p0 - (((Int32.toUInt32 p0 >>> (Int32.toUInt32 1 &&& Int32.toUInt32 31)).toInt32) &&& 1431655765)) &&& 858993459) + (((Int32.toUInt32 (p0 - (((Int32.toUInt32 p0 >>> (Int32.toUInt32 1 &&& Int32.toUInt32 31)).toInt32) &&& 1431655765)) >>> (Int32.toUInt32 2 &&& Int32.toUInt32 31)).toInt32) &&& 858993459)) >>> (Int32.toUInt32 4 &&& Int32.toUInt32 31)).toInt32)) C dJ6_bitCount_0f7a4_28 ?_
  refine g_ldcw (pc := 29) (v := 252645135) C dJ6_bitCount_0f7a4_29 kcJ6_bitCount_0f7a4_267 ?_
  refine g_iand (pc := 32) (x := ((((p0 - (((Int32.toUInt32 p0 >>> (Int32.toUInt32 1 &&& Int32.toUInt32 31)).toInt32) &&& 1431655765)) &&& 858993459) + (((Int32.toUInt32 (p0 - (((Int32.toUInt32 p0 >>> (Int32.toUInt32 1 &&& Int32.toUInt32 31)).toInt32) &&& 1431655765)) >>> (Int32.toUInt32 2 &&& Int32.toUInt32 31)).toInt32) &&& 858993459)) + ((Int32.toUInt32 (((p0 - (((Int32.toUInt32 p0 >>> (Int32.toUInt32 1 &&& Int32.toUInt32 31)).toInt32) &&& 1431655765)) &&& 858993459) + (((Int32.toUInt32 (p0 - (((Int32.toUInt32 p0 >>> (Int32.toUInt32 1 &&& Int32.toUInt32 31)).toInt32) &&& 1431655765)) >>> (Int32.toUInt32 2 &&& Int32.toUInt32 31)).toInt32) &&& 858993459)) >>> (Int32.toUInt32 4 &&& Int32.toUInt32 31)).toInt32))) (y := 252645135) C dJ6_bitCount_0f7a4_32 ?_
  refine g_istore_n (pc := 33) (lv' := [(0, .int (((((p0 - (((Int32.toUInt32 p0 >>> (Int32.toUInt32 1 &&& Int32.toUInt32 31)).toInt32) &&& 1431655765)) &&& 858993459) + (((Int32.toUInt32 (p0 - (((Int32.toUInt32 p0 >>> (Int32.toUInt32 1 &&& Int32.toUInt32 31)).toInt32) &&& 1431655765)) >>> (Int32.toUInt32 2 &&& Int32.toUInt32 31)).toInt32) &&& 858993459)) + ((Int32.toUInt32 (((p0 - (((Int32.toUInt32 p0 >>> (Int32.toUInt32 1 &&& Int32.toUInt32 31)).toInt32) &&& 1431655765)) &&& 858993459) + (((Int32.toUInt32 (p0 - (((Int32.toUInt32 p0 >>> (Int32.toUInt32 1 &&& Int32.toUInt32 31)).toInt32) &&& 1431655765)) >>> (Int32.toUInt32 2 &&& Int32.toUInt32 31)).toInt32) &&& 858993459)) >>> (Int32.toUInt32 4 &&& Int32.toUInt32 31)).toInt32)) &&& 252645135))]) C dJ6_bitCount_0f7a4_33 (by decide) rfl ?_
  refine g_iload_n (pc := 34) (x := (((((p0 - (((Int32.toUInt32 p0 >>> (Int32.toUInt32 1 &&& Int32.toUInt32 31)).toInt32) &&& 1431655765)) &&& 858993459) + (((Int32.toUInt32 (p0 - (((Int32.toUInt32 p0 >>> (Int32.toUInt32 1 &&& Int32.toUInt32 31)).toInt32) &&& 1431655765)) >>> (Int32.toUInt32 2 &&& Int32.toUInt32 31)).toInt32) &&& 858993459)) + ((Int32.toUInt32 (((p0 - (((Int32.toUInt32 p0 >>> (Int32.toUInt32 1 &&& Int32.toUInt32 31)).toInt32) &&& 1431655765)) &&& 858993459) + (((Int32.toUInt32 (p0 - (((Int32.toUInt32 p0 >>> (Int32.toUInt32 1 &&& Int32.toUInt32 31)).toInt32) &&& 1431655765)) >>> (Int32.toUInt32 2 &&& Int32.toUInt32 31)).toInt32) &&& 858993459)) >>> (Int32.toUInt32 4 &&& Int32.toUInt32 31)).toInt32)) &&& 252645135)) C dJ6_bitCount_0f7a4_34 rfl ?_
  refine g_iload_n (pc := 35) (x := (((((p0 - (((Int32.toUInt32 p0 >>> (Int32.toUInt32 1 &&& Int32.toUInt32 31)).toInt32) &&& 1431655765)) &&& 858993459) + (((Int32.toUInt32 (p0 - (((Int32.toUInt32 p0 >>> (Int32.toUInt32 1 &&& Int32.toUInt32 31)).toInt32) &&& 1431655765)) >>> (Int32.toUInt32 2 &&& Int32.toUInt32 31)).toInt32) &&& 858993459)) + ((Int32.toUInt32 (((p0 - (((Int32.toUInt32 p0 >>> (Int32.toUInt32 1 &&& Int32.toUInt32 31)).toInt32) &&& 1431655765)) &&& 858993459) + (((Int32.toUInt32 (p0 - (((Int32.toUInt32 p0 >>> (Int32.toUInt32 1 &&& Int32.toUInt32 31)).toInt32) &&& 1431655765)) >>> (Int32.toUInt32 2 &&& Int32.toUInt32 31)).toInt32) &&& 858993459)) >>> (Int32.toUInt32 4 &&& Int32.toUInt32 31)).toInt32)) &&& 252645135)) C dJ6_bitCount_0f7a4_35 rfl ?_
  refine g_bipush (pc := 36) (v := 8) C dJ6_bitCount_0f7a4_36 (by decide) ?_
  refine g_iushr (pc := 38) (x := (((((p0 - (((Int32.toUInt32 p0 >>> (Int32.toUInt32 1 &&& Int32.toUInt32 31)).toInt32) &&& 1431655765)) &&& 858993459) + (((Int32.toUInt32 (p0 - (((Int32.toUInt32 p0 >>> (Int32.toUInt32 1 &&& Int32.toUInt32 31)).toInt32) &&& 1431655765)) >>> (Int32.toUInt32 2 &&& Int32.toUInt32 31)).toInt32) &&& 858993459)) + ((Int32.toUInt32 (((p0 - (((Int32.toUInt32 p0 >>> (Int32.toUInt32 1 &&& Int32.toUInt32 31)).toInt32) &&& 1431655765)) &&& 858993459) + (((Int32.toUInt32 (p0 - (((Int32.toUInt32 p0 >>> (Int32.toUInt32 1 &&& Int32.toUInt32 31)).toInt32) &&& 1431655765)) >>> (Int32.toUInt32 2 &&& Int32.toUInt32 31)).toInt32) &&& 858993459)) >>> (Int32.toUInt32 4 &&& Int32.toUInt32 31)).toInt32)) &&& 252645135)) (y := 8) C dJ6_bitCount_0f7a4_38 ?_
  refine g_iadd (pc := 39) (x := (((((p0 - (((Int32.toUInt32 p0 >>> (Int32.toUInt32 1 &&& Int32.toUInt32 31)).toInt32) &&& 1431655765)) &&& 858993459) + (((Int32.toUInt32 (p0 - (((Int32.toUInt32 p0 >>> (Int32.toUInt32 1 &&& Int32.toUInt32 31)).toInt32) &&& 1431655765)) >>> (Int32.toUInt32 2 &&& Int32.toUInt32 31)).toInt32) &&& 858993459)) + ((Int32.toUInt32 (((p0 - (((Int32.toUInt32 p0 >>> (Int32.toUInt32 1 &&& Int32.toUInt32 31)).toInt32) &&& 1431655765)) &&& 858993459) + (((Int32.toUInt32 (p0 - (((Int32.toUInt32 p0 >>> (Int32.toUInt32 1 &&& Int32.toUInt32 31)).toInt32) &&& 1431655765)) >>> (Int32.toUInt32 2 &&& Int32.toUInt32 31)).toInt32) &&& 858993459)) >>> (Int32.toUInt32 4 &&& Int32.toUInt32 31)).toInt32)) &&& 252645135)) (y := ((Int32.toUInt32 (((((p0 - (((Int32.toUInt32 p0 >>> (Int32.toUInt32 1 &&& Int32.toUInt32 31)).toInt32) &&& 1431655765)) &&& 858993459) + (((Int32.toUInt32 (p0 - (((Int32.toUInt32 p0 >>> (Int32.toUInt32 1 &&& Int32.toUInt32 31)).toInt32) &&& 1431655765)) >>> (Int32.toUInt32 2 &&& Int32.toUInt32 31)).toInt32) &&& 858993459)) + ((Int32.toUInt32 (((p0 - (((Int32.toUInt32 p0 >>> (Int32.toUInt32 1 &&& Int32.toUInt32 31)).toInt32) &&& 1431655765)) &&& 858993459) + (((Int32.toUInt32 (p0 - (((Int32.toUInt32 p0 >>> (Int32.toUInt32 1 &&& Int32.toUInt32 31)).toInt32) &&& 1431655765)) >>> (Int32.toUInt32 2 &&& Int32.toUInt32 31)).toInt32) &&& 858993459)) >>> (Int32.toUInt32 4 &&& Int32.toUInt32 31)).toInt32)) &&& 252645135) >>> (Int32.toUInt32 8 &&& Int32.toUInt32 31)).toInt32)) C dJ6_bitCount_0f7a4_39 ?_
  refine g_istore_n (pc := 40) (lv' := [(0, .int ((((((p0 - (((Int32.toUInt32 p0 >>> (Int32.toUInt32 1 &&& Int32.toUInt32 31)).toInt32) &&& 1431655765)) &&& 858993459) + (((Int32.toUInt32 (p0 - (((Int32.toUInt32 p0 >>> (Int32.toUInt32 1 &&& Int32.toUInt32 31)).toInt32) &&& 1431655765)) >>> (Int32.toUInt32 2 &&& Int32.toUInt32 31)).toInt32) &&& 858993459)) + ((Int32.toUInt32 (((p0 - (((Int32.toUInt32 p0 >>> (Int32.toUInt32 1 &&& Int32.toUInt32 31)).toInt32) &&& 1431655765)) &&& 858993459) + (((Int32.toUInt32 (p0 - (((Int32.toUInt32 p0 >>> (Int32.toUInt32 1 &&& Int32.toUInt32 31)).toInt32) &&& 1431655765)) >>> (Int32.toUInt32 2 &&& Int32.toUInt32 31)).toInt32) &&& 858993459)) >>> (Int32.toUInt32 4 &&& Int32.toUInt32 31)).toInt32)) &&& 252645135) + ((Int32.toUInt32 (((((p0 - (((Int32.toUInt32 p0 >>> (Int32.toUInt32 1 &&& Int32.toUInt32 31)).toInt32) &&& 1431655765)) &&& 858993459) + (((Int32.toUInt32 (p0 - (((Int32.toUInt32 p0 >>> (Int32.toUInt32 1 &&& Int32.toUInt32 31)).toInt32) &&& 1431655765)) >>> (Int32.toUInt32 2 &&& Int32.toUInt32 31)).toInt32) &&& 858993459)) + ((Int32.toUInt32 (((p0 - (((Int32.toUInt32 p0 >>> (Int32.toUInt32 1 &&& Int32.toUInt32 31)).toInt32) &&& 1431655765)) &&& 858993459) + (((Int32.toUInt32 (p0 - (((Int32.toUInt32 p0 >>> (Int32.toUInt32 1 &&& Int32.toUInt32 31)).toInt32) &&& 1431655765)) >>> (Int32.toUInt32 2 &&& Int32.toUInt32 31)).toInt32) &&& 858993459)) >>> (Int32.toUInt32 4 &&& Int32.toUInt32 31)).toInt32)) &&& 252645135) >>> (Int32.toUInt32 8 &&& Int32.toUInt32 31)).toInt32)))]) C dJ6_bitCount_0f7a4_40 (by decide) rfl ?_
  refine g_iload_n (pc := 41) (x := ((((((p0 - (((Int32.toUInt32 p0 >>> (Int32.toUInt32 1 &&& Int32.toUInt32 31)).toInt32) &&& 1431655765)) &&& 858993459) + (((Int32.toUInt32 (p0 - (((Int32.toUInt32 p0 >>> (Int32.toUInt32 1 &&& Int32.toUInt32 31)).toInt32) &&& 1431655765)) >>> (Int32.toUInt32 2 &&& Int32.toUInt32 31)).toInt32) &&& 858993459)) + ((Int32.toUInt32 (((p0 - (((Int32.toUInt32 p0 >>> (Int32.toUInt32 1 &&& Int32.toUInt32 31)).toInt32) &&& 1431655765)) &&& 858993459) + (((Int32.toUInt32 (p0 - (((Int32.toUInt32 p0 >>> (Int32.toUInt32 1 &&& Int32.toUInt32 31)).toInt32) &&& 1431655765)) >>> (Int32.toUInt32 2 &&& Int32.toUInt32 31)).toInt32) &&& 858993459)) >>> (Int32.toUInt32 4 &&& Int32.toUInt32 31)).toInt32)) &&& 252645135) + ((Int32.toUInt32 (((((p0 - (((Int32.toUInt32 p0 >>> (Int32.toUInt32 1 &&& Int32.toUInt32 31)).toInt32) &&& 1431655765)) &&& 858993459) + (((Int32.toUInt32 (p0 - (((Int32.toUInt32 p0 >>> (Int32.toUInt32 1 &&& Int32.toUInt32 31)).toInt32) &&& 1431655765)) >>> (Int32.toUInt32 2 &&& Int32.toUInt32 31)).toInt32) &&& 858993459)) + ((Int32.toUInt32 (((p0 - (((Int32.toUInt32 p0 >>> (Int32.toUInt32 1 &&& Int32.toUInt32 31)).toInt32) &&& 1431655765)) &&& 858993459) + (((Int32.toUInt32 (p0 - (((Int32.toUInt32 p0 >>> (Int32.toUInt32 1 &&& Int32.toUInt32 31)).toInt32) &&& 1431655765)) >>> (Int32.toUInt32 2 &&& Int32.toUInt32 31)).toInt32) &&& 858993459)) >>> (Int32.toUInt32 4 &&& Int32.toUInt32 31)).toInt32)) &&& 252645135) >>> (Int32.toUInt32 8 &&& Int32.toUInt32 31)).toInt32))) C dJ6_bitCount_0f7a4_41 rfl ?_
  refine g_iload_n (pc := 42) (x := ((((((p0 - (((Int32.toUInt32 p0 >>> (Int32.toUInt32 1 &&& Int32.toUInt32 31)).toInt32) &&& 1431655765)) &&& 858993459) + (((Int32.toUInt32 (p0 - (((Int32.toUInt32 p0 >>> (Int32.toUInt32 1 &&& Int32.toUInt32 31)).toInt32) &&& 1431655765)) >>> (Int32.toUInt32 2 &&& Int32.toUInt32 31)).toInt32) &&& 858993459)) + ((Int32.toUInt32 (((p0 - (((Int32.toUInt32 p0 >>> (Int32.toUInt32 1 &&& Int32.toUInt32 31)).toInt32) &&& 1431655765)) &&& 858993459) + (((Int32.toUInt32 (p0 - (((Int32.toUInt32 p0 >>> (Int32.toUInt32 1 &&& Int32.toUInt32 31)).toInt32) &&& 1431655765)) >>> (Int32.toUInt32 2 &&& Int32.toUInt32 31)).toInt32) &&& 858993459)) >>> (Int32.toUInt32 4 &&& Int32.toUInt32 31)).toInt32)) &&& 252645135) + ((Int32.toUInt32 (((((p0 - (((Int32.toUInt32 p0 >>> (Int32.toUInt32 1 &&& Int32.toUInt32 31)).toInt32) &&& 1431655765)) &&& 858993459) + (((Int32.toUInt32 (p0 - (((Int32.toUInt32 p0 >>> (Int32.toUInt32 1 &&& Int32.toUInt32 31)).toInt32) &&& 1431655765)) >>> (Int32.toUInt32 2 &&& Int32.toUInt32 31)).toInt32) &&& 858993459)) + ((Int32.toUInt32 (((p0 - (((Int32.toUInt32 p0 >>> (Int32.toUInt32 1 &&& Int32.toUInt32 31)).toInt32) &&& 1431655765)) &&& 858993459) + (((Int32.toUInt32 (p0 - (((Int32.toUInt32 p0 >>> (Int32.toUInt32 1 &&& Int32.toUInt32 31)).toInt32) &&& 1431655765)) >>> (Int32.toUInt32 2 &&& Int32.toUInt32 31)).toInt32) &&& 858993459)) >>> (Int32.toUInt32 4 &&& Int32.toUInt32 31)).toInt32)) &&& 252645135) >>> (Int32.toUInt32 8 &&& Int32.toUInt32 31)).toInt32))) C dJ6_bitCount_0f7a4_42 rfl ?_
  refine g_bipush (pc := 43) (v := 16) C dJ6_bitCount_0f7a4_43 (by decide) ?_
  refine g_iushr (pc := 45) (x := ((((((p0 - (((Int32.toUInt32 p0 >>> (Int32.toUInt32 1 &&& Int32.toUInt32 31)).toInt32) &&& 1431655765)) &&& 858993459) + (((Int32.toUInt32 (p0 - (((Int32.toUInt32 p0 >>> (Int32.toUInt32 1 &&& Int32.toUInt32 31)).toInt32) &&& 1431655765)) >>> (Int32.toUInt32 2 &&& Int32.toUInt32 31)).toInt32) &&& 858993459)) + ((Int32.toUInt32 (((p0 - (((Int32.toUInt32 p0 >>> (Int32.toUInt32 1 &&& Int32.toUInt32 31)).toInt32) &&& 1431655765)) &&& 858993459) + (((Int32.toUInt32 (p0 - (((Int32.toUInt32 p0 >>> (Int32.toUInt32 1 &&& Int32.toUInt32 31)).toInt32) &&& 1431655765)) >>> (Int32.toUInt32 2 &&& Int32.toUInt32 31)).toInt32) &&& 858993459)) >>> (Int32.toUInt32 4 &&& Int32.toUInt32 31)).toInt32)) &&& 252645135) + ((Int32.toUInt32 (((((p0 - (((Int32.toUInt32 p0 >>> (Int32.toUInt32 1 &&& Int32.toUInt32 31)).toInt32) &&& 1431655765)) &&& 858993459) + (((Int32.toUInt32 (p0 - (((Int32.toUInt32 p0 >>> (Int32.toUInt32 1 &&& Int32.toUInt32 31)).toInt32) &&& 1431655765)) >>> (Int32.toUInt32 2 &&& Int32.toUInt32 31)).toInt32) &&& 858993459)) + ((Int32.toUInt32 (((p0 - (((Int32.toUInt32 p0 >>> (Int32.toUInt32 1 &&& Int32.toUInt32 31)).toInt32) &&& 1431655765)) &&& 858993459) + (((Int32.toUInt32 (p0 - (((Int32.toUInt32 p0 >>> (Int32.toUInt32 1 &&& Int32.toUInt32 31)).toInt32) &&& 1431655765)) >>> (Int32.toUInt32 2 &&& Int32.toUInt32 31)).toInt32) &&& 858993459)) >>> (Int32.toUInt32 4 &&& Int32.toUInt32 31)).toInt32)) &&& 252645135) >>> (Int32.toUInt32 8 &&& Int32.toUInt32 31)).toInt32))) (y := 16) C dJ6_bitCount_0f7a4_45 ?_
  refine g_iadd (pc := 46) (x := ((((((p0 - (((Int32.toUInt32 p0 >>> (Int32.toUInt32 1 &&& Int32.toUInt32 31)).toInt32) &&& 1431655765)) &&& 858993459) + (((Int32.toUInt32 (p0 - (((Int32.toUInt32 p0 >>> (Int32.toUInt32 1 &&& Int32.toUInt32 31)).toInt32) &&& 1431655765)) >>> (Int32.toUInt32 2 &&& Int32.toUInt32 31)).toInt32) &&& 858993459)) + ((Int32.toUInt32 (((p0 - (((Int32.toUInt32 p0 >>> (Int32.toUInt32 1 &&& Int32.toUInt32 31)).toInt32) &&& 1431655765)) &&& 858993459) + (((Int32.toUInt32 (p0 - (((Int32.toUInt32 p0 >>> (Int32.toUInt32 1 &&& Int32.toUInt32 31)).toInt32) &&& 1431655765)) >>> (Int32.toUInt32 2 &&& Int32.toUInt32 31)).toInt32) &&& 858993459)) >>> (Int32.toUInt32 4 &&& Int32.toUInt32 31)).toInt32)) &&& 252645135) + ((Int32.toUInt32 (((((p0 - (((Int32.toUInt32 p0 >>> (Int32.toUInt32 1 &&& Int32.toUInt32 31)).toInt32) &&& 1431655765)) &&& 858993459) + (((Int32.toUInt32 (p0 - (((Int32.toUInt32 p0 >>> (Int32.toUInt32 1 &&& Int32.toUInt32 31)).toInt32) &&& 1431655765)) >>> (Int32.toUInt32 2 &&& Int32.toUInt32 31)).toInt32) &&& 858993459)) + ((Int32.toUInt32 (((p0 - (((Int32.toUInt32 p0 >>> (Int32.toUInt32 1 &&& Int32.toUInt32 31)).toInt32) &&& 1431655765)) &&& 858993459) + (((Int32.toUInt32 (p0 - (((Int32.toUInt32 p0 >>> (Int32.toUInt32 1 &&& Int32.toUInt32 31)).toInt32) &&& 1431655765)) >>> (Int32.toUInt32 2 &&& Int32.toUInt32 31)).toInt32) &&& 858993459)) >>> (Int32.toUInt32 4 &&& Int32.toUInt32 31)).toInt32)) &&& 252645135) >>> (Int32.toUInt32 8 &&& Int32.toUInt32 31)).toInt32))) (y := ((Int32.toUInt32 ((((((p0 - (((Int32.toUInt32 p0 >>> (Int32.toUInt32 1 &&& Int32.toUInt32 31)).toInt32) &&& 1431655765)) &&& 858993459) + (((Int32.toUInt32 (p0 - (((Int32.toUInt32 p0 >>> (Int32.toUInt32 1 &&& Int32.toUInt32 31)).toInt32) &&& 1431655765)) >>> (Int32.toUInt32 2 &&& Int32.toUInt32 31)).toInt32) &&& 858993459)) + ((Int32.toUInt32 (((p0 - (((Int32.toUInt32 p0 >>> (Int32.toUInt32 1 &&& Int32.toUInt32 31)).toInt32) &&& 1431655765)) &&& 858993459) + (((Int32.toUInt32 (p0 - (((Int32.toUInt32 p0 >>> (Int32.toUInt32 1 &&& Int32.toUInt32 31)).toInt32) &&& 1431655765)) >>> (Int32.toUInt32 2 &&& Int32.toUInt32 31)).toInt32) &&& 858993459)) >>> (Int32.toUInt32 4 &&& Int32.toUInt32 31)).toInt32)) &&& 252645135) + ((Int32.toUInt32 (((((p0 - (((Int32.toUInt32 p0 >>> (Int32.toUInt32 1 &&& Int32.toUInt32 31)).toInt32) &&& 1431655765)) &&& 858993459) + (((Int32.toUInt32 (p0 - (((Int32.toUInt32 p0 >>> (Int32.toUInt32 1 &&& Int32.toUInt32 31)).toInt32) &&& 1431655765)) >>> (Int32.toUInt32 2 &&& Int32.toUInt32 31)).toInt32) &&& 858993459)) + ((Int32.toUInt32 (((p0 - (((Int32.toUInt32 p0 >>> (Int32.toUInt32 1 &&& Int32.toUInt32 31)).toInt32) &&& 1431655765)) &&& 858993459) + (((Int32.toUInt32 (p0 - (((Int32.toUInt32 p0 >>> (Int32.toUInt32 1 &&& Int32.toUInt32 31)).toInt32) &&& 1431655765)) >>> (Int32.toUInt32 2 &&& Int32.toUInt32 31)).toInt32) &&& 858993459)) >>> (Int32.toUInt32 4 &&& Int32.toUInt32 31)).toInt32)) &&& 252645135) >>> (Int32.toUInt32 8 &&& Int32.toUInt32 31)).toInt32)) >>> (Int32.toUInt32 16 &&& Int32.toUInt32 31)).toInt32)) C dJ6_bitCount_0f7a4_46 ?_
  refine g_istore_n (pc := 47) (lv' := [(0, .int (((((((p0 - (((Int32.toUInt32 p0 >>> (Int32.toUInt32 1 &&& Int32.toUInt32 31)).toInt32) &&& 1431655765)) &&& 858993459) + (((Int32.toUInt32 (p0 - (((Int32.toUInt32 p0 >>> (Int32.toUInt32 1 &&& Int32.toUInt32 31)).toInt32) &&& 1431655765)) >>> (Int32.toUInt32 2 &&& Int32.toUInt32 31)).toInt32) &&& 858993459)) + ((Int32.toUInt32 (((p0 - (((Int32.toUInt32 p0 >>> (Int32.toUInt32 1 &&& Int32.toUInt32 31)).toInt32) &&& 1431655765)) &&& 858993459) + (((Int32.toUInt32 (p0 - (((Int32.toUInt32 p0 >>> (Int32.toUInt32 1 &&& Int32.toUInt32 31)).toInt32) &&& 1431655765)) >>> (Int32.toUInt32 2 &&& Int32.toUInt32 31)).toInt32) &&& 858993459)) >>> (Int32.toUInt32 4 &&& Int32.toUInt32 31)).toInt32)) &&& 252645135) + ((Int32.toUInt32 (((((p0 - (((Int32.toUInt32 p0 >>> (Int32.toUInt32 1 &&& Int32.toUInt32 31)).toInt32) &&& 1431655765)) &&& 858993459) + (((Int32.toUInt32 (p0 - (((Int32.toUInt32 p0 >>> (Int32.toUInt32 1 &&& Int32.toUInt32 31)).toInt32) &&& 1431655765)) >>> (Int32.toUInt32 2 &&& Int32.toUInt32 31)).toInt32) &&& 858993459)) + ((Int32.toUInt32 (((p0 - (((Int32.toUInt32 p0 >>> (Int32.toUInt32 1 &&& Int32.toUInt32 31)).toInt32) &&& 1431655765)) &&& 858993459) + (((Int32.toUInt32 (p0 - (((Int32.toUInt32 p0 >>> (Int32.toUInt32 1 &&& Int32.toUInt32 31)).toInt32) &&& 1431655765)) >>> (Int32.toUInt32 2 &&& Int32.toUInt32 31)).toInt32) &&& 858993459)) >>> (Int32.toUInt32 4 &&& Int32.toUInt32 31)).toInt32)) &&& 252645135) >>> (Int32.toUInt32 8 &&& Int32.toUInt32 31)).toInt32)) + ((Int32.toUInt32 ((((((p0 - (((Int32.toUInt32 p0 >>> (Int32.toUInt32 1 &&& Int32.toUInt32 31)).toInt32) &&& 1431655765)) &&& 858993459) + (((Int32.toUInt32 (p0 - (((Int32.toUInt32 p0 >>> (Int32.toUInt32 1 &&& Int32.toUInt32 31)).toInt32) &&& 1431655765)) >>> (Int32.toUInt32 2 &&& Int32.toUInt32 31)).toInt32) &&& 858993459)) + ((Int32.toUInt32 (((p0 - (((Int32.toUInt32 p0 >>> (Int32.toUInt32 1 &&& Int32.toUInt32 31)).toInt32) &&& 1431655765)) &&& 858993459) + (((Int32.toUInt32 (p0 - (((Int32.toUInt32 p0 >>> (Int32.toUInt32 1 &&& Int32.toUInt32 31)).toInt32) &&& 1431655765)) >>> (Int32.toUInt32 2 &&& Int32.toUInt32 31)).toInt32) &&& 858993459)) >>> (Int32.toUInt32 4 &&& Int32.toUInt32 31)).toInt32)) &&& 252645135) + ((Int32.toUInt32 (((((p0 - (((Int32.toUInt32 p0 >>> (Int32.toUInt32 1 &&& Int32.toUInt32 31)).toInt32) &&& 1431655765)) &&& 858993459) + (((Int32.toUInt32 (p0 - (((Int32.toUInt32 p0 >>> (Int32.toUInt32 1 &&& Int32.toUInt32 31)).toInt32) &&& 1431655765)) >>> (Int32.toUInt32 2 &&& Int32.toUInt32 31)).toInt32) &&& 858993459)) + ((Int32.toUInt32 (((p0 - (((Int32.toUInt32 p0 >>> (Int32.toUInt32 1 &&& Int32.toUInt32 31)).toInt32) &&& 1431655765)) &&& 858993459) + (((Int32.toUInt32 (p0 - (((Int32.toUInt32 p0 >>> (Int32.toUInt32 1 &&& Int32.toUInt32 31)).toInt32) &&& 1431655765)) >>> (Int32.toUInt32 2 &&& Int32.toUInt32 31)).toInt32) &&& 858993459)) >>> (Int32.toUInt32 4 &&& Int32.toUInt32 31)).toInt32)) &&& 252645135) >>> (Int32.toUInt32 8 &&& Int32.toUInt32 31)).toInt32)) >>> (Int32.toUInt32 16 &&& Int32.toUInt32 31)).toInt32)))]) C dJ6_bitCount_0f7a4_47 (by decide) rfl ?_
  refine g_iload_n (pc := 48) (x := (((((((p0 - (((Int32.toUInt32 p0 >>> (Int32.toUInt32 1 &&& Int32.toUInt32 31)).toInt32) &&& 1431655765)) &&& 858993459) + (((Int32.toUInt32 (p0 - (((Int32.toUInt32 p0 >>> (Int32.toUInt32 1 &&& Int32.toUInt32 31)).toInt32) &&& 1431655765)) >>> (Int32.toUInt32 2 &&& Int32.toUInt32 31)).toInt32) &&& 858993459)) + ((Int32.toUInt32 (((p0 - (((Int32.toUInt32 p0 >>> (Int32.toUInt32 1 &&& Int32.toUInt32 31)).toInt32) &&& 1431655765)) &&& 858993459) + (((Int32.toUInt32 (p0 - (((Int32.toUInt32 p0 >>> (Int32.toUInt32 1 &&& Int32.toUInt32 31)).toInt32) &&& 1431655765)) >>> (Int32.toUInt32 2 &&& Int32.toUInt32 31)).toInt32) &&& 858993459)) >>> (Int32.toUInt32 4 &&& Int32.toUInt32 31)).toInt32)) &&& 252645135) + ((Int32.toUInt32 (((((p0 - (((Int32.toUInt32 p0 >>> (Int32.toUInt32 1 &&& Int32.toUInt32 31)).toInt32) &&& 1431655765)) &&& 858993459) + (((Int32.toUInt32 (p0 - (((Int32.toUInt32 p0 >>> (Int32.toUInt32 1 &&& Int32.toUInt32 31)).toInt32) &&& 1431655765)) >>> (Int32.toUInt32 2 &&& Int32.toUInt32 31)).toInt32) &&& 858993459)) + ((Int32.toUInt32 (((p0 - (((Int32.toUInt32 p0 >>> (Int32.toUInt32 1 &&& Int32.toUInt32 31)).toInt32) &&& 1431655765)) &&& 858993459) + (((Int32.toUInt32 (p0 - (((Int32.toUInt32 p0 >>> (Int32.toUInt32 1 &&& Int32.toUInt32 31)).toInt32) &&& 1431655765)) >>> (Int32.toUInt32 2 &&& Int32.toUInt32 31)).toInt32) &&& 858993459)) >>> (Int32.toUInt32 4 &&& Int32.toUInt32 31)).toInt32)) &&& 252645135) >>> (Int32.toUInt32 8 &&& Int32.toUInt32 31)).toInt32)) + ((Int32.toUInt32 ((((((p0 - (((Int32.toUInt32 p0 >>> (Int32.toUInt32 1 &&& Int32.toUInt32 31)).toInt32) &&& 1431655765)) &&& 858993459) + (((Int32.toUInt32 (p0 - (((Int32.toUInt32 p0 >>> (Int32.toUInt32 1 &&& Int32.toUInt32 31)).toInt32) &&& 1431655765)) >>> (Int32.toUInt32 2 &&& Int32.toUInt32 31)).toInt32) &&& 858993459)) + ((Int32.toUInt32 (((p0 - (((Int32.toUInt32 p0 >>> (Int32.toUInt32 1 &&& Int32.toUInt32 31)).toInt32) &&& 1431655765)) &&& 858993459) + (((Int32.toUInt32 (p0 - (((Int32.toUInt32 p0 >>> (Int32.toUInt32 1 &&& Int32.toUInt32 31)).toInt32) &&& 1431655765)) >>> (Int32.toUInt32 2 &&& Int32.toUInt32 31)).toInt32) &&& 858993459)) >>> (Int32.toUInt32 4 &&& Int32.toUInt32 31)).toInt32)) &&& 252645135) + ((Int32.toUInt32 (((((p0 - (((Int32.toUInt32 p0 >>> (Int32.toUInt32 1 &&& Int32.toUInt32 31)).toInt32) &&& 1431655765)) &&& 858993459) + (((Int32.toUInt32 (p0 - (((Int32.toUInt32 p0 >>> (Int32.toUInt32 1 &&& Int32.toUInt32 31)).toInt32) &&& 1431655765)) >>> (Int32.toUInt32 2 &&& Int32.toUInt32 31)).toInt32) &&& 858993459)) + ((Int32.toUInt32 (((p0 - (((Int32.toUInt32 p0 >>> (Int32.toUInt32 1 &&& Int32.toUInt32 31)).toInt32) &&& 1431655765)) &&& 858993459) + (((Int32.toUInt32 (p0 - (((Int32.toUInt32 p0 >>> (Int32.toUInt32 1 &&& Int32.toUInt32 31)).toInt32) &&& 1431655765)) >>> (Int32.toUInt32 2 &&& Int32.toUInt32 31)).toInt32) &&& 858993459)) >>> (Int32.toUInt32 4 &&& Int32.toUInt32 31)).toInt32)) &&& 252645135) >>> (Int32.toUInt32 8 &&& Int32.toUInt32 31)).toInt32)) >>> (Int32.toUInt32 16 &&& Int32.toUInt32 31)).toInt32))) C dJ6_bitCount_0f7a4_48 rfl ?_
  refine g_bipush (pc := 49) (v := 63) C dJ6_bitCount_0f7a4_49 (by decide) ?_
  refine g_iand (pc := 51) (x := (((((((p0 - (((Int32.toUInt32 p0 >>> (Int32.toUInt32 1 &&& Int32.toUInt32 31)).toInt32) &&& 1431655765)) &&& 858993459) + (((Int32.toUInt32 (p0 - (((Int32.toUInt32 p0 >>> (Int32.toUInt32 1 &&& Int32.toUInt32 31)).toInt32) &&& 1431655765)) >>> (Int32.toUInt32 2 &&& Int32.toUInt32 31)).toInt32) &&& 858993459)) + ((Int32.toUInt32 (((p0 - (((Int32.toUInt32 p0 >>> (Int32.toUInt32 1 &&& Int32.toUInt32 31)).toInt32) &&& 1431655765)) &&& 858993459) + (((Int32.toUInt32 (p0 - (((Int32.toUInt32 p0 >>> (Int32.toUInt32 1 &&& Int32.toUInt32 31)).toInt32) &&& 1431655765)) >>> (Int32.toUInt32 2 &&& Int32.toUInt32 31)).toInt32) &&& 858993459)) >>> (Int32.toUInt32 4 &&& Int32.toUInt32 31)).toInt32)) &&& 252645135) + ((Int32.toUInt32 (((((p0 - (((Int32.toUInt32 p0 >>> (Int32.toUInt32 1 &&& Int32.toUInt32 31)).toInt32) &&& 1431655765)) &&& 858993459) + (((Int32.toUInt32 (p0 - (((Int32.toUInt32 p0 >>> (Int32.toUInt32 1 &&& Int32.toUInt32 31)).toInt32) &&& 1431655765)) >>> (Int32.toUInt32 2 &&& Int32.toUInt32 31)).toInt32) &&& 858993459)) + ((Int32.toUInt32 (((p0 - (((Int32.toUInt32 p0 >>> (Int32.toUInt32 1 &&& Int32.toUInt32 31)).toInt32) &&& 1431655765)) &&& 858993459) + (((Int32.toUInt32 (p0 - (((Int32.toUInt32 p0 >>> (Int32.toUInt32 1 &&& Int32.toUInt32 31)).toInt32) &&& 1431655765)) >>> (Int32.toUInt32 2 &&& Int32.toUInt32 31)).toInt32) &&& 858993459)) >>> (Int32.toUInt32 4 &&& Int32.toUInt32 31)).toInt32)) &&& 252645135) >>> (Int32.toUInt32 8 &&& Int32.toUInt32 31)).toInt32)) + ((Int32.toUInt32 ((((((p0 - (((Int32.toUInt32 p0 >>> (Int32.toUInt32 1 &&& Int32.toUInt32 31)).toInt32) &&& 1431655765)) &&& 858993459) + (((Int32.toUInt32 (p0 - (((Int32.toUInt32 p0 >>> (Int32.toUInt32 1 &&& Int32.toUInt32 31)).toInt32) &&& 1431655765)) >>> (Int32.toUInt32 2 &&& Int32.toUInt32 31)).toInt32) &&& 858993459)) + ((Int32.toUInt32 (((p0 - (((Int32.toUInt32 p0 >>> (Int32.toUInt32 1 &&& Int32.toUInt32 31)).toInt32) &&& 1431655765)) &&& 858993459) + (((Int32.toUInt32 (p0 - (((Int32.toUInt32 p0 >>> (Int32.toUInt32 1 &&& Int32.toUInt32 31)).toInt32) &&& 1431655765)) >>> (Int32.toUInt32 2 &&& Int32.toUInt32 31)).toInt32) &&& 858993459)) >>> (Int32.toUInt32 4 &&& Int32.toUInt32 31)).toInt32)) &&& 252645135) + ((Int32.toUInt32 (((((p0 - (((Int32.toUInt32 p0 >>> (Int32.toUInt32 1 &&& Int32.toUInt32 31)).toInt32) &&& 1431655765)) &&& 858993459) + (((Int32.toUInt32 (p0 - (((Int32.toUInt32 p0 >>> (Int32.toUInt32 1 &&& Int32.toUInt32 31)).toInt32) &&& 1431655765)) >>> (Int32.toUInt32 2 &&& Int32.toUInt32 31)).toInt32) &&& 858993459)) + ((Int32.toUInt32 (((p0 - (((Int32.toUInt32 p0 >>> (Int32.toUInt32 1 &&& Int32.toUInt32 31)).toInt32) &&& 1431655765)) &&& 858993459) + (((Int32.toUInt32 (p0 - (((Int32.toUInt32 p0 >>> (Int32.toUInt32 1 &&& Int32.toUInt32 31)).toInt32) &&& 1431655765)) >>> (Int32.toUInt32 2 &&& Int32.toUInt32 31)).toInt32) &&& 858993459)) >>> (Int32.toUInt32 4 &&& Int32.toUInt32 31)).toInt32)) &&& 252645135) >>> (Int32.toUInt32 8 &&& Int32.toUInt32 31)).toInt32)) >>> (Int32.toUInt32 16 &&& Int32.toUInt32 31)).toInt32))) (y := 63) C dJ6_bitCount_0f7a4_51 ?_
  obtain rfl := Option.some.inj hf
  exact g_iret (v := ((((((((p0 - (((Int32.toUInt32 p0 >>> (Int32.toUInt32 1 &&& Int32.toUInt32 31)).toInt32) &&& 1431655765)) &&& 858993459) + (((Int32.toUInt32 (p0 - (((Int32.toUInt32 p0 >>> (Int32.toUInt32 1 &&& Int32.toUInt32 31)).toInt32) &&& 1431655765)) >>> (Int32.toUInt32 2 &&& Int32.toUInt32 31)).toInt32) &&& 858993459)) + ((Int32.toUInt32 (((p0 - (((Int32.toUInt32 p0 >>> (Int32.toUInt32 1 &&& Int32.toUInt32 31)).toInt32) &&& 1431655765)) &&& 858993459) + (((Int32.toUInt32 (p0 - (((Int32.toUInt32 p0 >>> (Int32.toUInt32 1 &&& Int32.toUInt32 31)).toInt32) &&& 1431655765)) >>> (Int32.toUInt32 2 &&& Int32.toUInt32 31)).toInt32) &&& 858993459)) >>> (Int32.toUInt32 4 &&& Int32.toUInt32 31)).toInt32)) &&& 252645135) + ((Int32.toUInt32 (((((p0 - (((Int32.toUInt32 p0 >>> (Int32.toUInt32 1 &&& Int32.toUInt32 31)).toInt32) &&& 1431655765)) &&& 858993459) + (((Int32.toUInt32 (p0 - (((Int32.toUInt32 p0 >>> (Int32.toUInt32 1 &&& Int32.toUInt32 31)).toInt32) &&& 1431655765)) >>> (Int32.toUInt32 2 &&& Int32.toUInt32 31)).toInt32) &&& 858993459)) + ((Int32.toUInt32 (((p0 - (((Int32.toUInt32 p0 >>> (Int32.toUInt32 1 &&& Int32.toUInt32 31)).toInt32) &&& 1431655765)) &&& 858993459) + (((Int32.toUInt32 (p0 - (((Int32.toUInt32 p0 >>> (Int32.toUInt32 1 &&& Int32.toUInt32 31)).toInt32) &&& 1431655765)) >>> (Int32.toUInt32 2 &&& Int32.toUInt32 31)).toInt32) &&& 858993459)) >>> (Int32.toUInt32 4 &&& Int32.toUInt32 31)).toInt32)) &&& 252645135) >>> (Int32.toUInt32 8 &&& Int32.toUInt32 31)).toInt32)) + ((Int32.toUInt32 ((((((p0 - (((Int32.toUInt32 p0 >>> (Int32.toUInt32 1 &&& Int32.toUInt32 31)).toInt32) &&& 1431655765)) &&& 858993459) + (((Int32.toUInt32 (p0 - (((Int32.toUInt32 p0 >>> (Int32.toUInt32 1 &&& Int32.toUInt32 31)).toInt32) &&& 1431655765)) >>> (Int32.toUInt32 2 &&& Int32.toUInt32 31)).toInt32) &&& 858993459)) + ((Int32.toUInt32 (((p0 - (((Int32.toUInt32 p0 >>> (Int32.toUInt32 1 &&& Int32.toUInt32 31)).toInt32) &&& 1431655765)) &&& 858993459) + (((Int32.toUInt32 (p0 - (((Int32.toUInt32 p0 >>> (Int32.toUInt32 1 &&& Int32.toUInt32 31)).toInt32) &&& 1431655765)) >>> (Int32.toUInt32 2 &&& Int32.toUInt32 31)).toInt32) &&& 858993459)) >>> (Int32.toUInt32 4 &&& Int32.toUInt32 31)).toInt32)) &&& 252645135) + ((Int32.toUInt32 (((((p0 - (((Int32.toUInt32 p0 >>> (Int32.toUInt32 1 &&& Int32.toUInt32 31)).toInt32) &&& 1431655765)) &&& 858993459) + (((Int32.toUInt32 (p0 - (((Int32.toUInt32 p0 >>> (Int32.toUInt32 1 &&& Int32.toUInt32 31)).toInt32) &&& 1431655765)) >>> (Int32.toUInt32 2 &&& Int32.toUInt32 31)).toInt32) &&& 858993459)) + ((Int32.toUInt32 (((p0 - (((Int32.toUInt32 p0 >>> (Int32.toUInt32 1 &&& Int32.toUInt32 31)).toInt32) &&& 1431655765)) &&& 858993459) + (((Int32.toUInt32 (p0 - (((Int32.toUInt32 p0 >>> (Int32.toUInt32 1 &&& Int32.toUInt32 31)).toInt32) &&& 1431655765)) >>> (Int32.toUInt32 2 &&& Int32.toUInt32 31)).toInt32) &&& 858993459)) >>> (Int32.toUInt32 4 &&& Int32.toUInt32 31)).toInt32)) &&& 252645135) >>> (Int32.toUInt32 8 &&& Int32.toUInt32 31)).toInt32)) >>> (Int32.toUInt32 16 &&& Int32.toUInt32 31)).toInt32)) &&& 63)) C E dJ6_bitCount_0f7a4_52 (Nat.le_of_ble_eq_true rfl) (Nat.le_of_ble_eq_true rfl) ⟨rfl, rfl⟩
set_option maxRecDepth 100000 in
set_option maxHeartbeats 4000000 in
theorem cJ6_bitCount_0f7a4_ (l : Launch) (htr : l.stackTraces = false) (D : va_G) (N : Nat) (p0 : Int32) (r : Int32) (hf : fJ6_bitCount_0f7a4 N p0 = some r) : Tc l D yJ6_bitCount_0f7a4 wsJ6_bitCount_0f7a4 rmJ6_bitCount_0f7a4 [.int p0] [] (fun rv w => rv = some (.int r) ∧ w = []) (fun _ _ => False) 0 0 := Tc_of htr (by decide +kernel) rfl (Nat.le_of_ble_eq_true rfl) (fun k C E hl hD => by subst hD; exact wkJ6_bitCount_0f7a4 C N p0 r hf E)
abbrev rmX3_heightOf : Room := { frames := 1, cells := 0, slots := 0, locals := 23 }
theorem hdX3_heightOf : yX3_heightOf.cls = RX3 ∧ yX3_heightOf.cls ≠ "java/lang/invoke/MethodHandle" ∧ yX3_heightOf.cls ≠ "java/lang/invoke/VarHandle" ∧ (parseMethodDescriptor yX3_heightOf.desc).map (fun d => d.parameters.length) = some 1 := by decide +kernel
def fX3_heightOf (N : Nat) (v : VS) (p1 : Int32) : Option (Int32) := ((fX3_blocksIn N v p1).bind fun r1 => ((fJ6_bitCount_0f7a4 N r1).bind fun r2 => some r2))
set_option maxRecDepth 100000 in
set_option maxHeartbeats 4000000 in
theorem wkX3_heightOf {k : Kt} (C : gC k cX3_heightOf 2 RX3 wsX3_heightOf rmX3_heightOf "heightOf") (N : Nat) (aS : Nat → Nat) (v : VS) (p1 : Int32) (r : Int32) (hf : fX3_heightOf N v p1 = some r) (E : gE k (wS (kD k) aS v) (fun rv w => rv = some (.int r) ∧ w = (wS (kD k) aS v)) (fun _ _ => False) 0 0 (some .int) []) : gG k (wS (kD k) aS v) [(0, .ref (aS 0)), (1, .int p1)] 0 0 0 [] := by
  unfold fX3_heightOf at hf
  refine g_aload_n (pc := 0) (x := (aS 0)) C dX3_heightOf_0 rfl ?_
  refine g_iload_n (pc := 1) (x := p1) C dX3_heightOf_1 rfl ?_
  refine g_callR (pc' := 5) (cs' := 0) (sl' := 0) hf C (fun u => some (.int u)) (fun u hu => gr_V (rest := []) C (cX3_blocksIn_ (kL k) C.tr (kD k) N aS v p1 u hu) (fun ht => cwV 1 ht gX3_heightOf_X3_blocksIn rfl rfl rfl hdX3_blocksIn ⟨(Nat.le_of_ble_eq_true rfl), (Nat.le_of_ble_eq_true rfl)⟩) 0 rfl rfl [0, 1, 2, 3, 4, 5, 6, 7, 8] rfl (by decide) rfl rfl (Nat.le_of_ble_eq_true rfl) dX3_heightOf_2 ⟨(Nat.le_of_ble_eq_true rfl), (Nat.le_of_ble_eq_true rfl)⟩) [0, 1, 2, 3, 4, 5, 6, 7, 8] rfl rfl rfl rfl (fun u => [.int u]) (fun u => rfl) (fun r1 hf => ?_)
  refine g_callR (pc' := 8) (cs' := 0) (sl' := 0) hf C (fun u => some (.int u)) (fun u hu => gr_S (rest := []) C (cJ6_bitCount_0f7a4_ (kL k) C.tr (kD k) N r1 u hu) (fun ht => va_cwS 1 ht gX3_heightOf_J6_bitCount_0f7a4 rfl rfl rfl hsJ6_bitCount_0f7a4 ⟨(Nat.le_of_ble_eq_true rfl), (Nat.le_of_ble_eq_true rfl)⟩) [] rfl (by decide) rfl rfl (Nat.le_of_ble_eq_true rfl) dX3_heightOf_5 ⟨(Nat.le_of_ble_eq_true rfl), (Nat.le_of_ble_eq_true rfl)⟩) [] rfl rfl rfl rfl (fun u => [.int u]) (fun u => rfl) (fun r2 hf => ?_)
  obtain rfl := Option.some.inj hf
  exact g_iret (v := r2) C E dX3_heightOf_8 (Nat.le_of_ble_eq_true rfl) (Nat.le_of_ble_eq_true rfl) ⟨rfl, rfl⟩
set_option maxRecDepth 100000 in
set_option maxHeartbeats 4000000 in
theorem cX3_heightOf_ (l : Launch) (htr : l.stackTraces = false) (D : va_G) (N : Nat) (aS : Nat → Nat) (v : VS) (p1 : Int32) (r : Int32) (hf : fX3_heightOf N v p1 = some r) : Tc l D yX3_heightOf wsX3_heightOf rmX3_heightOf [.ref (aS 0), .int p1] (wS D aS v) (fun rv w => rv = some (.int r) ∧ w = (wS D aS v)) (fun _ _ => False) 0 0 := Tc_of htr (by decide +kernel) rfl (Nat.le_of_ble_eq_true rfl) (fun k C E hl hD => by subst hD; exact wkX3_heightOf C N aS v p1 r hf E)
abbrev rmX3_reasonToRefuse : Room := { frames := 3, cells := 0, slots := 0, locals := 64 }
theorem inX3_reasonToRefuse_X3 : ∀ w ∈ wsX30, w ∈ wsX3_reasonToRefuse := by decide +kernel
theorem lkX3_reasonToRefuse_21 : Cond.fieldLink RX3 21 "GaugeBlocks$State" (TX3 3).2.1 (TX3 3).2.2.1 ∈ wsX3_reasonToRefuse := by decide +kernel
theorem lkX3_reasonToRefuse_41 : Cond.fieldLink RX3 41 "GaugeBlocks$State" (TX3 7).2.1 (TX3 7).2.2.1 ∈ wsX3_reasonToRefuse := by decide +kernel
theorem hdX3_reasonToRefuse : yX3_reasonToRefuse.cls = RX3 ∧ yX3_reasonToRefuse.cls ≠ "java/lang/invoke/MethodHandle" ∧ yX3_reasonToRefuse.cls ≠ "java/lang/invoke/VarHandle" ∧ (parseMethodDescriptor yX3_reasonToRefuse.desc).map (fun d => d.parameters.length) = some 2 := by decide +kernel
def fX3_reasonToRefuse (N : Nat) (v : VS) (p1 : Int32) (p2 : Int32) : Option (Int32) := ((fX3_isFree N v p2).bind fun r1 => (if r1 = true then ((fX3_heightOf N v p1).bind fun r2 => (if r2 < (6 : Int32) then ck p2 20 (ck 1 4 ((if ((sH v) (Int32.toNatClampNeg p2)) ≤ ((sS v) (Int32.toNatClampNeg 1)) then ((fX3_gradeOf N v p2).bind fun r3 => (if r3 = (3 : Int32) then some 4 else some 0)) else some 3))) else some 2)) else some 1))
set_option maxRecDepth 100000 in
set_option maxHeartbeats 4000000 in
theorem wkX3_reasonToRefuse {k : Kt} (C : gC k cX3_reasonToRefuse 3 RX3 wsX3_reasonToRefuse rmX3_reasonToRefuse "reasonToRefuse") (N : Nat) (aS : Nat → Nat) (v : VS) (p1 : Int32) (p2 : Int32) (r : Int32) (hf : fX3_reasonToRefuse N v p1 p2 = some r) (E : gE k (wS (kD k) aS v) (fun rv w => rv = some (.int r) ∧ w = (wS (kD k) aS v)) (fun _ _ => False) 0 0 (some .int) []) : gG k (wS (kD k) aS v) [(0, .ref (aS 0)), (1, .int p1), (2, .int p2)] 0 0 0 [] := by
  unfold fX3_reasonToRefuse at hf
  refine g_aload_n (pc := 0) (x := (aS 0)) C dX3_reasonToRefuse_0 rfl ?_
  refine g_iload_n (pc := 1) (x := p2) C dX3_reasonToRefuse_1 rfl ?_
  refine g_callR (pc' := 5) (cs' := 0) (sl' := 0) hf C (fun u => some (.int (b2i u))) (fun u hu => gr_V (rest := []) C (cX3_isFree_ (kL k) C.tr (kD k) N aS v p2 u hu) (fun ht => cwV 1 ht gX3_reasonToRefuse_X3_isFree rfl rfl rfl hdX3_isFree ⟨(Nat.le_of_ble_eq_true rfl), (Nat.le_of_ble_eq_true rfl)⟩) 0 rfl rfl [0, 1, 2, 3, 4, 5, 6, 7, 8] rfl (by decide) rfl rfl (Nat.le_of_ble_eq_true rfl) dX3_reasonToRefuse_2 ⟨(Nat.le_of_ble_eq_true rfl), (Nat.le_of_ble_eq_true rfl)⟩) [0, 1, 2, 3, 4, 5, 6, 7, 8] rfl rfl rfl rfl (fun u => [.int (b2i u)]) (fun u => rfl) (fun r1 hf => ?_)
  refine g_ifB_ne (pc := 5) (tgt := 10) (b := r1) hf C dX3_reasonToRefuse_5 (by decide) (fun hf => ?_) (fun hf => ?_)
  · refine g_aload_n (pc := 10) (x := (aS 0)) C dX3_reasonToRefuse_10 rfl ?_
    refine g_iload_n (pc := 11) (x := p1) C dX3_reasonToRefuse_11 rfl ?_
    refine g_callR (pc' := 15) (cs' := 0) (sl' := 0) hf C (fun u => some (.int u)) (fun u hu => gr_V (rest := []) C (cX3_heightOf_ (kL k) C.tr (kD k) N aS v p1 u hu) (fun ht => cwV 1 ht gX3_reasonToRefuse_X3_heightOf rfl rfl rfl hdX3_heightOf ⟨(Nat.le_of_ble_eq_true rfl), (Nat.le_of_ble_eq_true rfl)⟩) 0 rfl rfl [0, 1, 2, 3, 4, 5, 6, 7, 8] rfl (by decide) rfl rfl (Nat.le_of_ble_eq_true rfl) dX3_reasonToRefuse_12 ⟨(Nat.le_of_ble_eq_true rfl), (Nat.le_of_ble_eq_true rfl)⟩) [0, 1, 2, 3, 4, 5, 6, 7, 8] rfl rfl rfl rfl (fun u => [.int u]) (fun u => rfl) (fun r2 hf => ?_)
    refine g_bipush (pc := 15) (v := 6) C dX3_reasonToRefuse_15 (by decide) ?_
    refine g_icmp_lt (pc := 17) (tgt := 22) (x := r2) (y := 6) hf C dX3_reasonToRefuse_17 (by decide) (fun hf => ?_) (fun hf => ?_)
    · refine g_aload_n (pc := 22) (x := (aS 0)) C dX3_reasonToRefuse_22 rfl ?_
      refine g_getf (pc := 23) C 0 rfl rfl inX3_reasonToRefuse_X3 3 (by decide) lkX3_reasonToRefuse_21 rfl rfl dX3_reasonToRefuse_23 ?_
      refine g_iload_n (pc := 26) (x := p2) C dX3_reasonToRefuse_26 rfl ?_
      refine g_iald (pc := 27) (i := p2) hf C 4 rfl dX3_reasonToRefuse_27 (fun hf => ?_)
      refine g_aload_n (pc := 28) (x := (aS 0)) C dX3_reasonToRefuse_28 rfl ?_
      refine g_getf (pc := 29) C 0 rfl rfl inX3_reasonToRefuse_X3 7 (by decide) lkX3_reasonToRefuse_41 rfl rfl dX3_reasonToRefuse_29 ?_
      refine g_iconst (pc := 32) (v := 1) C dX3_reasonToRefuse_32 (by decide) ?_
      refine g_iald (pc := 33) (i := 1) hf C 8 rfl dX3_reasonToRefuse_33 (fun hf => ?_)
      refine g_icmp_le (pc := 34) (tgt := 39) (x := ((sH v) (Int32.toNatClampNeg p2))) (y := ((sS v) (Int32.toNatClampNeg 1))) hf C dX3_reasonToRefuse_34 (by decide) (fun hf => ?_) (fun hf => ?_)
      · refine g_aload_n (pc := 39) (x := (aS 0)) C dX3_reasonToRefuse_39 rfl ?_
        refine g_iload_n (pc := 40) (x := p2) C dX3_reasonToRefuse_40 rfl ?_
        refine g_callR (pc' := 44) (cs' := 0) (sl' := 0) hf C (fun u => some (.int u)) (fun u hu => gr_V (rest := []) C (cX3_gradeOf_ (kL k) C.tr (kD k) N aS v p2 u hu) (fun ht => cwV 1 ht gX3_reasonToRefuse_X3_gradeOf rfl rfl rfl hdX3_gradeOf ⟨(Nat.le_of_ble_eq_true rfl), (Nat.le_of_ble_eq_true rfl)⟩) 0 rfl rfl [0, 1, 2, 3, 4, 5, 6, 7, 8] rfl (by decide) rfl rfl (Nat.le_of_ble_eq_true rfl) dX3_reasonToRefuse_41 ⟨(Nat.le_of_ble_eq_true rfl), (Nat.le_of_ble_eq_true rfl)⟩) [0, 1, 2, 3, 4, 5, 6, 7, 8] rfl rfl rfl rfl (fun u => [.int u]) (fun u => rfl) (fun r3 hf => ?_)
        refine g_iconst (pc := 44) (v := 3) C dX3_reasonToRefuse_44 (by decide) ?_
        refine g_icmp_ne (pc := 45) (tgt := 52) (x := r3) (y := 3) hf C dX3_reasonToRefuse_45 (by decide) (fun hf => ?_) (fun hf => ?_)
        · refine g_iconst (pc := 52) (v := 0) C dX3_reasonToRefuse_52 (by decide) ?_
          obtain rfl := Option.some.inj hf
          exact g_iret (v := 0) C E dX3_reasonToRefuse_53 (Nat.le_of_ble_eq_true rfl) (Nat.le_of_ble_eq_true rfl) ⟨rfl, rfl⟩
        · refine g_iconst (pc := 48) (v := 4) C dX3_reasonToRefuse_48 (by decide) ?_
          refine g_goto (pc := 49) (tgt := 53) C dX3_reasonToRefuse_49 (by decide) ?_
          obtain rfl := Option.some.inj hf
          exact g_iret (v := 4) C E dX3_reasonToRefuse_53 (Nat.le_of_ble_eq_true rfl) (Nat.le_of_ble_eq_true rfl) ⟨rfl, rfl⟩
      · refine g_iconst (pc := 37) (v := 3) C dX3_reasonToRefuse_37 (by decide) ?_
        obtain rfl := Option.some.inj hf
        exact g_iret (v := 3) C E dX3_reasonToRefuse_38 (Nat.le_of_ble_eq_true rfl) (Nat.le_of_ble_eq_true rfl) ⟨rfl, rfl⟩
    · refine g_iconst (pc := 20) (v := 2) C dX3_reasonToRefuse_20 (by decide) ?_
      obtain rfl := Option.some.inj hf
      exact g_iret (v := 2) C E dX3_reasonToRefuse_21 (Nat.le_of_ble_eq_true rfl) (Nat.le_of_ble_eq_true rfl) ⟨rfl, rfl⟩
  · refine g_iconst (pc := 8) (v := 1) C dX3_reasonToRefuse_8 (by decide) ?_
    obtain rfl := Option.some.inj hf
    exact g_iret (v := 1) C E dX3_reasonToRefuse_9 (Nat.le_of_ble_eq_true rfl) (Nat.le_of_ble_eq_true rfl) ⟨rfl, rfl⟩
set_option maxRecDepth 100000 in
set_option maxHeartbeats 4000000 in
theorem cX3_reasonToRefuse_ (l : Launch) (htr : l.stackTraces = false) (D : va_G) (N : Nat) (aS : Nat → Nat) (v : VS) (p1 : Int32) (p2 : Int32) (r : Int32) (hf : fX3_reasonToRefuse N v p1 p2 = some r) : Tc l D yX3_reasonToRefuse wsX3_reasonToRefuse rmX3_reasonToRefuse [.ref (aS 0), .int p1, .int p2] (wS D aS v) (fun rv w => rv = some (.int r) ∧ w = (wS D aS v)) (fun _ _ => False) 0 0 := Tc_of htr (by decide +kernel) rfl (Nat.le_of_ble_eq_true rfl) (fun k C E hl hD => by subst hD; exact wkX3_reasonToRefuse C N aS v p1 p2 r hf E)
abbrev rmX3_blockAt : Room := { frames := 0, cells := 0, slots := 0, locals := 0 }
theorem inX3_blockAt_X3 : ∀ w ∈ wsX30, w ∈ wsX3_blockAt := by decide +kernel
theorem lkX3_blockAt_50 : Cond.fieldLink RX3 50 "GaugeBlocks$State" (TX3 8).2.1 (TX3 8).2.2.1 ∈ wsX3_blockAt := by decide +kernel
theorem lkX3_blockAt_24 : Cond.fieldLink RX3 24 "GaugeBlocks$State" (TX3 4).2.1 (TX3 4).2.2.1 ∈ wsX3_blockAt := by decide +kernel
theorem lkX3_blockAt_27 : Cond.fieldLink RX3 27 "GaugeBlocks$State" (TX3 5).2.1 (TX3 5).2.2.1 ∈ wsX3_blockAt := by decide +kernel
theorem hdX3_blockAt : yX3_blockAt.cls = RX3 ∧ yX3_blockAt.cls ≠ "java/lang/invoke/MethodHandle" ∧ yX3_blockAt.cls ≠ "java/lang/invoke/VarHandle" ∧ (parseMethodDescriptor yX3_blockAt.desc).map (fun d => d.parameters.length) = some 2 := by decide +kernel
def lX3_blockAt_2 (N : Nat) (v : VS) (l1 : Int32) (l2 : Int32) : Nat → Int32 → Option ((Unit) ⊕ (Int32))
  | 0, _ => none
  | n + 1, l3 => (if (sB v) ≤ l3 then some (.inl ()) else ck l3 20 ((if ((sK v) (Int32.toNatClampNeg l3)) = l1 then ck l3 20 ((if ((sP v) (Int32.toNatClampNeg l3)) = l2 then some (.inr l3) else (lX3_blockAt_2 N v l1 l2 n (l3 + 1)))) else (lX3_blockAt_2 N v l1 l2 n (l3 + 1)))))
set_option maxRecDepth 100000 in
set_option maxHeartbeats 4000000 in
theorem wlX3_blockAt_2 {k : Kt} (C : gC k cX3_blockAt 4 RX3 wsX3_blockAt rmX3_blockAt "blockAt") (N : Nat) (aS : Nat → Nat) (v : VS) (l1 : Int32) (l2 : Int32) : ∀ (n : Nat) (l3 : Int32) (u : (Unit) ⊕ (Int32)) (hf : lX3_blockAt_2 N v l1 l2 n l3 = some u) (hk0 : ∀ t : (Unit), u = (.inl t) → gG k (wS (kD k) aS v) [] 0 0 38 []) (hk1 : ∀ t : (Int32), u = (.inr t) → gG k (wS (kD k) aS v) [(3, .int t)] 0 0 30 []), gG k (wS (kD k) aS v) [(0, .ref (aS 0)), (1, .int l1), (2, .int l2), (3, .int l3)] 0 0 2 [] := by
  intro n
  induction n with
  | zero => intro l3 u hf hk0 hk1; rw [lX3_blockAt_2] at hf; cases hf
  | succ n ih =>
    intro l3 u hf hk0 hk1
    rw [lX3_blockAt_2] at hf
    refine g_iload_n (pc := 2) (x := l3) C dX3_blockAt_2 rfl ?_
    refine g_aload_n (pc := 3) (x := (aS 0)) C dX3_blockAt_3 rfl ?_
    refine g_getf (pc := 4) C 0 rfl rfl inX3_blockAt_X3 8 (by decide) lkX3_blockAt_50 rfl rfl dX3_blockAt_4 ?_
    refine g_icmp_ge (pc := 7) (tgt := 38) (x := l3) (y := (sB v)) hf C dX3_blockAt_7 (by decide) (fun hf => ?_) (fun hf => ?_)
    · obtain rfl := Option.some.inj hf
      refine g_lv [] (lv' := []) rfl ?_
      exact hk0 _ rfl
    · refine g_aload_n (pc := 10) (x := (aS 0)) C dX3_blockAt_10 rfl ?_
      refine g_getf (pc := 11) C 0 rfl rfl inX3_blockAt_X3 4 (by decide) lkX3_blockAt_24 rfl rfl dX3_blockAt_11 ?_
      refine g_iload_n (pc := 14) (x := l3) C dX3_blockAt_14 rfl ?_
      refine g_iald (pc := 15) (i := l3) hf C 5 rfl dX3_blockAt_15 (fun hf => ?_)
      refine g_iload_n (pc := 16) (x := l1) C dX3_blockAt_16 rfl ?_
      refine g_icmp_ne (pc := 17) (tgt := 32) (x := ((sK v) (Int32.toNatClampNeg l3))) (y := l1) hf C dX3_blockAt_17 (by decide) (fun hf => ?_) (fun hf => ?_)
      · refine g_iinc (pc := 32) (x := l3) (v := (l3 + 1)) (lv' := [(3, .int (l3 + 1)), (0, .ref (aS 0)), (1, .int l1), (2, .int l2)]) C dX3_blockAt_32 rfl rfl (by decide) rfl ?_
        refine g_goto (pc := 35) (tgt := 2) C dX3_blockAt_35 (by decide) ?_
        refine g_lv [1, 2, 3, 0] (lv' := [(0, .ref (aS 0)), (1, .int l1), (2, .int l2), (3, .int (l3 + 1))]) rfl ?_
        exact ih (l3 + 1) u hf hk0 hk1
      · refine g_aload_n (pc := 20) (x := (aS 0)) C dX3_blockAt_20 rfl ?_
        refine g_getf (pc := 21) C 0 rfl rfl inX3_blockAt_X3 5 (by decide) lkX3_blockAt_27 rfl rfl dX3_blockAt_21 ?_
        refine g_iload_n (pc := 24) (x := l3) C dX3_blockAt_24 rfl ?_
        refine g_iald (pc := 25) (i := l3) hf C 6 rfl dX3_blockAt_25 (fun hf => ?_)
        refine g_iload_n (pc := 26) (x := l2) C dX3_blockAt_26 rfl ?_
        refine g_icmp_ne (pc := 27) (tgt := 32) (x := ((sP v) (Int32.toNatClampNeg l3))) (y := l2) hf C dX3_blockAt_27 (by decide) (fun hf => ?_) (fun hf => ?_)
        · refine g_iinc (pc := 32) (x := l3) (v := (l3 + 1)) (lv' := [(3, .int (l3 + 1)), (0, .ref (aS 0)), (1, .int l1), (2, .int l2)]) C dX3_blockAt_32 rfl rfl (by decide) rfl ?_
          refine g_goto (pc := 35) (tgt := 2) C dX3_blockAt_35 (by decide) ?_
          refine g_lv [1, 2, 3, 0] (lv' := [(0, .ref (aS 0)), (1, .int l1), (2, .int l2), (3, .int (l3 + 1))]) rfl ?_
          exact ih (l3 + 1) u hf hk0 hk1
        · obtain rfl := Option.some.inj hf
          refine g_lv [3] (lv' := [(3, .int l3)]) rfl ?_
          exact hk1 _ rfl
def fX3_blockAt (N : Nat) (v : VS) (p1 : Int32) (p2 : Int32) : Option (Int32) := ((lX3_blockAt_2 N v p1 p2 N 0).bind fun r1 => Sum.elim (fun (t1 : (Unit)) => some (-1)) (fun (y0 : (Int32)) => (fun (t1 : (Int32)) => some t1) y0) r1)
set_option maxRecDepth 100000 in
set_option maxHeartbeats 4000000 in
theorem wkX3_blockAt {k : Kt} (C : gC k cX3_blockAt 4 RX3 wsX3_blockAt rmX3_blockAt "blockAt") (N : Nat) (aS : Nat → Nat) (v : VS) (p1 : Int32) (p2 : Int32) (r : Int32) (hf : fX3_blockAt N v p1 p2 = some r) (E : gE k (wS (kD k) aS v) (fun rv w => rv = some (.int r) ∧ w = (wS (kD k) aS v)) (fun _ _ => False) 0 0 (some .int) []) : gG k (wS (kD k) aS v) [(0, .ref (aS 0)), (1, .int p1), (2, .int p2)] 0 0 0 [] := by
  unfold fX3_blockAt at hf
  refine g_iconst (pc := 0) (v := 0) C dX3_blockAt_0 (by decide) ?_
  refine g_istore_n (pc := 1) (lv' := [(3, .int 0), (0, .ref (aS 0)), (1, .int p1), (2, .int p2)]) C dX3_blockAt_1 (by decide) rfl ?_
  obtain ⟨r1, h1, hf⟩ := bd_e hf
  refine g_lv [1, 2, 3, 0] (lv' := [(0, .ref (aS 0)), (1, .int p1), (2, .int p2), (3, .int 0)]) rfl ?_
  refine wlX3_blockAt_2 C N aS v p1 p2 N 0 r1 h1 (fun t1 e => ?_) (fun t1 e => ?_)
  · subst e
    refine g_iconst (pc := 38) (v := (-1)) C dX3_blockAt_38 (by decide) ?_
    obtain rfl := Option.some.inj hf
    exact g_iret (v := (-1)) C E dX3_blockAt_39 (Nat.le_of_ble_eq_true rfl) (Nat.le_of_ble_eq_true rfl) ⟨rfl, rfl⟩
  · subst e
    refine g_iload_n (pc := 30) (x := t1) C dX3_blockAt_30 rfl ?_
    obtain rfl := Option.some.inj hf
    exact g_iret (v := t1) C E dX3_blockAt_31 (Nat.le_of_ble_eq_true rfl) (Nat.le_of_ble_eq_true rfl) ⟨rfl, rfl⟩
set_option maxRecDepth 100000 in
set_option maxHeartbeats 4000000 in
theorem cX3_blockAt_ (l : Launch) (htr : l.stackTraces = false) (D : va_G) (N : Nat) (aS : Nat → Nat) (v : VS) (p1 : Int32) (p2 : Int32) (r : Int32) (hf : fX3_blockAt N v p1 p2 = some r) : Tc l D yX3_blockAt wsX3_blockAt rmX3_blockAt [.ref (aS 0), .int p1, .int p2] (wS D aS v) (fun rv w => rv = some (.int r) ∧ w = (wS D aS v)) (fun _ _ => False) 0 0 := Tc_of htr (by decide +kernel) rfl (Nat.le_of_ble_eq_true rfl) (fun k C E hl hD => by subst hD; exact wkX3_blockAt C N aS v p1 p2 r hf E)
abbrev rmX3_slide : Room := { frames := 2, cells := 0, slots := 0, locals := 37 }
theorem inX3_slide_X3 : ∀ w ∈ wsX30, w ∈ wsX3_slide := by decide +kernel
theorem lkX3_slide_41 : Cond.fieldLink RX3 41 "GaugeBlocks$State" (TX3 7).2.1 (TX3 7).2.2.1 ∈ wsX3_slide := by decide +kernel
theorem lkX3_slide_18 : Cond.fieldLink RX3 18 "GaugeBlocks$State" (TX3 2).2.1 (TX3 2).2.2.1 ∈ wsX3_slide := by decide +kernel
theorem hdX3_slide : yX3_slide.cls = RX3 ∧ yX3_slide.cls ≠ "java/lang/invoke/MethodHandle" ∧ yX3_slide.cls ≠ "java/lang/invoke/VarHandle" ∧ (parseMethodDescriptor yX3_slide.desc).map (fun d => d.parameters.length) = some 2 := by decide +kernel
def fX3_slide (N : Nat) (v : VS) (p1 : Int32) (p2 : Int32) : Option (VS) := ck 3 4 (((fX3_warm N v p1 ((sS v) (Int32.toNatClampNeg 3))).bind fun r1 => (if p2 = ((-1) : Int32) then some r1 else ck p1 20 (ck 2 4 (ck p1 20 (ck p2 20 (ck 2 4 (ck p2 20 (some ((sN r1), (sD r1), (upd (upd (sW r1) (Int32.toNatClampNeg p1) (((sW r1) (Int32.toNatClampNeg p1)) + ((sS r1) (Int32.toNatClampNeg 2)))) (Int32.toNatClampNeg p2) (((upd (sW r1) (Int32.toNatClampNeg p1) (((sW r1) (Int32.toNatClampNeg p1)) + ((sS r1) (Int32.toNatClampNeg 2)))) (Int32.toNatClampNeg p2)) + ((sS r1) (Int32.toNatClampNeg 2)))), (sH r1), (sK r1), (sP r1), (sT r1), (sS r1), (sB r1), (sM r1), (sG r1), (sO r1), (sR r1)))))))))))
set_option maxRecDepth 100000 in
set_option maxHeartbeats 4000000 in
theorem wkX3_slide {k : Kt} (C : gC k cX3_slide 3 RX3 wsX3_slide rmX3_slide "slide") (N : Nat) (aS : Nat → Nat) (v : VS) (p1 : Int32) (p2 : Int32) (r : VS) (hf : fX3_slide N v p1 p2 = some r) (E : gE k (wS (kD k) aS v) (fun rv w => rv = none ∧ w = (wS (kD k) aS r)) (fun _ _ => False) 0 0 none []) : gG k (wS (kD k) aS v) [(0, .ref (aS 0)), (1, .int p1), (2, .int p2)] 0 0 0 [] := by
  unfold fX3_slide at hf
  refine g_aload_n (pc := 0) (x := (aS 0)) C dX3_slide_0 rfl ?_
  refine g_iload_n (pc := 1) (x := p1) C dX3_slide_1 rfl ?_
  refine g_aload_n (pc := 2) (x := (aS 0)) C dX3_slide_2 rfl ?_
  refine g_getf (pc := 3) C 0 rfl rfl inX3_slide_X3 7 (by decide) lkX3_slide_41 rfl rfl dX3_slide_3 ?_
  refine g_iconst (pc := 6) (v := 3) C dX3_slide_6 (by decide) ?_
  refine g_iald (pc := 7) (i := 3) hf C 8 rfl dX3_slide_7 (fun hf => ?_)
  refine g_callW (wr := []) (pc' := 11) (cs' := 0) (sl' := 0) hf C (fun u => none) (fun u => (wS (kD k) aS u)) (fun u hu => gr_V (rest := []) C (cX3_warm_ (kL k) C.tr (kD k) N aS v p1 ((sS v) (Int32.toNatClampNeg 3)) u hu) (fun ht => cwV 2 ht gX3_slide_X3_warm rfl rfl rfl hdX3_warm ⟨(Nat.le_of_ble_eq_true rfl), (Nat.le_of_ble_eq_true rfl)⟩) 0 rfl rfl [0, 1, 2, 3, 4, 5, 6, 7, 8] rfl (by decide) rfl rfl (Nat.le_of_ble_eq_true rfl) dX3_slide_8 ⟨(Nat.le_of_ble_eq_true rfl), (Nat.le_of_ble_eq_true rfl)⟩) [0, 1, 2, 3, 4, 5, 6, 7, 8] [] rfl rfl (by decide) (by decide) [0, 1, 2, 3, 4, 5, 6, 7, 8] (by decide) (ws' := fun u => (wS (kD k) aS u)) (fun u => rfl) rfl rfl rfl (fun u => []) (fun u => rfl) (fun r1 hf => ?_)
  refine g_iload_n (pc := 11) (x := p2) C dX3_slide_11 rfl ?_
  refine g_iconst (pc := 12) (v := (-1)) C dX3_slide_12 (by decide) ?_
  refine g_icmp_eq (pc := 13) (tgt := 46) (x := p2) (y := (-1)) hf C dX3_slide_13 (by decide) (fun hf => ?_) (fun hf => ?_)
  · obtain rfl := Option.some.inj hf
    exact g_vret C E dX3_slide_46 (Nat.le_of_ble_eq_true rfl) (Nat.le_of_ble_eq_true rfl) ⟨rfl, rfl⟩
  · refine g_aload_n (pc := 16) (x := (aS 0)) C dX3_slide_16 rfl ?_
    refine g_getf (pc := 17) C 0 rfl rfl inX3_slide_X3 2 (by decide) lkX3_slide_18 rfl rfl dX3_slide_17 ?_
    refine g_iload_n (pc := 20) (x := p1) C dX3_slide_20 rfl ?_
    refine g_dup2 (pc := 21) C dX3_slide_21 rfl rfl ?_
    refine g_iald (pc := 22) (i := p1) hf C 3 rfl dX3_slide_22 (fun hf => ?_)
    refine g_aload_n (pc := 23) (x := (aS 0)) C dX3_slide_23 rfl ?_
    refine g_getf (pc := 24) C 0 rfl rfl inX3_slide_X3 7 (by decide) lkX3_slide_41 rfl rfl dX3_slide_24 ?_
    refine g_iconst (pc := 27) (v := 2) C dX3_slide_27 (by decide) ?_
    refine g_iald (pc := 28) (i := 2) hf C 8 rfl dX3_slide_28 (fun hf => ?_)
    refine g_iadd (pc := 29) (x := ((sW r1) (Int32.toNatClampNeg p1))) (y := ((sS r1) (Int32.toNatClampNeg 2))) C dX3_slide_29 ?_
    refine g_iast (pc := 30) (i := p1) (x := (((sW r1) (Int32.toNatClampNeg p1)) + ((sS r1) (Int32.toNatClampNeg 2)))) hf C 3 rfl dX3_slide_30 (ws' := (wS (kD k) aS ((sN r1), (sD r1), (upd (sW r1) (Int32.toNatClampNeg p1) (((sW r1) (Int32.toNatClampNeg p1)) + ((sS r1) (Int32.toNatClampNeg 2)))), (sH r1), (sK r1), (sP r1), (sT r1), (sS r1), (sB r1), (sM r1), (sG r1), (sO r1), (sR r1)))) rfl (fun hf => ?_)
    refine g_aload_n (pc := 31) (x := (aS 0)) C dX3_slide_31 rfl ?_
    refine g_getf (pc := 32) C 0 rfl rfl inX3_slide_X3 2 (by decide) lkX3_slide_18 rfl rfl dX3_slide_32 ?_
    refine g_iload_n (pc := 35) (x := p2) C dX3_slide_35 rfl ?_
    refine g_dup2 (pc := 36) C dX3_slide_36 rfl rfl ?_
    refine g_iald (pc := 37) (i := p2) hf C 3 rfl dX3_slide_37 (fun hf => ?_)
    refine g_aload_n (pc := 38) (x := (aS 0)) C dX3_slide_38 rfl ?_
    refine g_getf (pc := 39) C 0 rfl rfl inX3_slide_X3 7 (by decide) lkX3_slide_41 rfl rfl dX3_slide_39 ?_
    refine g_iconst (pc := 42) (v := 2) C dX3_slide_42 (by decide) ?_
    refine g_iald (pc := 43) (i := 2) hf C 8 rfl dX3_slide_43 (fun hf => ?_)
    refine g_iadd (pc := 44) (x := ((upd (sW r1) (Int32.toNatClampNeg p1) (((sW r1) (Int32.toNatClampNeg p1)) + ((sS r1) (Int32.toNatClampNeg 2)))) (Int32.toNatClampNeg p2))) (y := ((sS r1) (Int32.toNatClampNeg 2))) C dX3_slide_44 ?_
    refine g_iast (pc := 45) (i := p2) (x := (((upd (sW r1) (Int32.toNatClampNeg p1) (((sW r1) (Int32.toNatClampNeg p1)) + ((sS r1) (Int32.toNatClampNeg 2)))) (Int32.toNatClampNeg p2)) + ((sS r1) (Int32.toNatClampNeg 2)))) hf C 3 rfl dX3_slide_45 (ws' := (wS (kD k) aS ((sN r1), (sD r1), (upd (upd (sW r1) (Int32.toNatClampNeg p1) (((sW r1) (Int32.toNatClampNeg p1)) + ((sS r1) (Int32.toNatClampNeg 2)))) (Int32.toNatClampNeg p2) (((upd (sW r1) (Int32.toNatClampNeg p1) (((sW r1) (Int32.toNatClampNeg p1)) + ((sS r1) (Int32.toNatClampNeg 2)))) (Int32.toNatClampNeg p2)) + ((sS r1) (Int32.toNatClampNeg 2)))), (sH r1), (sK r1), (sP r1), (sT r1), (sS r1), (sB r1), (sM r1), (sG r1), (sO r1), (sR r1)))) rfl (fun hf => ?_)
    obtain rfl := Option.some.inj hf
    exact g_vret C E dX3_slide_46 (Nat.le_of_ble_eq_true rfl) (Nat.le_of_ble_eq_true rfl) ⟨rfl, rfl⟩
set_option maxRecDepth 100000 in
set_option maxHeartbeats 4000000 in
theorem cX3_slide_ (l : Launch) (htr : l.stackTraces = false) (D : va_G) (N : Nat) (aS : Nat → Nat) (v : VS) (p1 : Int32) (p2 : Int32) (r : VS) (hf : fX3_slide N v p1 p2 = some r) : Tc l D yX3_slide wsX3_slide rmX3_slide [.ref (aS 0), .int p1, .int p2] (wS D aS v) (fun rv w => rv = none ∧ w = (wS D aS r)) (fun _ _ => False) 0 0 := Tc_of htr (by decide +kernel) rfl (Nat.le_of_ble_eq_true rfl) (fun k C E hl hD => by subst hD; exact wkX3_slide C N aS v p1 p2 r hf E)
abbrev rmX3_putOnTop : Room := { frames := 3, cells := 0, slots := 0, locals := 59 }
theorem inX3_putOnTop_X3 : ∀ w ∈ wsX30, w ∈ wsX3_putOnTop := by decide +kernel
theorem lkX3_putOnTop_24 : Cond.fieldLink RX3 24 "GaugeBlocks$State" (TX3 4).2.1 (TX3 4).2.2.1 ∈ wsX3_putOnTop := by decide +kernel
theorem lkX3_putOnTop_27 : Cond.fieldLink RX3 27 "GaugeBlocks$State" (TX3 5).2.1 (TX3 5).2.2.1 ∈ wsX3_putOnTop := by decide +kernel
theorem lkX3_putOnTop_30 : Cond.fieldLink RX3 30 "GaugeBlocks$State" (TX3 6).2.1 (TX3 6).2.2.1 ∈ wsX3_putOnTop := by decide +kernel
theorem lkX3_putOnTop_57 : Cond.fieldLink RX3 57 "GaugeBlocks$State" (TX3 10).2.1 (TX3 10).2.2.1 ∈ wsX3_putOnTop := by decide +kernel
theorem hdX3_putOnTop : yX3_putOnTop.cls = RX3 ∧ yX3_putOnTop.cls ≠ "java/lang/invoke/MethodHandle" ∧ yX3_putOnTop.cls ≠ "java/lang/invoke/VarHandle" ∧ (parseMethodDescriptor yX3_putOnTop.desc).map (fun d => d.parameters.length) = some 2 := by decide +kernel
def fX3_putOnTop (N : Nat) (v : VS) (p1 : Int32) (p2 : Int32) : Option (VS) := ((fX3_heightOf N v p1).bind fun r1 => ((fX3_blockAt N v p1 (r1 - 1)).bind fun r2 => ((fX3_slide N v p2 r2).bind fun r3 => ck p2 20 (ck p2 20 (ck p2 20 (ck p2 20 (some ((sN r3), (sD r3), (sW r3), (sH r3), (upd (sK r3) (Int32.toNatClampNeg p2) p1), (upd (sP r3) (Int32.toNatClampNeg p2) r1), (upd (sT r3) (Int32.toNatClampNeg p2) (((sT r3) (Int32.toNatClampNeg p2)) + 1)), (sS r3), (sB r3), (sM r3), ((sG r3) + 1), (sO r3), (sR r3)))))))))
set_option maxRecDepth 100000 in
set_option maxHeartbeats 4000000 in
theorem wkX3_putOnTop {k : Kt} (C : gC k cX3_putOnTop 4 RX3 wsX3_putOnTop rmX3_putOnTop "putOnTop") (N : Nat) (aS : Nat → Nat) (v : VS) (p1 : Int32) (p2 : Int32) (r : VS) (hf : fX3_putOnTop N v p1 p2 = some r) (E : gE k (wS (kD k) aS v) (fun rv w => rv = none ∧ w = (wS (kD k) aS r)) (fun _ _ => False) 0 0 none []) : gG k (wS (kD k) aS v) [(0, .ref (aS 0)), (1, .int p1), (2, .int p2)] 0 0 0 [] := by
  unfold fX3_putOnTop at hf
  refine g_aload_n (pc := 0) (x := (aS 0)) C dX3_putOnTop_0 rfl ?_
  refine g_iload_n (pc := 1) (x := p1) C dX3_putOnTop_1 rfl ?_
  refine g_callR (pc' := 5) (cs' := 0) (sl' := 0) hf C (fun u => some (.int u)) (fun u hu => gr_V (rest := []) C (cX3_heightOf_ (kL k) C.tr (kD k) N aS v p1 u hu) (fun ht => cwV 1 ht gX3_putOnTop_X3_heightOf rfl rfl rfl hdX3_heightOf ⟨(Nat.le_of_ble_eq_true rfl), (Nat.le_of_ble_eq_true rfl)⟩) 0 rfl rfl [0, 1, 2, 3, 4, 5, 6, 7, 8] rfl (by decide) rfl rfl (Nat.le_of_ble_eq_true rfl) dX3_putOnTop_2 ⟨(Nat.le_of_ble_eq_true rfl), (Nat.le_of_ble_eq_true rfl)⟩) [0, 1, 2, 3, 4, 5, 6, 7, 8] rfl rfl rfl rfl (fun u => [.int u]) (fun u => rfl) (fun r1 hf => ?_)
  refine g_istore_n (pc := 5) (lv' := [(3, .int r1), (0, .ref (aS 0)), (1, .int p1), (2, .int p2)]) C dX3_putOnTop_5 (by decide) rfl ?_
  refine g_aload_n (pc := 6) (x := (aS 0)) C dX3_putOnTop_6 rfl ?_
  refine g_iload_n (pc := 7) (x := p2) C dX3_putOnTop_7 rfl ?_
  refine g_aload_n (pc := 8) (x := (aS 0)) C dX3_putOnTop_8 rfl ?_
  refine g_iload_n (pc := 9) (x := p1) C dX3_putOnTop_9 rfl ?_
  refine g_iload_n (pc := 10) (x := r1) C dX3_putOnTop_10 rfl ?_
  refine g_iconst (pc := 11) (v := 1) C dX3_putOnTop_11 (by decide) ?_
  refine g_isub (pc := 12) (x := r1) (y := 1) C dX3_putOnTop_12 ?_
  refine g_callR (pc' := 16) (cs' := 0) (sl' := 0) hf C (fun u => some (.int u)) (fun u hu => gr_V (rest := [.int p2, .ref (aS 0)]) C (cX3_blockAt_ (kL k) C.tr (kD k) N aS v p1 (r1 - 1) u hu) (fun ht => cwV 2 ht gX3_putOnTop_X3_blockAt rfl rfl rfl hdX3_blockAt ⟨(Nat.le_of_ble_eq_true rfl), (Nat.le_of_ble_eq_true rfl)⟩) 0 rfl rfl [0, 1, 2, 3, 4, 5, 6, 7, 8] rfl (by decide) rfl rfl (Nat.le_of_ble_eq_true rfl) dX3_putOnTop_13 ⟨(Nat.le_of_ble_eq_true rfl), (Nat.le_of_ble_eq_true rfl)⟩) [0, 1, 2, 3, 4, 5, 6, 7, 8] rfl rfl rfl rfl (fun u => [.int u, .int p2, .ref (aS 0)]) (fun u => rfl) (fun r2 hf => ?_)
  refine g_callW (wr := []) (pc' := 19) (cs' := 0) (sl' := 0) hf C (fun u => none) (fun u => (wS (kD k) aS u)) (fun u hu => gr_V (rest := []) C (cX3_slide_ (kL k) C.tr (kD k) N aS v p2 r2 u hu) (fun ht => cwV 2 ht gX3_putOnTop_X3_slide rfl rfl rfl hdX3_slide ⟨(Nat.le_of_ble_eq_true rfl), (Nat.le_of_ble_eq_true rfl)⟩) 0 rfl rfl [0, 1, 2, 3, 4, 5, 6, 7, 8] rfl (by decide) rfl rfl (Nat.le_of_ble_eq_true rfl) dX3_putOnTop_16 ⟨(Nat.le_of_ble_eq_true rfl), (Nat.le_of_ble_eq_true rfl)⟩) [0, 1, 2, 3, 4, 5, 6, 7, 8] [] rfl rfl (by decide) (by decide) [0, 1, 2, 3, 4, 5, 6, 7, 8] (by decide) (ws' := fun u => (wS (kD k) aS u)) (fun u => rfl) rfl rfl rfl (fun u => []) (fun u => rfl) (fun r3 hf => ?_)
  refine g_aload_n (pc := 19) (x := (aS 0)) C dX3_putOnTop_19 rfl ?_
  refine g_getf (pc := 20) C 0 rfl rfl inX3_putOnTop_X3 4 (by decide) lkX3_putOnTop_24 rfl rfl dX3_putOnTop_20 ?_
  refine g_iload_n (pc := 23) (x := p2) C dX3_putOnTop_23 rfl ?_
  refine g_iload_n (pc := 24) (x := p1) C dX3_putOnTop_24 rfl ?_
  refine g_iast (pc := 25) (i := p2) (x := p1) hf C 5 rfl dX3_putOnTop_25 (ws' := (wS (kD k) aS ((sN r3), (sD r3), (sW r3), (sH r3), (upd (sK r3) (Int32.toNatClampNeg p2) p1), (sP r3), (sT r3), (sS r3), (sB r3), (sM r3), (sG r3), (sO r3), (sR r3)))) rfl (fun hf => ?_)
  refine g_aload_n (pc := 26) (x := (aS 0)) C dX3_putOnTop_26 rfl ?_
  refine g_getf (pc := 27) C 0 rfl rfl inX3_putOnTop_X3 5 (by decide) lkX3_putOnTop_27 rfl rfl dX3_putOnTop_27 ?_
  refine g_iload_n (pc := 30) (x := p2) C dX3_putOnTop_30 rfl ?_
  refine g_iload_n (pc := 31) (x := r1) C dX3_putOnTop_31 rfl ?_
  refine g_iast (pc := 32) (i := p2) (x := r1) hf C 6 rfl dX3_putOnTop_32 (ws' := (wS (kD k) aS ((sN r3), (sD r3), (sW r3), (sH r3), (upd (sK r3) (Int32.toNatClampNeg p2) p1), (upd (sP r3) (Int32.toNatClampNeg p2) r1), (sT r3), (sS r3), (sB r3), (sM r3), (sG r3), (sO r3), (sR r3)))) rfl (fun hf => ?_)
  refine g_aload_n (pc := 33) (x := (aS 0)) C dX3_putOnTop_33 rfl ?_
  refine g_getf (pc := 34) C 0 rfl rfl inX3_putOnTop_X3 6 (by decide) lkX3_putOnTop_30 rfl rfl dX3_putOnTop_34 ?_
  refine g_iload_n (pc := 37) (x := p2) C dX3_putOnTop_37 rfl ?_
  refine g_dup2 (pc := 38) C dX3_putOnTop_38 rfl rfl ?_
  refine g_iald (pc := 39) (i := p2) hf C 7 rfl dX3_putOnTop_39 (fun hf => ?_)
  refine g_iconst (pc := 40) (v := 1) C dX3_putOnTop_40 (by decide) ?_
  refine g_iadd (pc := 41) (x := ((sT r3) (Int32.toNatClampNeg p2))) (y := 1) C dX3_putOnTop_41 ?_
  refine g_iast (pc := 42) (i := p2) (x := (((sT r3) (Int32.toNatClampNeg p2)) + 1)) hf C 7 rfl dX3_putOnTop_42 (ws' := (wS (kD k) aS ((sN r3), (sD r3), (sW r3), (sH r3), (upd (sK r3) (Int32.toNatClampNeg p2) p1), (upd (sP r3) (Int32.toNatClampNeg p2) r1), (upd (sT r3) (Int32.toNatClampNeg p2) (((sT r3) (Int32.toNatClampNeg p2)) + 1)), (sS r3), (sB r3), (sM r3), (sG r3), (sO r3), (sR r3)))) rfl (fun hf => ?_)
  refine g_aload_n (pc := 43) (x := (aS 0)) C dX3_putOnTop_43 rfl ?_
  refine g_dup (pc := 44) C dX3_putOnTop_44 rfl ?_
  refine g_getf (pc := 45) C 0 rfl rfl inX3_putOnTop_X3 10 (by decide) lkX3_putOnTop_57 rfl rfl dX3_putOnTop_45 ?_
  refine g_iconst (pc := 48) (v := 1) C dX3_putOnTop_48 (by decide) ?_
  refine g_iadd (pc := 49) (x := (sG r3)) (y := 1) C dX3_putOnTop_49 ?_
  refine g_putf (pc := 50) C 0 rfl rfl inX3_putOnTop_X3 tyX3 tyX3_ok nmX3 10 (by decide) lkX3_putOnTop_57 rfl rfl pfX3_10 rfl rfl (Nat.le_of_ble_eq_true rfl) dX3_putOnTop_50 (ws' := (wS (kD k) aS ((sN r3), (sD r3), (sW r3), (sH r3), (upd (sK r3) (Int32.toNatClampNeg p2) p1), (upd (sP r3) (Int32.toNatClampNeg p2) r1), (upd (sT r3) (Int32.toNatClampNeg p2) (((sT r3) (Int32.toNatClampNeg p2)) + 1)), (sS r3), (sB r3), (sM r3), ((sG r3) + 1), (sO r3), (sR r3)))) rfl ?_
  obtain rfl := Option.some.inj hf
  exact g_vret C E dX3_putOnTop_53 (Nat.le_of_ble_eq_true rfl) (Nat.le_of_ble_eq_true rfl) ⟨rfl, rfl⟩
set_option maxRecDepth 100000 in
set_option maxHeartbeats 4000000 in
theorem cX3_putOnTop_ (l : Launch) (htr : l.stackTraces = false) (D : va_G) (N : Nat) (aS : Nat → Nat) (v : VS) (p1 : Int32) (p2 : Int32) (r : VS) (hf : fX3_putOnTop N v p1 p2 = some r) : Tc l D yX3_putOnTop wsX3_putOnTop rmX3_putOnTop [.ref (aS 0), .int p1, .int p2] (wS D aS v) (fun rv w => rv = none ∧ w = (wS D aS r)) (fun _ _ => False) 0 0 := Tc_of htr (by decide +kernel) rfl (Nat.le_of_ble_eq_true rfl) (fun k C E hl hD => by subst hD; exact wkX3_putOnTop C N aS v p1 p2 r hf E)
abbrev rmX3_tryToWring : Room := { frames := 4, cells := 0, slots := 0, locals := 86 }
theorem inX3_tryToWring_X3 : ∀ w ∈ wsX30, w ∈ wsX3_tryToWring := by decide +kernel
theorem lkX3_tryToWring_63 : Cond.fieldLink RX3 63 "GaugeBlocks$State" (TX3 12).2.1 (TX3 12).2.2.1 ∈ wsX3_tryToWring := by decide +kernel
theorem hdX3_tryToWring : yX3_tryToWring.cls = RX3 ∧ yX3_tryToWring.cls ≠ "java/lang/invoke/MethodHandle" ∧ yX3_tryToWring.cls ≠ "java/lang/invoke/VarHandle" ∧ (parseMethodDescriptor yX3_tryToWring.desc).map (fun d => d.parameters.length) = some 2 := by decide +kernel
def fX3_tryToWring (N : Nat) (v : VS) (p1 : Int32) (p2 : Int32) : Option (VS × Int32) := ((fX3_reasonToRefuse N v p1 p2).bind fun r1 => (if r1 = (0 : Int32) then ((fX3_putOnTop N v p1 p2).bind fun r2 => some (r2, r1)) else some (((sN v), (sD v), (sW v), (sH v), (sK v), (sP v), (sT v), (sS v), (sB v), (sM v), (sG v), (sO v), ((sR v) + 1)), r1)))
set_option maxRecDepth 100000 in
set_option maxHeartbeats 4000000 in
theorem wkX3_tryToWring {k : Kt} (C : gC k cX3_tryToWring 4 RX3 wsX3_tryToWring rmX3_tryToWring "tryToWring") (N : Nat) (aS : Nat → Nat) (v : VS) (p1 : Int32) (p2 : Int32) (r : VS × Int32) (hf : fX3_tryToWring N v p1 p2 = some r) (E : gE k (wS (kD k) aS v) (fun rv w => rv = some (.int r.2) ∧ w = (wS (kD k) aS r.1)) (fun _ _ => False) 0 0 (some .int) []) : gG k (wS (kD k) aS v) [(0, .ref (aS 0)), (1, .int p1), (2, .int p2)] 0 0 0 [] := by
  unfold fX3_tryToWring at hf
  refine g_aload_n (pc := 0) (x := (aS 0)) C dX3_tryToWring_0 rfl ?_
  refine g_iload_n (pc := 1) (x := p1) C dX3_tryToWring_1 rfl ?_
  refine g_iload_n (pc := 2) (x := p2) C dX3_tryToWring_2 rfl ?_
  refine g_callR (pc' := 6) (cs' := 0) (sl' := 0) hf C (fun u => some (.int u)) (fun u hu => gr_V (rest := []) C (cX3_reasonToRefuse_ (kL k) C.tr (kD k) N aS v p1 p2 u hu) (fun ht => cwV 2 ht gX3_tryToWring_X3_reasonToRefuse rfl rfl rfl hdX3_reasonToRefuse ⟨(Nat.le_of_ble_eq_true rfl), (Nat.le_of_ble_eq_true rfl)⟩) 0 rfl rfl [0, 1, 2, 3, 4, 5, 6, 7, 8] rfl (by decide) rfl rfl (Nat.le_of_ble_eq_true rfl) dX3_tryToWring_3 ⟨(Nat.le_of_ble_eq_true rfl), (Nat.le_of_ble_eq_true rfl)⟩) [0, 1, 2, 3, 4, 5, 6, 7, 8] rfl rfl rfl rfl (fun u => [.int u]) (fun u => rfl) (fun r1 hf => ?_)
  refine g_istore_n (pc := 6) (lv' := [(3, .int r1), (0, .ref (aS 0)), (1, .int p1), (2, .int p2)]) C dX3_tryToWring_6 (by decide) rfl ?_
  refine g_iload_n (pc := 7) (x := r1) C dX3_tryToWring_7 rfl ?_
  refine g_if_ne (pc := 8) (tgt := 20) (x := r1) hf C dX3_tryToWring_8 (by decide) (fun hf => ?_) (fun hf => ?_)
  · refine g_aload_n (pc := 20) (x := (aS 0)) C dX3_tryToWring_20 rfl ?_
    refine g_dup (pc := 21) C dX3_tryToWring_21 rfl ?_
    refine g_getf (pc := 22) C 0 rfl rfl inX3_tryToWring_X3 12 (by decide) lkX3_tryToWring_63 rfl rfl dX3_tryToWring_22 ?_
    refine g_iconst (pc := 25) (v := 1) C dX3_tryToWring_25 (by decide) ?_
    refine g_iadd (pc := 26) (x := (sR v)) (y := 1) C dX3_tryToWring_26 ?_
    refine g_putf (pc := 27) C 0 rfl rfl inX3_tryToWring_X3 tyX3 tyX3_ok nmX3 12 (by decide) lkX3_tryToWring_63 rfl rfl pfX3_12 rfl rfl (Nat.le_of_ble_eq_true rfl) dX3_tryToWring_27 (ws' := (wS (kD k) aS ((sN v), (sD v), (sW v), (sH v), (sK v), (sP v), (sT v), (sS v), (sB v), (sM v), (sG v), (sO v), ((sR v) + 1)))) rfl ?_
    refine g_iload_n (pc := 30) (x := r1) C dX3_tryToWring_30 rfl ?_
    obtain rfl := Option.some.inj hf
    exact g_iret (v := r1) C E dX3_tryToWring_31 (Nat.le_of_ble_eq_true rfl) (Nat.le_of_ble_eq_true rfl) ⟨rfl, rfl⟩
  · refine g_aload_n (pc := 11) (x := (aS 0)) C dX3_tryToWring_11 rfl ?_
    refine g_iload_n (pc := 12) (x := p1) C dX3_tryToWring_12 rfl ?_
    refine g_iload_n (pc := 13) (x := p2) C dX3_tryToWring_13 rfl ?_
    refine g_callW (wr := []) (pc' := 17) (cs' := 0) (sl' := 0) hf C (fun u => none) (fun u => (wS (kD k) aS u)) (fun u hu => gr_V (rest := []) C (cX3_putOnTop_ (kL k) C.tr (kD k) N aS v p1 p2 u hu) (fun ht => cwV 2 ht gX3_tryToWring_X3_putOnTop rfl rfl rfl hdX3_putOnTop ⟨(Nat.le_of_ble_eq_true rfl), (Nat.le_of_ble_eq_true rfl)⟩) 0 rfl rfl [0, 1, 2, 3, 4, 5, 6, 7, 8] rfl (by decide) rfl rfl (Nat.le_of_ble_eq_true rfl) dX3_tryToWring_14 ⟨(Nat.le_of_ble_eq_true rfl), (Nat.le_of_ble_eq_true rfl)⟩) [0, 1, 2, 3, 4, 5, 6, 7, 8] [] rfl rfl (by decide) (by decide) [0, 1, 2, 3, 4, 5, 6, 7, 8] (by decide) (ws' := fun u => (wS (kD k) aS u)) (fun u => rfl) rfl rfl rfl (fun u => []) (fun u => rfl) (fun r2 hf => ?_)
    refine g_goto (pc := 17) (tgt := 30) C dX3_tryToWring_17 (by decide) ?_
    refine g_iload_n (pc := 30) (x := r1) C dX3_tryToWring_30 rfl ?_
    obtain rfl := Option.some.inj hf
    exact g_iret (v := r1) C E dX3_tryToWring_31 (Nat.le_of_ble_eq_true rfl) (Nat.le_of_ble_eq_true rfl) ⟨rfl, rfl⟩
set_option maxRecDepth 100000 in
set_option maxHeartbeats 4000000 in
theorem cX3_tryToWring_ (l : Launch) (htr : l.stackTraces = false) (D : va_G) (N : Nat) (aS : Nat → Nat) (v : VS) (p1 : Int32) (p2 : Int32) (r : VS × Int32) (hf : fX3_tryToWring N v p1 p2 = some r) : Tc l D yX3_tryToWring wsX3_tryToWring rmX3_tryToWring [.ref (aS 0), .int p1, .int p2] (wS D aS v) (fun rv w => rv = some (.int r.2) ∧ w = (wS D aS r.1)) (fun _ _ => False) 0 0 := Tc_of htr (by decide +kernel) rfl (Nat.le_of_ble_eq_true rfl) (fun k C E hl hD => by subst hD; exact wkX3_tryToWring C N aS v p1 p2 r hf E)
abbrev rmX3_wringSet : Room := { frames := 5, cells := 0, slots := 0, locals := 109 }
theorem inX3_wringSet_X3 : ∀ w ∈ wsX30, w ∈ wsX3_wringSet := by decide +kernel
theorem lkX3_wringSet_50 : Cond.fieldLink RX3 50 "GaugeBlocks$State" (TX3 8).2.1 (TX3 8).2.2.1 ∈ wsX3_wringSet := by decide +kernel
theorem hdX3_wringSet : yX3_wringSet.cls = RX3 ∧ yX3_wringSet.cls ≠ "java/lang/invoke/MethodHandle" ∧ yX3_wringSet.cls ≠ "java/lang/invoke/VarHandle" ∧ (parseMethodDescriptor yX3_wringSet.desc).map (fun d => d.parameters.length) = some 2 := by decide +kernel
def lX3_wringSet_5 (N : Nat) (l1 : Int32) (l2 : Int32) : Nat → VS → Int32 → Int32 → Option ((VS × Int32) ⊕ (VS × Int32))
  | 0, _, _, _ => none
  | n + 1, v, l3, l4 => (if (sB v) ≤ l4 then some (.inl (v, l3)) else (if ((l2 >>> (l4 &&& 31)) &&& 1) = (0 : Int32) then (lX3_wringSet_5 N l1 l2 n v l3 (l4 + 1)) else ((fX3_tryToWring N v l1 l4).bind fun r1 => (if r1.2 = (0 : Int32) then (lX3_wringSet_5 N l1 l2 n r1.1 (l3 + 1) (l4 + 1)) else some (.inr (r1.1, l3))))))
set_option maxRecDepth 100000 in
set_option maxHeartbeats 4000000 in
theorem wlX3_wringSet_5 {k : Kt} (C : gC k cX3_wringSet 5 RX3 wsX3_wringSet rmX3_wringSet "wringSet") (N : Nat) (aS : Nat → Nat) (l1 : Int32) (l2 : Int32) : ∀ (n : Nat) (v : VS) (l3 : Int32) (l4 : Int32) (u : (VS × Int32) ⊕ (VS × Int32)) (hf : lX3_wringSet_5 N l1 l2 n v l3 l4 = some u) (hk0 : ∀ t : (VS × Int32), u = (.inl t) → gG k (wS (kD k) aS t.1) [(3, .int t.2)] 0 0 44 []) (hk1 : ∀ t : (VS × Int32), u = (.inr t) → gG k (wS (kD k) aS t.1) [(3, .int t.2)] 0 0 33 []), gG k (wS (kD k) aS v) [(0, .ref (aS 0)), (1, .int l1), (2, .int l2), (3, .int l3), (4, .int l4)] 0 0 5 [] := by
  intro n
  induction n with
  | zero => intro v l3 l4 u hf hk0 hk1; rw [lX3_wringSet_5] at hf; cases hf
  | succ n ih =>
    intro v l3 l4 u hf hk0 hk1
    rw [lX3_wringSet_5] at hf
    refine g_iload (pc := 5) (x := l4) C dX3_wringSet_5 rfl ?_
    refine g_aload_n (pc := 7) (x := (aS 0)) C dX3_wringSet_7 rfl ?_
    refine g_getf (pc := 8) C 0 rfl rfl inX3_wringSet_X3 8 (by decide) lkX3_wringSet_50 rfl rfl dX3_wringSet_8 ?_
    refine g_icmp_ge (pc := 11) (tgt := 44) (x := l4) (y := (sB v)) hf C dX3_wringSet_11 (by decide) (fun hf => ?_) (fun hf => ?_)
    · obtain rfl := Option.some.inj hf
      refine g_lv [3] (lv' := [(3, .int l3)]) rfl ?_
      exact hk0 _ rfl
    · refine g_iload_n (pc := 14) (x := l2) C dX3_wringSet_14 rfl ?_
      refine g_iload (pc := 15) (x := l4) C dX3_wringSet_15 rfl ?_
      refine g_ishr (pc := 17) (x := l2) (y := l4) C dX3_wringSet_17 ?_
      refine g_iconst (pc := 18) (v := 1) C dX3_wringSet_18 (by decide) ?_
      refine g_iand (pc := 19) (x := (l2 >>> (l4 &&& 31))) (y := 1) C dX3_wringSet_19 ?_
      refine g_if_eq (pc := 20) (tgt := 38) (x := ((l2 >>> (l4 &&& 31)) &&& 1)) hf C dX3_wringSet_20 (by decide) (fun hf => ?_) (fun hf => ?_)
      · refine g_iinc (pc := 38) (x := l4) (v := (l4 + 1)) (lv' := [(4, .int (l4 + 1)), (0, .ref (aS 0)), (1, .int l1), (2, .int l2), (3, .int l3)]) C dX3_wringSet_38 rfl rfl (by decide) rfl ?_
        refine g_goto (pc := 41) (tgt := 5) C dX3_wringSet_41 (by decide) ?_
        refine g_lv [1, 2, 3, 4, 0] (lv' := [(0, .ref (aS 0)), (1, .int l1), (2, .int l2), (3, .int l3), (4, .int (l4 + 1))]) rfl ?_
        exact ih v l3 (l4 + 1) u hf hk0 hk1
      · refine g_aload_n (pc := 23) (x := (aS 0)) C dX3_wringSet_23 rfl ?_
        refine g_iload_n (pc := 24) (x := l1) C dX3_wringSet_24 rfl ?_
        refine g_iload (pc := 25) (x := l4) C dX3_wringSet_25 rfl ?_
        refine g_callW (wr := []) (pc' := 30) (cs' := 0) (sl' := 0) hf C (fun u => some (.int u.2)) (fun u => (wS (kD k) aS u.1)) (fun u hu => gr_V (rest := []) C (cX3_tryToWring_ (kL k) C.tr (kD k) N aS v l1 l4 u hu) (fun ht => cwV 2 ht gX3_wringSet_X3_tryToWring rfl rfl rfl hdX3_tryToWring ⟨(Nat.le_of_ble_eq_true rfl), (Nat.le_of_ble_eq_true rfl)⟩) 0 rfl rfl [0, 1, 2, 3, 4, 5, 6, 7, 8] rfl (by decide) rfl rfl (Nat.le_of_ble_eq_true rfl) dX3_wringSet_27 ⟨(Nat.le_of_ble_eq_true rfl), (Nat.le_of_ble_eq_true rfl)⟩) [0, 1, 2, 3, 4, 5, 6, 7, 8] [] rfl rfl (by decide) (by decide) [0, 1, 2, 3, 4, 5, 6, 7, 8] (by decide) (ws' := fun u => (wS (kD k) aS u.1)) (fun u => rfl) rfl rfl rfl (fun u => [.int u.2]) (fun u => rfl) (fun r1 hf => ?_)
        refine g_if_eq (pc := 30) (tgt := 35) (x := r1.2) hf C dX3_wringSet_30 (by decide) (fun hf => ?_) (fun hf => ?_)
        · refine g_iinc (pc := 35) (x := l3) (v := (l3 + 1)) (lv' := [(3, .int (l3 + 1)), (0, .ref (aS 0)), (1, .int l1), (2, .int l2), (4, .int l4)]) C dX3_wringSet_35 rfl rfl (by decide) rfl ?_
          refine g_iinc (pc := 38) (x := l4) (v := (l4 + 1)) (lv' := [(4, .int (l4 + 1)), (3, .int (l3 + 1)), (0, .ref (aS 0)), (1, .int l1), (2, .int l2)]) C dX3_wringSet_38 rfl rfl (by decide) rfl ?_
          refine g_goto (pc := 41) (tgt := 5) C dX3_wringSet_41 (by decide) ?_
          refine g_lv [2, 3, 4, 1, 0] (lv' := [(0, .ref (aS 0)), (1, .int l1), (2, .int l2), (3, .int (l3 + 1)), (4, .int (l4 + 1))]) rfl ?_
          exact ih r1.1 (l3 + 1) (l4 + 1) u hf hk0 hk1
        · obtain rfl := Option.some.inj hf
          refine g_lv [3] (lv' := [(3, .int l3)]) rfl ?_
          exact hk1 _ rfl
def fX3_wringSet (N : Nat) (v : VS) (p1 : Int32) (p2 : Int32) : Option (VS × Int32) := ((lX3_wringSet_5 N p1 p2 N v 0 0).bind fun r1 => Sum.elim (fun (t1 : (VS × Int32)) => some (t1.1, t1.2)) (fun (y0 : (VS × Int32)) => (fun (t1 : (VS × Int32)) => some (t1.1, t1.2)) y0) r1)
set_option maxRecDepth 100000 in
set_option maxHeartbeats 4000000 in
theorem wkX3_wringSet {k : Kt} (C : gC k cX3_wringSet 5 RX3 wsX3_wringSet rmX3_wringSet "wringSet") (N : Nat) (aS : Nat → Nat) (v : VS) (p1 : Int32) (p2 : Int32) (r : VS × Int32) (hf : fX3_wringSet N v p1 p2 = some r) (E : gE k (wS (kD k) aS v) (fun rv w => rv = some (.int r.2) ∧ w = (wS (kD k) aS r.1)) (fun _ _ => False) 0 0 (some .int) []) : gG k (wS (kD k) aS v) [(0, .ref (aS 0)), (1, .int p1), (2, .int p2)] 0 0 0 [] := by
  unfold fX3_wringSet at hf
  refine g_iconst (pc := 0) (v := 0) C dX3_wringSet_0 (by decide) ?_
  refine g_istore_n (pc := 1) (lv' := [(3, .int 0), (0, .ref (aS 0)), (1, .int p1), (2, .int p2)]) C dX3_wringSet_1 (by decide) rfl ?_
  refine g_iconst (pc := 2) (v := 0) C dX3_wringSet_2 (by decide) ?_
  refine g_istore (pc := 3) (lv' := [(4, .int 0), (3, .int 0), (0, .ref (aS 0)), (1, .int p1), (2, .int p2)]) C dX3_wringSet_3 (by decide) rfl ?_
  obtain ⟨r1, h1, hf⟩ := bd_e hf
  refine g_lv [2, 3, 4, 1, 0] (lv' := [(0, .ref (aS 0)), (1, .int p1), (2, .int p2), (3, .int 0), (4, .int 0)]) rfl ?_
  refine wlX3_wringSet_5 C N aS p1 p2 N v 0 0 r1 h1 (fun t1 e => ?_) (fun t1 e => ?_)
  · subst e
    refine g_iload_n (pc := 44) (x := t1.2) C dX3_wringSet_44 rfl ?_
    obtain rfl := Option.some.inj hf
    exact g_iret (v := t1.2) C E dX3_wringSet_45 (Nat.le_of_ble_eq_true rfl) (Nat.le_of_ble_eq_true rfl) ⟨rfl, rfl⟩
  · subst e
    refine g_iload_n (pc := 33) (x := t1.2) C dX3_wringSet_33 rfl ?_
    obtain rfl := Option.some.inj hf
    exact g_iret (v := t1.2) C E dX3_wringSet_34 (Nat.le_of_ble_eq_true rfl) (Nat.le_of_ble_eq_true rfl) ⟨rfl, rfl⟩
set_option maxRecDepth 100000 in
set_option maxHeartbeats 4000000 in
theorem cX3_wringSet_ (l : Launch) (htr : l.stackTraces = false) (D : va_G) (N : Nat) (aS : Nat → Nat) (v : VS) (p1 : Int32) (p2 : Int32) (r : VS × Int32) (hf : fX3_wringSet N v p1 p2 = some r) : Tc l D yX3_wringSet wsX3_wringSet rmX3_wringSet [.ref (aS 0), .int p1, .int p2] (wS D aS v) (fun rv w => rv = some (.int r.2) ∧ w = (wS D aS r.1)) (fun _ _ => False) 0 0 := Tc_of htr (by decide +kernel) rfl (Nat.le_of_ble_eq_true rfl) (fun k C E hl hD => by subst hD; exact wkX3_wringSet C N aS v p1 p2 r hf E)
abbrev rmX3_takeTopOff : Room := { frames := 3, cells := 0, slots := 0, locals := 59 }
theorem inX3_takeTopOff_X3 : ∀ w ∈ wsX30, w ∈ wsX3_takeTopOff := by decide +kernel
theorem lkX3_takeTopOff_24 : Cond.fieldLink RX3 24 "GaugeBlocks$State" (TX3 4).2.1 (TX3 4).2.2.1 ∈ wsX3_takeTopOff := by decide +kernel
theorem lkX3_takeTopOff_27 : Cond.fieldLink RX3 27 "GaugeBlocks$State" (TX3 5).2.1 (TX3 5).2.2.1 ∈ wsX3_takeTopOff := by decide +kernel
theorem lkX3_takeTopOff_60 : Cond.fieldLink RX3 60 "GaugeBlocks$State" (TX3 11).2.1 (TX3 11).2.2.1 ∈ wsX3_takeTopOff := by decide +kernel
theorem hdX3_takeTopOff : yX3_takeTopOff.cls = RX3 ∧ yX3_takeTopOff.cls ≠ "java/lang/invoke/MethodHandle" ∧ yX3_takeTopOff.cls ≠ "java/lang/invoke/VarHandle" ∧ (parseMethodDescriptor yX3_takeTopOff.desc).map (fun d => d.parameters.length) = some 1 := by decide +kernel
def fX3_takeTopOff (N : Nat) (v : VS) (p1 : Int32) : Option (VS × Int32) := ((fX3_heightOf N v p1).bind fun r1 => ((fX3_blockAt N v p1 (r1 - 1)).bind fun r2 => (if r2 = ((-1) : Int32) then some (v, (-1)) else ((fX3_blockAt N v p1 (r1 - 2)).bind fun r3 => ((fX3_slide N v r2 r3).bind fun r4 => ck r2 20 (ck r2 20 (some (((sN r4), (sD r4), (sW r4), (sH r4), (upd (sK r4) (Int32.toNatClampNeg r2) (-1)), (upd (sP r4) (Int32.toNatClampNeg r2) (-1)), (sT r4), (sS r4), (sB r4), (sM r4), (sG r4), ((sO r4) + 1), (sR r4)), r2))))))))
set_option maxRecDepth 100000 in
set_option maxHeartbeats 4000000 in
theorem wkX3_takeTopOff {k : Kt} (C : gC k cX3_takeTopOff 4 RX3 wsX3_takeTopOff rmX3_takeTopOff "takeTopOff") (N : Nat) (aS : Nat → Nat) (v : VS) (p1 : Int32) (r : VS × Int32) (hf : fX3_takeTopOff N v p1 = some r) (E : gE k (wS (kD k) aS v) (fun rv w => rv = some (.int r.2) ∧ w = (wS (kD k) aS r.1)) (fun _ _ => False) 0 0 (some .int) []) : gG k (wS (kD k) aS v) [(0, .ref (aS 0)), (1, .int p1)] 0 0 0 [] := by
  unfold fX3_takeTopOff at hf
  refine g_aload_n (pc := 0) (x := (aS 0)) C dX3_takeTopOff_0 rfl ?_
  refine g_iload_n (pc := 1) (x := p1) C dX3_takeTopOff_1 rfl ?_
  refine g_callR (pc' := 5) (cs' := 0) (sl' := 0) hf C (fun u => some (.int u)) (fun u hu => gr_V (rest := []) C (cX3_heightOf_ (kL k) C.tr (kD k) N aS v p1 u hu) (fun ht => cwV 1 ht gX3_takeTopOff_X3_heightOf rfl rfl rfl hdX3_heightOf ⟨(Nat.le_of_ble_eq_true rfl), (Nat.le_of_ble_eq_true rfl)⟩) 0 rfl rfl [0, 1, 2, 3, 4, 5, 6, 7, 8] rfl (by decide) rfl rfl (Nat.le_of_ble_eq_true rfl) dX3_takeTopOff_2 ⟨(Nat.le_of_ble_eq_true rfl), (Nat.le_of_ble_eq_true rfl)⟩) [0, 1, 2, 3, 4, 5, 6, 7, 8] rfl rfl rfl rfl (fun u => [.int u]) (fun u => rfl) (fun r1 hf => ?_)
  refine g_istore_n (pc := 5) (lv' := [(2, .int r1), (0, .ref (aS 0)), (1, .int p1)]) C dX3_takeTopOff_5 (by decide) rfl ?_
  refine g_aload_n (pc := 6) (x := (aS 0)) C dX3_takeTopOff_6 rfl ?_
  refine g_iload_n (pc := 7) (x := p1) C dX3_takeTopOff_7 rfl ?_
  refine g_iload_n (pc := 8) (x := r1) C dX3_takeTopOff_8 rfl ?_
  refine g_iconst (pc := 9) (v := 1) C dX3_takeTopOff_9 (by decide) ?_
  refine g_isub (pc := 10) (x := r1) (y := 1) C dX3_takeTopOff_10 ?_
  refine g_callR (pc' := 14) (cs' := 0) (sl' := 0) hf C (fun u => some (.int u)) (fun u hu => gr_V (rest := []) C (cX3_blockAt_ (kL k) C.tr (kD k) N aS v p1 (r1 - 1) u hu) (fun ht => cwV 2 ht gX3_takeTopOff_X3_blockAt rfl rfl rfl hdX3_blockAt ⟨(Nat.le_of_ble_eq_true rfl), (Nat.le_of_ble_eq_true rfl)⟩) 0 rfl rfl [0, 1, 2, 3, 4, 5, 6, 7, 8] rfl (by decide) rfl rfl (Nat.le_of_ble_eq_true rfl) dX3_takeTopOff_11 ⟨(Nat.le_of_ble_eq_true rfl), (Nat.le_of_ble_eq_true rfl)⟩) [0, 1, 2, 3, 4, 5, 6, 7, 8] rfl rfl rfl rfl (fun u => [.int u]) (fun u => rfl) (fun r2 hf => ?_)
  refine g_istore_n (pc := 14) (lv' := [(3, .int r2), (2, .int r1), (0, .ref (aS 0)), (1, .int p1)]) C dX3_takeTopOff_14 (by decide) rfl ?_
  refine g_iload_n (pc := 15) (x := r2) C dX3_takeTopOff_15 rfl ?_
  refine g_iconst (pc := 16) (v := (-1)) C dX3_takeTopOff_16 (by decide) ?_
  refine g_icmp_ne (pc := 17) (tgt := 22) (x := r2) (y := (-1)) hf C dX3_takeTopOff_17 (by decide) (fun hf => ?_) (fun hf => ?_)
  · refine g_aload_n (pc := 22) (x := (aS 0)) C dX3_takeTopOff_22 rfl ?_
    refine g_iload_n (pc := 23) (x := r2) C dX3_takeTopOff_23 rfl ?_
    refine g_aload_n (pc := 24) (x := (aS 0)) C dX3_takeTopOff_24 rfl ?_
    refine g_iload_n (pc := 25) (x := p1) C dX3_takeTopOff_25 rfl ?_
    refine g_iload_n (pc := 26) (x := r1) C dX3_takeTopOff_26 rfl ?_
    refine g_iconst (pc := 27) (v := 2) C dX3_takeTopOff_27 (by decide) ?_
    refine g_isub (pc := 28) (x := r1) (y := 2) C dX3_takeTopOff_28 ?_
    refine g_callR (pc' := 32) (cs' := 0) (sl' := 0) hf C (fun u => some (.int u)) (fun u hu => gr_V (rest := [.int r2, .ref (aS 0)]) C (cX3_blockAt_ (kL k) C.tr (kD k) N aS v p1 (r1 - 2) u hu) (fun ht => cwV 2 ht gX3_takeTopOff_X3_blockAt rfl rfl rfl hdX3_blockAt ⟨(Nat.le_of_ble_eq_true rfl), (Nat.le_of_ble_eq_true rfl)⟩) 0 rfl rfl [0, 1, 2, 3, 4, 5, 6, 7, 8] rfl (by decide) rfl rfl (Nat.le_of_ble_eq_true rfl) dX3_takeTopOff_29 ⟨(Nat.le_of_ble_eq_true rfl), (Nat.le_of_ble_eq_true rfl)⟩) [0, 1, 2, 3, 4, 5, 6, 7, 8] rfl rfl rfl rfl (fun u => [.int u, .int r2, .ref (aS 0)]) (fun u => rfl) (fun r3 hf => ?_)
    refine g_callW (wr := []) (pc' := 35) (cs' := 0) (sl' := 0) hf C (fun u => none) (fun u => (wS (kD k) aS u)) (fun u hu => gr_V (rest := []) C (cX3_slide_ (kL k) C.tr (kD k) N aS v r2 r3 u hu) (fun ht => cwV 2 ht gX3_takeTopOff_X3_slide rfl rfl rfl hdX3_slide ⟨(Nat.le_of_ble_eq_true rfl), (Nat.le_of_ble_eq_true rfl)⟩) 0 rfl rfl [0, 1, 2, 3, 4, 5, 6, 7, 8] rfl (by decide) rfl rfl (Nat.le_of_ble_eq_true rfl) dX3_takeTopOff_32 ⟨(Nat.le_of_ble_eq_true rfl), (Nat.le_of_ble_eq_true rfl)⟩) [0, 1, 2, 3, 4, 5, 6, 7, 8] [] rfl rfl (by decide) (by decide) [0, 1, 2, 3, 4, 5, 6, 7, 8] (by decide) (ws' := fun u => (wS (kD k) aS u)) (fun u => rfl) rfl rfl rfl (fun u => []) (fun u => rfl) (fun r4 hf => ?_)
    refine g_aload_n (pc := 35) (x := (aS 0)) C dX3_takeTopOff_35 rfl ?_
    refine g_getf (pc := 36) C 0 rfl rfl inX3_takeTopOff_X3 4 (by decide) lkX3_takeTopOff_24 rfl rfl dX3_takeTopOff_36 ?_
    refine g_iload_n (pc := 39) (x := r2) C dX3_takeTopOff_39 rfl ?_
    refine g_iconst (pc := 40) (v := (-1)) C dX3_takeTopOff_40 (by decide) ?_
    refine g_iast (pc := 41) (i := r2) (x := (-1)) hf C 5 rfl dX3_takeTopOff_41 (ws' := (wS (kD k) aS ((sN r4), (sD r4), (sW r4), (sH r4), (upd (sK r4) (Int32.toNatClampNeg r2) (-1)), (sP r4), (sT r4), (sS r4), (sB r4), (sM r4), (sG r4), (sO r4), (sR r4)))) rfl (fun hf => ?_)
    refine g_aload_n (pc := 42) (x := (aS 0)) C dX3_takeTopOff_42 rfl ?_
    refine g_getf (pc := 43) C 0 rfl rfl inX3_takeTopOff_X3 5 (by decide) lkX3_takeTopOff_27 rfl rfl dX3_takeTopOff_43 ?_
    refine g_iload_n (pc := 46) (x := r2) C dX3_takeTopOff_46 rfl ?_
    refine g_iconst (pc := 47) (v := (-1)) C dX3_takeTopOff_47 (by decide) ?_
    refine g_iast (pc := 48) (i := r2) (x := (-1)) hf C 6 rfl dX3_takeTopOff_48 (ws' := (wS (kD k) aS ((sN r4), (sD r4), (sW r4), (sH r4), (upd (sK r4) (Int32.toNatClampNeg r2) (-1)), (upd (sP r4) (Int32.toNatClampNeg r2) (-1)), (sT r4), (sS r4), (sB r4), (sM r4), (sG r4), (sO r4), (sR r4)))) rfl (fun hf => ?_)
    refine g_aload_n (pc := 49) (x := (aS 0)) C dX3_takeTopOff_49 rfl ?_
    refine g_dup (pc := 50) C dX3_takeTopOff_50 rfl ?_
    refine g_getf (pc := 51) C 0 rfl rfl inX3_takeTopOff_X3 11 (by decide) lkX3_takeTopOff_60 rfl rfl dX3_takeTopOff_51 ?_
    refine g_iconst (pc := 54) (v := 1) C dX3_takeTopOff_54 (by decide) ?_
    refine g_iadd (pc := 55) (x := (sO r4)) (y := 1) C dX3_takeTopOff_55 ?_
    refine g_putf (pc := 56) C 0 rfl rfl inX3_takeTopOff_X3 tyX3 tyX3_ok nmX3 11 (by decide) lkX3_takeTopOff_60 rfl rfl pfX3_11 rfl rfl (Nat.le_of_ble_eq_true rfl) dX3_takeTopOff_56 (ws' := (wS (kD k) aS ((sN r4), (sD r4), (sW r4), (sH r4), (upd (sK r4) (Int32.toNatClampNeg r2) (-1)), (upd (sP r4) (Int32.toNatClampNeg r2) (-1)), (sT r4), (sS r4), (sB r4), (sM r4), (sG r4), ((sO r4) + 1), (sR r4)))) rfl ?_
    refine g_iload_n (pc := 59) (x := r2) C dX3_takeTopOff_59 rfl ?_
    obtain rfl := Option.some.inj hf
    exact g_iret (v := r2) C E dX3_takeTopOff_60 (Nat.le_of_ble_eq_true rfl) (Nat.le_of_ble_eq_true rfl) ⟨rfl, rfl⟩
  · refine g_iconst (pc := 20) (v := (-1)) C dX3_takeTopOff_20 (by decide) ?_
    obtain rfl := Option.some.inj hf
    exact g_iret (v := (-1)) C E dX3_takeTopOff_21 (Nat.le_of_ble_eq_true rfl) (Nat.le_of_ble_eq_true rfl) ⟨rfl, rfl⟩
set_option maxRecDepth 100000 in
set_option maxHeartbeats 4000000 in
theorem cX3_takeTopOff_ (l : Launch) (htr : l.stackTraces = false) (D : va_G) (N : Nat) (aS : Nat → Nat) (v : VS) (p1 : Int32) (r : VS × Int32) (hf : fX3_takeTopOff N v p1 = some r) : Tc l D yX3_takeTopOff wsX3_takeTopOff rmX3_takeTopOff [.ref (aS 0), .int p1] (wS D aS v) (fun rv w => rv = some (.int r.2) ∧ w = (wS D aS r.1)) (fun _ _ => False) 0 0 := Tc_of htr (by decide +kernel) rfl (Nat.le_of_ble_eq_true rfl) (fun k C E hl hD => by subst hD; exact wkX3_takeTopOff C N aS v p1 r hf E)
abbrev rmX3_blocksOfGrade : Room := { frames := 3, cells := 0, slots := 0, locals := 64 }
theorem inX3_blocksOfGrade_X3 : ∀ w ∈ wsX30, w ∈ wsX3_blocksOfGrade := by decide +kernel
theorem lkX3_blocksOfGrade_50 : Cond.fieldLink RX3 50 "GaugeBlocks$State" (TX3 8).2.1 (TX3 8).2.2.1 ∈ wsX3_blocksOfGrade := by decide +kernel
theorem hdX3_blocksOfGrade : yX3_blocksOfGrade.cls = RX3 ∧ yX3_blocksOfGrade.cls ≠ "java/lang/invoke/MethodHandle" ∧ yX3_blocksOfGrade.cls ≠ "java/lang/invoke/VarHandle" ∧ (parseMethodDescriptor yX3_blocksOfGrade.desc).map (fun d => d.parameters.length) = some 1 := by decide +kernel
def lX3_blocksOfGrade_4 (N : Nat) (v : VS) (l1 : Int32) : Nat → Int32 → Int32 → Option ((Int32))
  | 0, _, _ => none
  | n + 1, l2, l3 => (if (sB v) ≤ l3 then some l2 else ((fX3_gradeOf N v l3).bind fun r1 => (if r1 = l1 then (lX3_blocksOfGrade_4 N v l1 n (l2 ||| ((1 : Int32) <<< (l3 &&& 31))) (l3 + 1)) else (lX3_blocksOfGrade_4 N v l1 n l2 (l3 + 1)))))
set_option maxRecDepth 100000 in
set_option maxHeartbeats 4000000 in
theorem wlX3_blocksOfGrade_4 {k : Kt} (C : gC k cX3_blocksOfGrade 4 RX3 wsX3_blocksOfGrade rmX3_blocksOfGrade "blocksOfGrade") (N : Nat) (aS : Nat → Nat) (v : VS) (l1 : Int32) : ∀ (n : Nat) (l2 : Int32) (l3 : Int32) (u : (Int32)) (hf : lX3_blocksOfGrade_4 N v l1 n l2 l3 = some u) (hk0 : gG k (wS (kD k) aS v) [(2, .int u)] 0 0 33 []), gG k (wS (kD k) aS v) [(0, .ref (aS 0)), (1, .int l1), (2, .int l2), (3, .int l3)] 0 0 4 [] := by
  intro n
  induction n with
  | zero => intro l2 l3 u hf hk0; rw [lX3_blocksOfGrade_4] at hf; cases hf
  | succ n ih =>
    intro l2 l3 u hf hk0
    rw [lX3_blocksOfGrade_4] at hf
    refine g_iload_n (pc := 4) (x := l3) C dX3_blocksOfGrade_4 rfl ?_
    refine g_aload_n (pc := 5) (x := (aS 0)) C dX3_blocksOfGrade_5 rfl ?_
    refine g_getf (pc := 6) C 0 rfl rfl inX3_blocksOfGrade_X3 8 (by decide) lkX3_blocksOfGrade_50 rfl rfl dX3_blocksOfGrade_6 ?_
    refine g_icmp_ge (pc := 9) (tgt := 33) (x := l3) (y := (sB v)) hf C dX3_blocksOfGrade_9 (by decide) (fun hf => ?_) (fun hf => ?_)
    · obtain rfl := Option.some.inj hf
      refine g_lv [2] (lv' := [(2, .int l2)]) rfl ?_
      exact hk0
    · refine g_aload_n (pc := 12) (x := (aS 0)) C dX3_blocksOfGrade_12 rfl ?_
      refine g_iload_n (pc := 13) (x := l3) C dX3_blocksOfGrade_13 rfl ?_
      refine g_callR (pc' := 17) (cs' := 0) (sl' := 0) hf C (fun u => some (.int u)) (fun u hu => gr_V (rest := []) C (cX3_gradeOf_ (kL k) C.tr (kD k) N aS v l3 u hu) (fun ht => cwV 1 ht gX3_blocksOfGrade_X3_gradeOf rfl rfl rfl hdX3_gradeOf ⟨(Nat.le_of_ble_eq_true rfl), (Nat.le_of_ble_eq_true rfl)⟩) 0 rfl rfl [0, 1, 2, 3, 4, 5, 6, 7, 8] rfl (by decide) rfl rfl (Nat.le_of_ble_eq_true rfl) dX3_blocksOfGrade_14 ⟨(Nat.le_of_ble_eq_true rfl), (Nat.le_of_ble_eq_true rfl)⟩) [0, 1, 2, 3, 4, 5, 6, 7, 8] rfl rfl rfl rfl (fun u => [.int u]) (fun u => rfl) (fun r1 hf => ?_)
      refine g_iload_n (pc := 17) (x := l1) C dX3_blocksOfGrade_17 rfl ?_
      refine g_icmp_ne (pc := 18) (tgt := 27) (x := r1) (y := l1) hf C dX3_blocksOfGrade_18 (by decide) (fun hf => ?_) (fun hf => ?_)
      · refine g_iinc (pc := 27) (x := l3) (v := (l3 + 1)) (lv' := [(3, .int (l3 + 1)), (0, .ref (aS 0)), (1, .int l1), (2, .int l2)]) C dX3_blocksOfGrade_27 rfl rfl (by decide) rfl ?_
        refine g_goto (pc := 30) (tgt := 4) C dX3_blocksOfGrade_30 (by decide) ?_
        refine g_lv [1, 2, 3, 0] (lv' := [(0, .ref (aS 0)), (1, .int l1), (2, .int l2), (3, .int (l3 + 1))]) rfl ?_
        exact ih l2 (l3 + 1) u hf hk0
      · refine g_iload_n (pc := 21) (x := l2) C dX3_blocksOfGrade_21 rfl ?_
        refine g_iconst (pc := 22) (v := 1) C dX3_blocksOfGrade_22 (by decide) ?_
        refine g_iload_n (pc := 23) (x := l3) C dX3_blocksOfGrade_23 rfl ?_
        refine g_ishl (pc := 24) (x := (1 : Int32)) (y := l3) C dX3_blocksOfGrade_24 ?_
        refine g_ior (pc := 25) (x := l2) (y := ((1 : Int32) <<< (l3 &&& 31))) C dX3_blocksOfGrade_25 ?_
        refine g_istore_n (pc := 26) (lv' := [(2, .int (l2 ||| ((1 : Int32) <<< (l3 &&& 31)))), (0, .ref (aS 0)), (1, .int l1), (3, .int l3)]) C dX3_blocksOfGrade_26 (by decide) rfl ?_
        refine g_iinc (pc := 27) (x := l3) (v := (l3 + 1)) (lv' := [(3, .int (l3 + 1)), (2, .int (l2 ||| ((1 : Int32) <<< (l3 &&& 31)))), (0, .ref (aS 0)), (1, .int l1)]) C dX3_blocksOfGrade_27 rfl rfl (by decide) rfl ?_
        refine g_goto (pc := 30) (tgt := 4) C dX3_blocksOfGrade_30 (by decide) ?_
        refine g_lv [2, 3, 1, 0] (lv' := [(0, .ref (aS 0)), (1, .int l1), (2, .int (l2 ||| ((1 : Int32) <<< (l3 &&& 31)))), (3, .int (l3 + 1))]) rfl ?_
        exact ih (l2 ||| ((1 : Int32) <<< (l3 &&& 31))) (l3 + 1) u hf hk0
def fX3_blocksOfGrade (N : Nat) (v : VS) (p1 : Int32) : Option (Int32) := ((lX3_blocksOfGrade_4 N v p1 N 0 0).bind fun r1 => some r1)
set_option maxRecDepth 100000 in
set_option maxHeartbeats 4000000 in
theorem wkX3_blocksOfGrade {k : Kt} (C : gC k cX3_blocksOfGrade 4 RX3 wsX3_blocksOfGrade rmX3_blocksOfGrade "blocksOfGrade") (N : Nat) (aS : Nat → Nat) (v : VS) (p1 : Int32) (r : Int32) (hf : fX3_blocksOfGrade N v p1 = some r) (E : gE k (wS (kD k) aS v) (fun rv w => rv = some (.int r) ∧ w = (wS (kD k) aS v)) (fun _ _ => False) 0 0 (some .int) []) : gG k (wS (kD k) aS v) [(0, .ref (aS 0)), (1, .int p1)] 0 0 0 [] := by
  unfold fX3_blocksOfGrade at hf
  refine g_iconst (pc := 0) (v := 0) C dX3_blocksOfGrade_0 (by decide) ?_
  refine g_istore_n (pc := 1) (lv' := [(2, .int 0), (0, .ref (aS 0)), (1, .int p1)]) C dX3_blocksOfGrade_1 (by decide) rfl ?_
  refine g_iconst (pc := 2) (v := 0) C dX3_blocksOfGrade_2 (by decide) ?_
  refine g_istore_n (pc := 3) (lv' := [(3, .int 0), (2, .int 0), (0, .ref (aS 0)), (1, .int p1)]) C dX3_blocksOfGrade_3 (by decide) rfl ?_
  obtain ⟨r1, h1, hf⟩ := bd_e hf
  refine g_lv [2, 3, 1, 0] (lv' := [(0, .ref (aS 0)), (1, .int p1), (2, .int 0), (3, .int 0)]) rfl ?_
  refine wlX3_blocksOfGrade_4 C N aS v p1 N 0 0 r1 h1 ?_
  refine g_iload_n (pc := 33) (x := r1) C dX3_blocksOfGrade_33 rfl ?_
  obtain rfl := Option.some.inj hf
  exact g_iret (v := r1) C E dX3_blocksOfGrade_34 (Nat.le_of_ble_eq_true rfl) (Nat.le_of_ble_eq_true rfl) ⟨rfl, rfl⟩
set_option maxRecDepth 100000 in
set_option maxHeartbeats 4000000 in
theorem cX3_blocksOfGrade_ (l : Launch) (htr : l.stackTraces = false) (D : va_G) (N : Nat) (aS : Nat → Nat) (v : VS) (p1 : Int32) (r : Int32) (hf : fX3_blocksOfGrade N v p1 = some r) : Tc l D yX3_blocksOfGrade wsX3_blocksOfGrade rmX3_blocksOfGrade [.ref (aS 0), .int p1] (wS D aS v) (fun rv w => rv = some (.int r) ∧ w = (wS D aS v)) (fun _ _ => False) 0 0 := Tc_of htr (by decide +kernel) rfl (Nat.le_of_ble_eq_true rfl) (fun k C E hl hD => by subst hD; exact wkX3_blocksOfGrade C N aS v p1 r hf E)
abbrev rmX3_nominalOfSet : Room := { frames := 0, cells := 0, slots := 0, locals := 0 }
theorem inX3_nominalOfSet_X3 : ∀ w ∈ wsX30, w ∈ wsX3_nominalOfSet := by decide +kernel
theorem lkX3_nominalOfSet_50 : Cond.fieldLink RX3 50 "GaugeBlocks$State" (TX3 8).2.1 (TX3 8).2.2.1 ∈ wsX3_nominalOfSet := by decide +kernel
theorem lkX3_nominalOfSet_9 : Cond.fieldLink RX3 9 "GaugeBlocks$State" (TX3 0).2.1 (TX3 0).2.2.1 ∈ wsX3_nominalOfSet := by decide +kernel
theorem hdX3_nominalOfSet : yX3_nominalOfSet.cls = RX3 ∧ yX3_nominalOfSet.cls ≠ "java/lang/invoke/MethodHandle" ∧ yX3_nominalOfSet.cls ≠ "java/lang/invoke/VarHandle" ∧ (parseMethodDescriptor yX3_nominalOfSet.desc).map (fun d => d.parameters.length) = some 1 := by decide +kernel
def lX3_nominalOfSet_4 (N : Nat) (v : VS) (l1 : Int32) : Nat → Int32 → Int32 → Option ((Int32))
  | 0, _, _ => none
  | n + 1, l2, l3 => (if (sB v) ≤ l3 then some l2 else (if ((l1 >>> (l3 &&& 31)) &&& 1) = (0 : Int32) then (lX3_nominalOfSet_4 N v l1 n l2 (l3 + 1)) else ck l3 20 ((lX3_nominalOfSet_4 N v l1 n (l2 + ((sN v) (Int32.toNatClampNeg l3))) (l3 + 1)))))
set_option maxRecDepth 100000 in
set_option maxHeartbeats 4000000 in
theorem wlX3_nominalOfSet_4 {k : Kt} (C : gC k cX3_nominalOfSet 4 RX3 wsX3_nominalOfSet rmX3_nominalOfSet "nominalOfSet") (N : Nat) (aS : Nat → Nat) (v : VS) (l1 : Int32) : ∀ (n : Nat) (l2 : Int32) (l3 : Int32) (u : (Int32)) (hf : lX3_nominalOfSet_4 N v l1 n l2 l3 = some u) (hk0 : gG k (wS (kD k) aS v) [(2, .int u)] 0 0 35 []), gG k (wS (kD k) aS v) [(0, .ref (aS 0)), (1, .int l1), (2, .int l2), (3, .int l3)] 0 0 4 [] := by
  intro n
  induction n with
  | zero => intro l2 l3 u hf hk0; rw [lX3_nominalOfSet_4] at hf; cases hf
  | succ n ih =>
    intro l2 l3 u hf hk0
    rw [lX3_nominalOfSet_4] at hf
    refine g_iload_n (pc := 4) (x := l3) C dX3_nominalOfSet_4 rfl ?_
    refine g_aload_n (pc := 5) (x := (aS 0)) C dX3_nominalOfSet_5 rfl ?_
    refine g_getf (pc := 6) C 0 rfl rfl inX3_nominalOfSet_X3 8 (by decide) lkX3_nominalOfSet_50 rfl rfl dX3_nominalOfSet_6 ?_
    refine g_icmp_ge (pc := 9) (tgt := 35) (x := l3) (y := (sB v)) hf C dX3_nominalOfSet_9 (by decide) (fun hf => ?_) (fun hf => ?_)
    · obtain rfl := Option.some.inj hf
      refine g_lv [2] (lv' := [(2, .int l2)]) rfl ?_
      exact hk0
    · refine g_iload_n (pc := 12) (x := l1) C dX3_nominalOfSet_12 rfl ?_
      refine g_iload_n (pc := 13) (x := l3) C dX3_nominalOfSet_13 rfl ?_
      refine g_ishr (pc := 14) (x := l1) (y := l3) C dX3_nominalOfSet_14 ?_
      refine g_iconst (pc := 15) (v := 1) C dX3_nominalOfSet_15 (by decide) ?_
      refine g_iand (pc := 16) (x := (l1 >>> (l3 &&& 31))) (y := 1) C dX3_nominalOfSet_16 ?_
      refine g_if_eq (pc := 17) (tgt := 29) (x := ((l1 >>> (l3 &&& 31)) &&& 1)) hf C dX3_nominalOfSet_17 (by decide) (fun hf => ?_) (fun hf => ?_)
      · refine g_iinc (pc := 29) (x := l3) (v := (l3 + 1)) (lv' := [(3, .int (l3 + 1)), (0, .ref (aS 0)), (1, .int l1), (2, .int l2)]) C dX3_nominalOfSet_29 rfl rfl (by decide) rfl ?_
        refine g_goto (pc := 32) (tgt := 4) C dX3_nominalOfSet_32 (by decide) ?_
        refine g_lv [1, 2, 3, 0] (lv' := [(0, .ref (aS 0)), (1, .int l1), (2, .int l2), (3, .int (l3 + 1))]) rfl ?_
        exact ih l2 (l3 + 1) u hf hk0
      · refine g_iload_n (pc := 20) (x := l2) C dX3_nominalOfSet_20 rfl ?_
        refine g_aload_n (pc := 21) (x := (aS 0)) C dX3_nominalOfSet_21 rfl ?_
        refine g_getf (pc := 22) C 0 rfl rfl inX3_nominalOfSet_X3 0 (by decide) lkX3_nominalOfSet_9 rfl rfl dX3_nominalOfSet_22 ?_
        refine g_iload_n (pc := 25) (x := l3) C dX3_nominalOfSet_25 rfl ?_
        refine g_iald (pc := 26) (i := l3) hf C 1 rfl dX3_nominalOfSet_26 (fun hf => ?_)
        refine g_iadd (pc := 27) (x := l2) (y := ((sN v) (Int32.toNatClampNeg l3))) C dX3_nominalOfSet_27 ?_
        refine g_istore_n (pc := 28) (lv' := [(2, .int (l2 + ((sN v) (Int32.toNatClampNeg l3)))), (0, .ref (aS 0)), (1, .int l1), (3, .int l3)]) C dX3_nominalOfSet_28 (by decide) rfl ?_
        refine g_iinc (pc := 29) (x := l3) (v := (l3 + 1)) (lv' := [(3, .int (l3 + 1)), (2, .int (l2 + ((sN v) (Int32.toNatClampNeg l3)))), (0, .ref (aS 0)), (1, .int l1)]) C dX3_nominalOfSet_29 rfl rfl (by decide) rfl ?_
        refine g_goto (pc := 32) (tgt := 4) C dX3_nominalOfSet_32 (by decide) ?_
        refine g_lv [2, 3, 1, 0] (lv' := [(0, .ref (aS 0)), (1, .int l1), (2, .int (l2 + ((sN v) (Int32.toNatClampNeg l3)))), (3, .int (l3 + 1))]) rfl ?_
        exact ih (l2 + ((sN v) (Int32.toNatClampNeg l3))) (l3 + 1) u hf hk0
def fX3_nominalOfSet (N : Nat) (v : VS) (p1 : Int32) : Option (Int32) := ((lX3_nominalOfSet_4 N v p1 N 0 0).bind fun r1 => some r1)
set_option maxRecDepth 100000 in
set_option maxHeartbeats 4000000 in
theorem wkX3_nominalOfSet {k : Kt} (C : gC k cX3_nominalOfSet 4 RX3 wsX3_nominalOfSet rmX3_nominalOfSet "nominalOfSet") (N : Nat) (aS : Nat → Nat) (v : VS) (p1 : Int32) (r : Int32) (hf : fX3_nominalOfSet N v p1 = some r) (E : gE k (wS (kD k) aS v) (fun rv w => rv = some (.int r) ∧ w = (wS (kD k) aS v)) (fun _ _ => False) 0 0 (some .int) []) : gG k (wS (kD k) aS v) [(0, .ref (aS 0)), (1, .int p1)] 0 0 0 [] := by
  unfold fX3_nominalOfSet at hf
  refine g_iconst (pc := 0) (v := 0) C dX3_nominalOfSet_0 (by decide) ?_
  refine g_istore_n (pc := 1) (lv' := [(2, .int 0), (0, .ref (aS 0)), (1, .int p1)]) C dX3_nominalOfSet_1 (by decide) rfl ?_
  refine g_iconst (pc := 2) (v := 0) C dX3_nominalOfSet_2 (by decide) ?_
  refine g_istore_n (pc := 3) (lv' := [(3, .int 0), (2, .int 0), (0, .ref (aS 0)), (1, .int p1)]) C dX3_nominalOfSet_3 (by decide) rfl ?_
  obtain ⟨r1, h1, hf⟩ := bd_e hf
  refine g_lv [2, 3, 1, 0] (lv' := [(0, .ref (aS 0)), (1, .int p1), (2, .int 0), (3, .int 0)]) rfl ?_
  refine wlX3_nominalOfSet_4 C N aS v p1 N 0 0 r1 h1 ?_
  refine g_iload_n (pc := 35) (x := r1) C dX3_nominalOfSet_35 rfl ?_
  obtain rfl := Option.some.inj hf
  exact g_iret (v := r1) C E dX3_nominalOfSet_36 (Nat.le_of_ble_eq_true rfl) (Nat.le_of_ble_eq_true rfl) ⟨rfl, rfl⟩
set_option maxRecDepth 100000 in
set_option maxHeartbeats 4000000 in
theorem cX3_nominalOfSet_ (l : Launch) (htr : l.stackTraces = false) (D : va_G) (N : Nat) (aS : Nat → Nat) (v : VS) (p1 : Int32) (r : Int32) (hf : fX3_nominalOfSet N v p1 = some r) : Tc l D yX3_nominalOfSet wsX3_nominalOfSet rmX3_nominalOfSet [.ref (aS 0), .int p1] (wS D aS v) (fun rv w => rv = some (.int r) ∧ w = (wS D aS v)) (fun _ _ => False) 0 0 := Tc_of htr (by decide +kernel) rfl (Nat.le_of_ble_eq_true rfl) (fun k C E hl hD => by subst hD; exact wkX3_nominalOfSet C N aS v p1 r hf E)
abbrev rmX3_trueLengthOf : Room := { frames := 1, cells := 0, slots := 0, locals := 23 }
theorem inX3_trueLengthOf_X3 : ∀ w ∈ wsX30, w ∈ wsX3_trueLengthOf := by decide +kernel
theorem lkX3_trueLengthOf_21 : Cond.fieldLink RX3 21 "GaugeBlocks$State" (TX3 3).2.1 (TX3 3).2.2.1 ∈ wsX3_trueLengthOf := by decide +kernel
theorem lkX3_trueLengthOf_9 : Cond.fieldLink RX3 9 "GaugeBlocks$State" (TX3 0).2.1 (TX3 0).2.2.1 ∈ wsX3_trueLengthOf := by decide +kernel
theorem lkX3_trueLengthOf_15 : Cond.fieldLink RX3 15 "GaugeBlocks$State" (TX3 1).2.1 (TX3 1).2.2.1 ∈ wsX3_trueLengthOf := by decide +kernel
theorem lkX3_trueLengthOf_18 : Cond.fieldLink RX3 18 "GaugeBlocks$State" (TX3 2).2.1 (TX3 2).2.2.1 ∈ wsX3_trueLengthOf := by decide +kernel
theorem hdX3_trueLengthOf : yX3_trueLengthOf.cls = RX3 ∧ yX3_trueLengthOf.cls ≠ "java/lang/invoke/MethodHandle" ∧ yX3_trueLengthOf.cls ≠ "java/lang/invoke/VarHandle" ∧ (parseMethodDescriptor yX3_trueLengthOf.desc).map (fun d => d.parameters.length) = some 2 := by decide +kernel
def fX3_trueLengthOf (N : Nat) (v : VS) (p1 : Int32) (p2 : Int32) : Option (Int32) := ck p1 20 (((fX3_cooled N ((sH v) (Int32.toNatClampNeg p1)) p2).bind fun r1 => ck p1 20 (ck p1 20 (ck p1 20 (ck p1 20 (some ((((1000 * ((sN v) (Int32.toNatClampNeg p1))) + ((sD v) (Int32.toNatClampNeg p1))) - ((sW v) (Int32.toNatClampNeg p1))) + ((((((sN v) (Int32.toNatClampNeg p1)) * r1) / 1000) * 115) / 1000))))))))
set_option maxRecDepth 100000 in
set_option maxHeartbeats 4000000 in
theorem wkX3_trueLengthOf {k : Kt} (C : gC k cX3_trueLengthOf 4 RX3 wsX3_trueLengthOf rmX3_trueLengthOf "trueLengthOf") (N : Nat) (aS : Nat → Nat) (v : VS) (p1 : Int32) (p2 : Int32) (r : Int32) (hf : fX3_trueLengthOf N v p1 p2 = some r) (E : gE k (wS (kD k) aS v) (fun rv w => rv = some (.int r) ∧ w = (wS (kD k) aS v)) (fun _ _ => False) 0 0 (some .int) []) : gG k (wS (kD k) aS v) [(0, .ref (aS 0)), (1, .int p1), (2, .int p2)] 0 0 0 [] := by
  unfold fX3_trueLengthOf at hf
  refine g_aload_n (pc := 0) (x := (aS 0)) C dX3_trueLengthOf_0 rfl ?_
  refine g_getf (pc := 1) C 0 rfl rfl inX3_trueLengthOf_X3 3 (by decide) lkX3_trueLengthOf_21 rfl rfl dX3_trueLengthOf_1 ?_
  refine g_iload_n (pc := 4) (x := p1) C dX3_trueLengthOf_4 rfl ?_
  refine g_iald (pc := 5) (i := p1) hf C 4 rfl dX3_trueLengthOf_5 (fun hf => ?_)
  refine g_iload_n (pc := 6) (x := p2) C dX3_trueLengthOf_6 rfl ?_
  refine g_callR (pc' := 10) (cs' := 0) (sl' := 0) hf C (fun u => some (.int u)) (fun u hu => gr_S (rest := []) C (cX3_cooled_ (kL k) C.tr (kD k) N ((sH v) (Int32.toNatClampNeg p1)) p2 u hu) (fun ht => va_cwS 2 ht gX3_trueLengthOf_X3_cooled rfl rfl rfl hsX3_cooled ⟨(Nat.le_of_ble_eq_true rfl), (Nat.le_of_ble_eq_true rfl)⟩) [] rfl (by decide) rfl rfl (Nat.le_of_ble_eq_true rfl) dX3_trueLengthOf_7 ⟨(Nat.le_of_ble_eq_true rfl), (Nat.le_of_ble_eq_true rfl)⟩) [] rfl rfl rfl rfl (fun u => [.int u]) (fun u => rfl) (fun r1 hf => ?_)
  refine g_istore_n (pc := 10) (lv' := [(3, .int r1), (0, .ref (aS 0)), (1, .int p1), (2, .int p2)]) C dX3_trueLengthOf_10 (by decide) rfl ?_
  refine g_sipush (pc := 11) (v := 1000) C dX3_trueLengthOf_11 (by decide) ?_
  refine g_aload_n (pc := 14) (x := (aS 0)) C dX3_trueLengthOf_14 rfl ?_
  refine g_getf (pc := 15) C 0 rfl rfl inX3_trueLengthOf_X3 0 (by decide) lkX3_trueLengthOf_9 rfl rfl dX3_trueLengthOf_15 ?_
  refine g_iload_n (pc := 18) (x := p1) C dX3_trueLengthOf_18 rfl ?_
  refine g_iald (pc := 19) (i := p1) hf C 1 rfl dX3_trueLengthOf_19 (fun hf => ?_)
  refine g_imul (pc := 20) (x := 1000) (y := ((sN v) (Int32.toNatClampNeg p1))) C dX3_trueLengthOf_20 ?_
  refine g_aload_n (pc := 21) (x := (aS 0)) C dX3_trueLengthOf_21 rfl ?_
  refine g_getf (pc := 22) C 0 rfl rfl inX3_trueLengthOf_X3 1 (by decide) lkX3_trueLengthOf_15 rfl rfl dX3_trueLengthOf_22 ?_
  refine g_iload_n (pc := 25) (x := p1) C dX3_trueLengthOf_25 rfl ?_
  refine g_iald (pc := 26) (i := p1) hf C 2 rfl dX3_trueLengthOf_26 (fun hf => ?_)
  refine g_iadd (pc := 27) (x := (1000 * ((sN v) (Int32.toNatClampNeg p1)))) (y := ((sD v) (Int32.toNatClampNeg p1))) C dX3_trueLengthOf_27 ?_
  refine g_aload_n (pc := 28) (x := (aS 0)) C dX3_trueLengthOf_28 rfl ?_
  refine g_getf (pc := 29) C 0 rfl rfl inX3_trueLengthOf_X3 2 (by decide) lkX3_trueLengthOf_18 rfl rfl dX3_trueLengthOf_29 ?_
  refine g_iload_n (pc := 32) (x := p1) C dX3_trueLengthOf_32 rfl ?_
  refine g_iald (pc := 33) (i := p1) hf C 3 rfl dX3_trueLengthOf_33 (fun hf => ?_)
  refine g_isub (pc := 34) (x := ((1000 * ((sN v) (Int32.toNatClampNeg p1))) + ((sD v) (Int32.toNatClampNeg p1)))) (y := ((sW v) (Int32.toNatClampNeg p1))) C dX3_trueLengthOf_34 ?_
  refine g_aload_n (pc := 35) (x := (aS 0)) C dX3_trueLengthOf_35 rfl ?_
  refine g_getf (pc := 36) C 0 rfl rfl inX3_trueLengthOf_X3 0 (by decide) lkX3_trueLengthOf_9 rfl rfl dX3_trueLengthOf_36 ?_
  refine g_iload_n (pc := 39) (x := p1) C dX3_trueLengthOf_39 rfl ?_
  refine g_iald (pc := 40) (i := p1) hf C 1 rfl dX3_trueLengthOf_40 (fun hf => ?_)
  refine g_iload_n (pc := 41) (x := r1) C dX3_trueLengthOf_41 rfl ?_
  refine g_imul (pc := 42) (x := ((sN v) (Int32.toNatClampNeg p1))) (y := r1) C dX3_trueLengthOf_42 ?_
  refine g_sipush (pc := 43) (v := 1000) C dX3_trueLengthOf_43 (by decide) ?_
  refine g_idiv (pc := 46) (x := (((sN v) (Int32.toNatClampNeg p1)) * r1)) (y := 1000) C dX3_trueLengthOf_46 (by decide) ?_
  refine g_bipush (pc := 47) (v := 115) C dX3_trueLengthOf_47 (by decide) ?_
  refine g_imul (pc := 49) (x := ((((sN v) (Int32.toNatClampNeg p1)) * r1) / 1000)) (y := 115) C dX3_trueLengthOf_49 ?_
  refine g_sipush (pc := 50) (v := 1000) C dX3_trueLengthOf_50 (by decide) ?_
  refine g_idiv (pc := 53) (x := (((((sN v) (Int32.toNatClampNeg p1)) * r1) / 1000) * 115)) (y := 1000) C dX3_trueLengthOf_53 (by decide) ?_
  refine g_iadd (pc := 54) (x := (((1000 * ((sN v) (Int32.toNatClampNeg p1))) + ((sD v) (Int32.toNatClampNeg p1))) - ((sW v) (Int32.toNatClampNeg p1)))) (y := ((((((sN v) (Int32.toNatClampNeg p1)) * r1) / 1000) * 115) / 1000)) C dX3_trueLengthOf_54 ?_
  obtain rfl := Option.some.inj hf
  exact g_iret (v := ((((1000 * ((sN v) (Int32.toNatClampNeg p1))) + ((sD v) (Int32.toNatClampNeg p1))) - ((sW v) (Int32.toNatClampNeg p1))) + ((((((sN v) (Int32.toNatClampNeg p1)) * r1) / 1000) * 115) / 1000))) C E dX3_trueLengthOf_55 (Nat.le_of_ble_eq_true rfl) (Nat.le_of_ble_eq_true rfl) ⟨rfl, rfl⟩
set_option maxRecDepth 100000 in
set_option maxHeartbeats 4000000 in
theorem cX3_trueLengthOf_ (l : Launch) (htr : l.stackTraces = false) (D : va_G) (N : Nat) (aS : Nat → Nat) (v : VS) (p1 : Int32) (p2 : Int32) (r : Int32) (hf : fX3_trueLengthOf N v p1 p2 = some r) : Tc l D yX3_trueLengthOf wsX3_trueLengthOf rmX3_trueLengthOf [.ref (aS 0), .int p1, .int p2] (wS D aS v) (fun rv w => rv = some (.int r) ∧ w = (wS D aS v)) (fun _ _ => False) 0 0 := Tc_of htr (by decide +kernel) rfl (Nat.le_of_ble_eq_true rfl) (fun k C E hl hD => by subst hD; exact wkX3_trueLengthOf C N aS v p1 p2 r hf E)
abbrev rmX3_trueLengthOfStack : Room := { frames := 2, cells := 0, slots := 0, locals := 46 }
theorem inX3_trueLengthOfStack_X3 : ∀ w ∈ wsX30, w ∈ wsX3_trueLengthOfStack := by decide +kernel
theorem lkX3_trueLengthOfStack_50 : Cond.fieldLink RX3 50 "GaugeBlocks$State" (TX3 8).2.1 (TX3 8).2.2.1 ∈ wsX3_trueLengthOfStack := by decide +kernel
theorem lkX3_trueLengthOfStack_24 : Cond.fieldLink RX3 24 "GaugeBlocks$State" (TX3 4).2.1 (TX3 4).2.2.1 ∈ wsX3_trueLengthOfStack := by decide +kernel
theorem lkX3_trueLengthOfStack_41 : Cond.fieldLink RX3 41 "GaugeBlocks$State" (TX3 7).2.1 (TX3 7).2.2.1 ∈ wsX3_trueLengthOfStack := by decide +kernel
theorem hdX3_trueLengthOfStack : yX3_trueLengthOfStack.cls = RX3 ∧ yX3_trueLengthOfStack.cls ≠ "java/lang/invoke/MethodHandle" ∧ yX3_trueLengthOfStack.cls ≠ "java/lang/invoke/VarHandle" ∧ (parseMethodDescriptor yX3_trueLengthOfStack.desc).map (fun d => d.parameters.length) = some 2 := by decide +kernel
def lX3_trueLengthOfStack_8 (N : Nat) (v : VS) (l1 : Int32) (l2 : Int32) : Nat → Int32 → Int32 → Int32 → Option ((Int32 × Int32))
  | 0, _, _, _ => none
  | n + 1, l3, l4, l5 => (if (sB v) ≤ l5 then some (l3, l4) else ck l5 20 ((if ((sK v) (Int32.toNatClampNeg l5)) = l1 then ((fX3_trueLengthOf N v l5 l2).bind fun r1 => (lX3_trueLengthOfStack_8 N v l1 l2 n (l3 + r1) (l4 + 1) (l5 + 1))) else (lX3_trueLengthOfStack_8 N v l1 l2 n l3 l4 (l5 + 1)))))
set_option maxRecDepth 100000 in
set_option maxHeartbeats 4000000 in
theorem wlX3_trueLengthOfStack_8 {k : Kt} (C : gC k cX3_trueLengthOfStack 6 RX3 wsX3_trueLengthOfStack rmX3_trueLengthOfStack "trueLengthOfStack") (N : Nat) (aS : Nat → Nat) (v : VS) (l1 : Int32) (l2 : Int32) : ∀ (n : Nat) (l3 : Int32) (l4 : Int32) (l5 : Int32) (u : (Int32 × Int32)) (hf : lX3_trueLengthOfStack_8 N v l1 l2 n l3 l4 l5 = some u) (hk0 : gG k (wS (kD k) aS v) [(0, .ref (aS 0)), (3, .int u.1), (4, .int u.2)] 0 0 47 []), gG k (wS (kD k) aS v) [(0, .ref (aS 0)), (1, .int l1), (2, .int l2), (3, .int l3), (4, .int l4), (5, .int l5)] 0 0 8 [] := by
  intro n
  induction n with
  | zero => intro l3 l4 l5 u hf hk0; rw [lX3_trueLengthOfStack_8] at hf; cases hf
  | succ n ih =>
    intro l3 l4 l5 u hf hk0
    rw [lX3_trueLengthOfStack_8] at hf
    refine g_iload (pc := 8) (x := l5) C dX3_trueLengthOfStack_8 rfl ?_
    refine g_aload_n (pc := 10) (x := (aS 0)) C dX3_trueLengthOfStack_10 rfl ?_
    refine g_getf (pc := 11) C 0 rfl rfl inX3_trueLengthOfStack_X3 8 (by decide) lkX3_trueLengthOfStack_50 rfl rfl dX3_trueLengthOfStack_11 ?_
    refine g_icmp_ge (pc := 14) (tgt := 47) (x := l5) (y := (sB v)) hf C dX3_trueLengthOfStack_14 (by decide) (fun hf => ?_) (fun hf => ?_)
    · obtain rfl := Option.some.inj hf
      refine g_lv [0, 3, 4] (lv' := [(0, .ref (aS 0)), (3, .int l3), (4, .int l4)]) rfl ?_
      exact hk0
    · refine g_aload_n (pc := 17) (x := (aS 0)) C dX3_trueLengthOfStack_17 rfl ?_
      refine g_getf (pc := 18) C 0 rfl rfl inX3_trueLengthOfStack_X3 4 (by decide) lkX3_trueLengthOfStack_24 rfl rfl dX3_trueLengthOfStack_18 ?_
      refine g_iload (pc := 21) (x := l5) C dX3_trueLengthOfStack_21 rfl ?_
      refine g_iald (pc := 23) (i := l5) hf C 5 rfl dX3_trueLengthOfStack_23 (fun hf => ?_)
      refine g_iload_n (pc := 24) (x := l1) C dX3_trueLengthOfStack_24 rfl ?_
      refine g_icmp_ne (pc := 25) (tgt := 41) (x := ((sK v) (Int32.toNatClampNeg l5))) (y := l1) hf C dX3_trueLengthOfStack_25 (by decide) (fun hf => ?_) (fun hf => ?_)
      · refine g_iinc (pc := 41) (x := l5) (v := (l5 + 1)) (lv' := [(5, .int (l5 + 1)), (0, .ref (aS 0)), (1, .int l1), (2, .int l2), (3, .int l3), (4, .int l4)]) C dX3_trueLengthOfStack_41 rfl rfl (by decide) rfl ?_
        refine g_goto (pc := 44) (tgt := 8) C dX3_trueLengthOfStack_44 (by decide) ?_
        refine g_lv [1, 2, 3, 4, 5, 0] (lv' := [(0, .ref (aS 0)), (1, .int l1), (2, .int l2), (3, .int l3), (4, .int l4), (5, .int (l5 + 1))]) rfl ?_
        exact ih l3 l4 (l5 + 1) u hf hk0
      · refine g_iload_n (pc := 28) (x := l3) C dX3_trueLengthOfStack_28 rfl ?_
        refine g_aload_n (pc := 29) (x := (aS 0)) C dX3_trueLengthOfStack_29 rfl ?_
        refine g_iload (pc := 30) (x := l5) C dX3_trueLengthOfStack_30 rfl ?_
        refine g_iload_n (pc := 32) (x := l2) C dX3_trueLengthOfStack_32 rfl ?_
        refine g_callR (pc' := 36) (cs' := 0) (sl' := 0) hf C (fun u => some (.int u)) (fun u hu => gr_V (rest := [.int l3]) C (cX3_trueLengthOf_ (kL k) C.tr (kD k) N aS v l5 l2 u hu) (fun ht => cwV 2 ht gX3_trueLengthOfStack_X3_trueLengthOf rfl rfl rfl hdX3_trueLengthOf ⟨(Nat.le_of_ble_eq_true rfl), (Nat.le_of_ble_eq_true rfl)⟩) 0 rfl rfl [0, 1, 2, 3, 4, 5, 6, 7, 8] rfl (by decide) rfl rfl (Nat.le_of_ble_eq_true rfl) dX3_trueLengthOfStack_33 ⟨(Nat.le_of_ble_eq_true rfl), (Nat.le_of_ble_eq_true rfl)⟩) [0, 1, 2, 3, 4, 5, 6, 7, 8] rfl rfl rfl rfl (fun u => [.int u, .int l3]) (fun u => rfl) (fun r1 hf => ?_)
        refine g_iadd (pc := 36) (x := l3) (y := r1) C dX3_trueLengthOfStack_36 ?_
        refine g_istore_n (pc := 37) (lv' := [(3, .int (l3 + r1)), (0, .ref (aS 0)), (1, .int l1), (2, .int l2), (4, .int l4), (5, .int l5)]) C dX3_trueLengthOfStack_37 (by decide) rfl ?_
        refine g_iinc (pc := 38) (x := l4) (v := (l4 + 1)) (lv' := [(4, .int (l4 + 1)), (3, .int (l3 + r1)), (0, .ref (aS 0)), (1, .int l1), (2, .int l2), (5, .int l5)]) C dX3_trueLengthOfStack_38 rfl rfl (by decide) rfl ?_
        refine g_iinc (pc := 41) (x := l5) (v := (l5 + 1)) (lv' := [(5, .int (l5 + 1)), (4, .int (l4 + 1)), (3, .int (l3 + r1)), (0, .ref (aS 0)), (1, .int l1), (2, .int l2)]) C dX3_trueLengthOfStack_41 rfl rfl (by decide) rfl ?_
        refine g_goto (pc := 44) (tgt := 8) C dX3_trueLengthOfStack_44 (by decide) ?_
        refine g_lv [3, 4, 5, 2, 1, 0] (lv' := [(0, .ref (aS 0)), (1, .int l1), (2, .int l2), (3, .int (l3 + r1)), (4, .int (l4 + 1)), (5, .int (l5 + 1))]) rfl ?_
        exact ih (l3 + r1) (l4 + 1) (l5 + 1) u hf hk0
def fX3_trueLengthOfStack (N : Nat) (v : VS) (p1 : Int32) (p2 : Int32) : Option (Int32) := ((lX3_trueLengthOfStack_8 N v p1 p2 N 0 0 0).bind fun r1 => (if r1.2 = (0 : Int32) then some 0 else ck 0 4 (some (r1.1 + ((r1.2 - 1) * ((sS v) (Int32.toNatClampNeg 0)))))))
set_option maxRecDepth 100000 in
set_option maxHeartbeats 4000000 in
theorem wkX3_trueLengthOfStack {k : Kt} (C : gC k cX3_trueLengthOfStack 6 RX3 wsX3_trueLengthOfStack rmX3_trueLengthOfStack "trueLengthOfStack") (N : Nat) (aS : Nat → Nat) (v : VS) (p1 : Int32) (p2 : Int32) (r : Int32) (hf : fX3_trueLengthOfStack N v p1 p2 = some r) (E : gE k (wS (kD k) aS v) (fun rv w => rv = some (.int r) ∧ w = (wS (kD k) aS v)) (fun _ _ => False) 0 0 (some .int) []) : gG k (wS (kD k) aS v) [(0, .ref (aS 0)), (1, .int p1), (2, .int p2)] 0 0 0 [] := by
  unfold fX3_trueLengthOfStack at hf
  refine g_iconst (pc := 0) (v := 0) C dX3_trueLengthOfStack_0 (by decide) ?_
  refine g_istore_n (pc := 1) (lv' := [(3, .int 0), (0, .ref (aS 0)), (1, .int p1), (2, .int p2)]) C dX3_trueLengthOfStack_1 (by decide) rfl ?_
  refine g_iconst (pc := 2) (v := 0) C dX3_trueLengthOfStack_2 (by decide) ?_
  refine g_istore (pc := 3) (lv' := [(4, .int 0), (3, .int 0), (0, .ref (aS 0)), (1, .int p1), (2, .int p2)]) C dX3_trueLengthOfStack_3 (by decide) rfl ?_
  refine g_iconst (pc := 5) (v := 0) C dX3_trueLengthOfStack_5 (by decide) ?_
  refine g_istore (pc := 6) (lv' := [(5, .int 0), (4, .int 0), (3, .int 0), (0, .ref (aS 0)), (1, .int p1), (2, .int p2)]) C dX3_trueLengthOfStack_6 (by decide) rfl ?_
  obtain ⟨r1, h1, hf⟩ := bd_e hf
  refine g_lv [3, 4, 5, 2, 1, 0] (lv' := [(0, .ref (aS 0)), (1, .int p1), (2, .int p2), (3, .int 0), (4, .int 0), (5, .int 0)]) rfl ?_
  refine wlX3_trueLengthOfStack_8 C N aS v p1 p2 N 0 0 0 r1 h1 ?_
  refine g_iload (pc := 47) (x := r1.2) C dX3_trueLengthOfStack_47 rfl ?_
  refine g_if_ne (pc := 49) (tgt := 56) (x := r1.2) hf C dX3_trueLengthOfStack_49 (by decide) (fun hf => ?_) (fun hf => ?_)
  · refine g_iload_n (pc := 56) (x := r1.1) C dX3_trueLengthOfStack_56 rfl ?_
    refine g_iload (pc := 57) (x := r1.2) C dX3_trueLengthOfStack_57 rfl ?_
    refine g_iconst (pc := 59) (v := 1) C dX3_trueLengthOfStack_59 (by decide) ?_
    refine g_isub (pc := 60) (x := r1.2) (y := 1) C dX3_trueLengthOfStack_60 ?_
    refine g_aload_n (pc := 61) (x := (aS 0)) C dX3_trueLengthOfStack_61 rfl ?_
    refine g_getf (pc := 62) C 0 rfl rfl inX3_trueLengthOfStack_X3 7 (by decide) lkX3_trueLengthOfStack_41 rfl rfl dX3_trueLengthOfStack_62 ?_
    refine g_iconst (pc := 65) (v := 0) C dX3_trueLengthOfStack_65 (by decide) ?_
    refine g_iald (pc := 66) (i := 0) hf C 8 rfl dX3_trueLengthOfStack_66 (fun hf => ?_)
    refine g_imul (pc := 67) (x := (r1.2 - 1)) (y := ((sS v) (Int32.toNatClampNeg 0))) C dX3_trueLengthOfStack_67 ?_
    refine g_iadd (pc := 68) (x := r1.1) (y := ((r1.2 - 1) * ((sS v) (Int32.toNatClampNeg 0)))) C dX3_trueLengthOfStack_68 ?_
    obtain rfl := Option.some.inj hf
    exact g_iret (v := (r1.1 + ((r1.2 - 1) * ((sS v) (Int32.toNatClampNeg 0))))) C E dX3_trueLengthOfStack_69 (Nat.le_of_ble_eq_true rfl) (Nat.le_of_ble_eq_true rfl) ⟨rfl, rfl⟩
  · refine g_iconst (pc := 52) (v := 0) C dX3_trueLengthOfStack_52 (by decide) ?_
    refine g_goto (pc := 53) (tgt := 69) C dX3_trueLengthOfStack_53 (by decide) ?_
    obtain rfl := Option.some.inj hf
    exact g_iret (v := 0) C E dX3_trueLengthOfStack_69 (Nat.le_of_ble_eq_true rfl) (Nat.le_of_ble_eq_true rfl) ⟨rfl, rfl⟩
set_option maxRecDepth 100000 in
set_option maxHeartbeats 4000000 in
theorem cX3_trueLengthOfStack_ (l : Launch) (htr : l.stackTraces = false) (D : va_G) (N : Nat) (aS : Nat → Nat) (v : VS) (p1 : Int32) (p2 : Int32) (r : Int32) (hf : fX3_trueLengthOfStack N v p1 p2 = some r) : Tc l D yX3_trueLengthOfStack wsX3_trueLengthOfStack rmX3_trueLengthOfStack [.ref (aS 0), .int p1, .int p2] (wS D aS v) (fun rv w => rv = some (.int r) ∧ w = (wS D aS v)) (fun _ _ => False) 0 0 := Tc_of htr (by decide +kernel) rfl (Nat.le_of_ble_eq_true rfl) (fun k C E hl hD => by subst hD; exact wkX3_trueLengthOfStack C N aS v p1 p2 r hf E)
abbrev rmX3_sizeOfDifference : Room := { frames := 3, cells := 0, slots := 0, locals := 71 }
theorem mkX3_sizeOfDifference_78 : Cond.methodLink RX3 78 Lib.Math.abs.name ∈ wsX3_sizeOfDifference ∧ Cond.static Lib.Math.abs.name ∈ wsX3_sizeOfDifference ∧ Cond.initialized "java/lang/Math" ∈ wsX3_sizeOfDifference ∧ Cond.code Lib.Math.abs.name Lib.Math.abs.code 1 (some .int) ∈ wsX3_sizeOfDifference := by decide +kernel
theorem hdX3_sizeOfDifference : yX3_sizeOfDifference.cls = RX3 ∧ yX3_sizeOfDifference.cls ≠ "java/lang/invoke/MethodHandle" ∧ yX3_sizeOfDifference.cls ≠ "java/lang/invoke/VarHandle" ∧ (parseMethodDescriptor yX3_sizeOfDifference.desc).map (fun d => d.parameters.length) = some 1 := by decide +kernel
def fX3_sizeOfDifference (N : Nat) (v : VS) (p1 : Int32) : Option (Int32) := ((fX3_trueLengthOfStack N v p1 0).bind fun r1 => ((fX3_blocksIn N v p1).bind fun r2 => ((fX3_nominalOfSet N v r2).bind fun r3 => some (jabs (r1 - (1000 * r3))))))
set_option maxRecDepth 100000 in
set_option maxHeartbeats 4000000 in
theorem wkX3_sizeOfDifference {k : Kt} (C : gC k cX3_sizeOfDifference 2 RX3 wsX3_sizeOfDifference rmX3_sizeOfDifference "sizeOfDifference") (N : Nat) (aS : Nat → Nat) (v : VS) (p1 : Int32) (r : Int32) (hf : fX3_sizeOfDifference N v p1 = some r) (E : gE k (wS (kD k) aS v) (fun rv w => rv = some (.int r) ∧ w = (wS (kD k) aS v)) (fun _ _ => False) 0 0 (some .int) []) : gG k (wS (kD k) aS v) [(0, .ref (aS 0)), (1, .int p1)] 0 0 0 [] := by
  unfold fX3_sizeOfDifference at hf
  refine g_aload_n (pc := 0) (x := (aS 0)) C dX3_sizeOfDifference_0 rfl ?_
  refine g_iload_n (pc := 1) (x := p1) C dX3_sizeOfDifference_1 rfl ?_
  refine g_iconst (pc := 2) (v := 0) C dX3_sizeOfDifference_2 (by decide) ?_
  refine g_callR (pc' := 6) (cs' := 0) (sl' := 0) hf C (fun u => some (.int u)) (fun u hu => gr_V (rest := []) C (cX3_trueLengthOfStack_ (kL k) C.tr (kD k) N aS v p1 0 u hu) (fun ht => cwV 2 ht gX3_sizeOfDifference_X3_trueLengthOfStack rfl rfl rfl hdX3_trueLengthOfStack ⟨(Nat.le_of_ble_eq_true rfl), (Nat.le_of_ble_eq_true rfl)⟩) 0 rfl rfl [0, 1, 2, 3, 4, 5, 6, 7, 8] rfl (by decide) rfl rfl (Nat.le_of_ble_eq_true rfl) dX3_sizeOfDifference_3 ⟨(Nat.le_of_ble_eq_true rfl), (Nat.le_of_ble_eq_true rfl)⟩) [0, 1, 2, 3, 4, 5, 6, 7, 8] rfl rfl rfl rfl (fun u => [.int u]) (fun u => rfl) (fun r1 hf => ?_)
  refine g_sipush (pc := 6) (v := 1000) C dX3_sizeOfDifference_6 (by decide) ?_
  refine g_aload_n (pc := 9) (x := (aS 0)) C dX3_sizeOfDifference_9 rfl ?_
  refine g_aload_n (pc := 10) (x := (aS 0)) C dX3_sizeOfDifference_10 rfl ?_
  refine g_iload_n (pc := 11) (x := p1) C dX3_sizeOfDifference_11 rfl ?_
  refine g_callR (pc' := 15) (cs' := 0) (sl' := 0) hf C (fun u => some (.int u)) (fun u hu => gr_V (rest := [.ref (aS 0), .int 1000, .int r1]) C (cX3_blocksIn_ (kL k) C.tr (kD k) N aS v p1 u hu) (fun ht => cwV 1 ht gX3_sizeOfDifference_X3_blocksIn rfl rfl rfl hdX3_blocksIn ⟨(Nat.le_of_ble_eq_true rfl), (Nat.le_of_ble_eq_true rfl)⟩) 0 rfl rfl [0, 1, 2, 3, 4, 5, 6, 7, 8] rfl (by decide) rfl rfl (Nat.le_of_ble_eq_true rfl) dX3_sizeOfDifference_12 ⟨(Nat.le_of_ble_eq_true rfl), (Nat.le_of_ble_eq_true rfl)⟩) [0, 1, 2, 3, 4, 5, 6, 7, 8] rfl rfl rfl rfl (fun u => [.int u, .ref (aS 0), .int 1000, .int r1]) (fun u => rfl) (fun r2 hf => ?_)
  refine g_callR (pc' := 18) (cs' := 0) (sl' := 0) hf C (fun u => some (.int u)) (fun u hu => gr_V (rest := [.int 1000, .int r1]) C (cX3_nominalOfSet_ (kL k) C.tr (kD k) N aS v r2 u hu) (fun ht => cwV 1 ht gX3_sizeOfDifference_X3_nominalOfSet rfl rfl rfl hdX3_nominalOfSet ⟨(Nat.le_of_ble_eq_true rfl), (Nat.le_of_ble_eq_true rfl)⟩) 0 rfl rfl [0, 1, 2, 3, 4, 5, 6, 7, 8] rfl (by decide) rfl rfl (Nat.le_of_ble_eq_true rfl) dX3_sizeOfDifference_15 ⟨(Nat.le_of_ble_eq_true rfl), (Nat.le_of_ble_eq_true rfl)⟩) [0, 1, 2, 3, 4, 5, 6, 7, 8] rfl rfl rfl rfl (fun u => [.int u, .int 1000, .int r1]) (fun u => rfl) (fun r3 hf => ?_)
  refine g_imul (pc := 18) (x := 1000) (y := r3) C dX3_sizeOfDifference_18 ?_
  refine g_isub (pc := 19) (x := r1) (y := (1000 * r3)) C dX3_sizeOfDifference_19 ?_
  refine g_abs (pc := 20) (x := (r1 - (1000 * r3))) C mkX3_sizeOfDifference_78 (Nat.le_of_ble_eq_true rfl) (Nat.le_of_ble_eq_true rfl) (Nat.le_of_ble_eq_true rfl) (Nat.le_of_ble_eq_true rfl) dX3_sizeOfDifference_20 ?_
  obtain rfl := Option.some.inj hf
  exact g_iret (v := (jabs (r1 - (1000 * r3)))) C E dX3_sizeOfDifference_23 (Nat.le_of_ble_eq_true rfl) (Nat.le_of_ble_eq_true rfl) ⟨rfl, rfl⟩
set_option maxRecDepth 100000 in
set_option maxHeartbeats 4000000 in
theorem cX3_sizeOfDifference_ (l : Launch) (htr : l.stackTraces = false) (D : va_G) (N : Nat) (aS : Nat → Nat) (v : VS) (p1 : Int32) (r : Int32) (hf : fX3_sizeOfDifference N v p1 = some r) : Tc l D yX3_sizeOfDifference wsX3_sizeOfDifference rmX3_sizeOfDifference [.ref (aS 0), .int p1] (wS D aS v) (fun rv w => rv = some (.int r) ∧ w = (wS D aS v)) (fun _ _ => False) 0 0 := Tc_of htr (by decide +kernel) rfl (Nat.le_of_ble_eq_true rfl) (fun k C E hl hD => by subst hD; exact wkX3_sizeOfDifference C N aS v p1 r hf E)
abbrev rmX3_greatestGradeIn : Room := { frames := 3, cells := 0, slots := 0, locals := 64 }
theorem inX3_greatestGradeIn_X3 : ∀ w ∈ wsX30, w ∈ wsX3_greatestGradeIn := by decide +kernel
theorem lkX3_greatestGradeIn_50 : Cond.fieldLink RX3 50 "GaugeBlocks$State" (TX3 8).2.1 (TX3 8).2.2.1 ∈ wsX3_greatestGradeIn := by decide +kernel
theorem lkX3_greatestGradeIn_24 : Cond.fieldLink RX3 24 "GaugeBlocks$State" (TX3 4).2.1 (TX3 4).2.2.1 ∈ wsX3_greatestGradeIn := by decide +kernel
theorem mkX3_greatestGradeIn_86 : Cond.methodLink RX3 86 Lib.Math.max.name ∈ wsX3_greatestGradeIn ∧ Cond.static Lib.Math.max.name ∈ wsX3_greatestGradeIn ∧ Cond.initialized "java/lang/Math" ∈ wsX3_greatestGradeIn ∧ Cond.code Lib.Math.max.name Lib.Math.max.code 2 (some .int) ∈ wsX3_greatestGradeIn := by decide +kernel
theorem hdX3_greatestGradeIn : yX3_greatestGradeIn.cls = RX3 ∧ yX3_greatestGradeIn.cls ≠ "java/lang/invoke/MethodHandle" ∧ yX3_greatestGradeIn.cls ≠ "java/lang/invoke/VarHandle" ∧ (parseMethodDescriptor yX3_greatestGradeIn.desc).map (fun d => d.parameters.length) = some 1 := by decide +kernel
def lX3_greatestGradeIn_4 (N : Nat) (v : VS) (l1 : Int32) : Nat → Int32 → Int32 → Option ((Int32))
  | 0, _, _ => none
  | n + 1, l2, l3 => (if (sB v) ≤ l3 then some l2 else ck l3 20 ((if ((sK v) (Int32.toNatClampNeg l3)) = l1 then ((fX3_gradeOf N v l3).bind fun r1 => (lX3_greatestGradeIn_4 N v l1 n (jmax l2 r1) (l3 + 1))) else (lX3_greatestGradeIn_4 N v l1 n l2 (l3 + 1)))))
set_option maxRecDepth 100000 in
set_option maxHeartbeats 4000000 in
theorem wlX3_greatestGradeIn_4 {k : Kt} (C : gC k cX3_greatestGradeIn 4 RX3 wsX3_greatestGradeIn rmX3_greatestGradeIn "greatestGradeIn") (N : Nat) (aS : Nat → Nat) (v : VS) (l1 : Int32) : ∀ (n : Nat) (l2 : Int32) (l3 : Int32) (u : (Int32)) (hf : lX3_greatestGradeIn_4 N v l1 n l2 l3 = some u) (hk0 : gG k (wS (kD k) aS v) [(2, .int u)] 0 0 38 []), gG k (wS (kD k) aS v) [(0, .ref (aS 0)), (1, .int l1), (2, .int l2), (3, .int l3)] 0 0 4 [] := by
  intro n
  induction n with
  | zero => intro l2 l3 u hf hk0; rw [lX3_greatestGradeIn_4] at hf; cases hf
  | succ n ih =>
    intro l2 l3 u hf hk0
    rw [lX3_greatestGradeIn_4] at hf
    refine g_iload_n (pc := 4) (x := l3) C dX3_greatestGradeIn_4 rfl ?_
    refine g_aload_n (pc := 5) (x := (aS 0)) C dX3_greatestGradeIn_5 rfl ?_
    refine g_getf (pc := 6) C 0 rfl rfl inX3_greatestGradeIn_X3 8 (by decide) lkX3_greatestGradeIn_50 rfl rfl dX3_greatestGradeIn_6 ?_
    refine g_icmp_ge (pc := 9) (tgt := 38) (x := l3) (y := (sB v)) hf C dX3_greatestGradeIn_9 (by decide) (fun hf => ?_) (fun hf => ?_)
    · obtain rfl := Option.some.inj hf
      refine g_lv [2] (lv' := [(2, .int l2)]) rfl ?_
      exact hk0
    · refine g_aload_n (pc := 12) (x := (aS 0)) C dX3_greatestGradeIn_12 rfl ?_
      refine g_getf (pc := 13) C 0 rfl rfl inX3_greatestGradeIn_X3 4 (by decide) lkX3_greatestGradeIn_24 rfl rfl dX3_greatestGradeIn_13 ?_
      refine g_iload_n (pc := 16) (x := l3) C dX3_greatestGradeIn_16 rfl ?_
      refine g_iald (pc := 17) (i := l3) hf C 5 rfl dX3_greatestGradeIn_17 (fun hf => ?_)
      refine g_iload_n (pc := 18) (x := l1) C dX3_greatestGradeIn_18 rfl ?_
      refine g_icmp_ne (pc := 19) (tgt := 32) (x := ((sK v) (Int32.toNatClampNeg l3))) (y := l1) hf C dX3_greatestGradeIn_19 (by decide) (fun hf => ?_) (fun hf => ?_)
      · refine g_iinc (pc := 32) (x := l3) (v := (l3 + 1)) (lv' := [(3, .int (l3 + 1)), (0, .ref (aS 0)), (1, .int l1), (2, .int l2)]) C dX3_greatestGradeIn_32 rfl rfl (by decide) rfl ?_
        refine g_goto (pc := 35) (tgt := 4) C dX3_greatestGradeIn_35 (by decide) ?_
        refine g_lv [1, 2, 3, 0] (lv' := [(0, .ref (aS 0)), (1, .int l1), (2, .int l2), (3, .int (l3 + 1))]) rfl ?_
        exact ih l2 (l3 + 1) u hf hk0
      · refine g_iload_n (pc := 22) (x := l2) C dX3_greatestGradeIn_22 rfl ?_
        refine g_aload_n (pc := 23) (x := (aS 0)) C dX3_greatestGradeIn_23 rfl ?_
        refine g_iload_n (pc := 24) (x := l3) C dX3_greatestGradeIn_24 rfl ?_
        refine g_callR (pc' := 28) (cs' := 0) (sl' := 0) hf C (fun u => some (.int u)) (fun u hu => gr_V (rest := [.int l2]) C (cX3_gradeOf_ (kL k) C.tr (kD k) N aS v l3 u hu) (fun ht => cwV 1 ht gX3_greatestGradeIn_X3_gradeOf rfl rfl rfl hdX3_gradeOf ⟨(Nat.le_of_ble_eq_true rfl), (Nat.le_of_ble_eq_true rfl)⟩) 0 rfl rfl [0, 1, 2, 3, 4, 5, 6, 7, 8] rfl (by decide) rfl rfl (Nat.le_of_ble_eq_true rfl) dX3_greatestGradeIn_25 ⟨(Nat.le_of_ble_eq_true rfl), (Nat.le_of_ble_eq_true rfl)⟩) [0, 1, 2, 3, 4, 5, 6, 7, 8] rfl rfl rfl rfl (fun u => [.int u, .int l2]) (fun u => rfl) (fun r1 hf => ?_)
        refine g_max (pc := 28) (x := l2) (y := r1) C mkX3_greatestGradeIn_86 (Nat.le_of_ble_eq_true rfl) (Nat.le_of_ble_eq_true rfl) (Nat.le_of_ble_eq_true rfl) (Nat.le_of_ble_eq_true rfl) dX3_greatestGradeIn_28 ?_
        refine g_istore_n (pc := 31) (lv' := [(2, .int (jmax l2 r1)), (0, .ref (aS 0)), (1, .int l1), (3, .int l3)]) C dX3_greatestGradeIn_31 (by decide) rfl ?_
        refine g_iinc (pc := 32) (x := l3) (v := (l3 + 1)) (lv' := [(3, .int (l3 + 1)), (2, .int (jmax l2 r1)), (0, .ref (aS 0)), (1, .int l1)]) C dX3_greatestGradeIn_32 rfl rfl (by decide) rfl ?_
        refine g_goto (pc := 35) (tgt := 4) C dX3_greatestGradeIn_35 (by decide) ?_
        refine g_lv [2, 3, 1, 0] (lv' := [(0, .ref (aS 0)), (1, .int l1), (2, .int (jmax l2 r1)), (3, .int (l3 + 1))]) rfl ?_
        exact ih (jmax l2 r1) (l3 + 1) u hf hk0
def fX3_greatestGradeIn (N : Nat) (v : VS) (p1 : Int32) : Option (Int32) := ((lX3_greatestGradeIn_4 N v p1 N (-1) 0).bind fun r1 => some r1)
set_option maxRecDepth 100000 in
set_option maxHeartbeats 4000000 in
theorem wkX3_greatestGradeIn {k : Kt} (C : gC k cX3_greatestGradeIn 4 RX3 wsX3_greatestGradeIn rmX3_greatestGradeIn "greatestGradeIn") (N : Nat) (aS : Nat → Nat) (v : VS) (p1 : Int32) (r : Int32) (hf : fX3_greatestGradeIn N v p1 = some r) (E : gE k (wS (kD k) aS v) (fun rv w => rv = some (.int r) ∧ w = (wS (kD k) aS v)) (fun _ _ => False) 0 0 (some .int) []) : gG k (wS (kD k) aS v) [(0, .ref (aS 0)), (1, .int p1)] 0 0 0 [] := by
  unfold fX3_greatestGradeIn at hf
  refine g_iconst (pc := 0) (v := (-1)) C dX3_greatestGradeIn_0 (by decide) ?_
  refine g_istore_n (pc := 1) (lv' := [(2, .int (-1)), (0, .ref (aS 0)), (1, .int p1)]) C dX3_greatestGradeIn_1 (by decide) rfl ?_
  refine g_iconst (pc := 2) (v := 0) C dX3_greatestGradeIn_2 (by decide) ?_
  refine g_istore_n (pc := 3) (lv' := [(3, .int 0), (2, .int (-1)), (0, .ref (aS 0)), (1, .int p1)]) C dX3_greatestGradeIn_3 (by decide) rfl ?_
  obtain ⟨r1, h1, hf⟩ := bd_e hf
  refine g_lv [2, 3, 1, 0] (lv' := [(0, .ref (aS 0)), (1, .int p1), (2, .int (-1)), (3, .int 0)]) rfl ?_
  refine wlX3_greatestGradeIn_4 C N aS v p1 N (-1) 0 r1 h1 ?_
  refine g_iload_n (pc := 38) (x := r1) C dX3_greatestGradeIn_38 rfl ?_
  obtain rfl := Option.some.inj hf
  exact g_iret (v := r1) C E dX3_greatestGradeIn_39 (Nat.le_of_ble_eq_true rfl) (Nat.le_of_ble_eq_true rfl) ⟨rfl, rfl⟩
set_option maxRecDepth 100000 in
set_option maxHeartbeats 4000000 in
theorem cX3_greatestGradeIn_ (l : Launch) (htr : l.stackTraces = false) (D : va_G) (N : Nat) (aS : Nat → Nat) (v : VS) (p1 : Int32) (r : Int32) (hf : fX3_greatestGradeIn N v p1 = some r) : Tc l D yX3_greatestGradeIn wsX3_greatestGradeIn rmX3_greatestGradeIn [.ref (aS 0), .int p1] (wS D aS v) (fun rv w => rv = some (.int r) ∧ w = (wS D aS v)) (fun _ _ => False) 0 0 := Tc_of htr (by decide +kernel) rfl (Nat.le_of_ble_eq_true rfl) (fun k C E hl hD => by subst hD; exact wkX3_greatestGradeIn C N aS v p1 r hf E)
