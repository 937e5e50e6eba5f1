abbrev rmX5_thrown : Room := { frames := 0, cells := 0, slots := 0, locals := 0 }
theorem inX5_thrown_X5 : ∀ w ∈ wsX50, w ∈ wsX5_thrown := by decide +kernel
theorem lkX5_thrown_38 : Cond.fieldLink RX5 38 "GaugeBlocksModel" (TX5 5).2.1 (TX5 5).2.2.1 ∈ wsX5_thrown := by decide +kernel
theorem hdX5_thrown : yX5_thrown.cls = RX5 ∧ yX5_thrown.cls ≠ "java/lang/invoke/MethodHandle" ∧ yX5_thrown.cls ≠ "java/lang/invoke/VarHandle" ∧ (parseMethodDescriptor yX5_thrown.desc).map (fun d => d.parameters.length) = some 0 := by decide +kernel
def fX5_thrown (N : Nat) (v : VM) : Option (Int32) := some (mThr v)
set_option maxRecDepth 100000 in
set_option maxHeartbeats 4000000 in
theorem wkX5_thrown {k : Kt} (C : gC k cX5_thrown 1 RX5 wsX5_thrown rmX5_thrown "thrown") (N : Nat) (aM : Nat → Nat) (v : VM) (r : Int32) (hf : fX5_thrown N v = some r) (E : gE k (wM (kD k) aM v) (fun rv w => rv = some (.int r) ∧ w = (wM (kD k) aM v)) (fun _ _ => False) 0 0 (some .int) []) : gG k (wM (kD k) aM v) [(0, .ref (aM 0))] 0 0 0 [] := by
  unfold fX5_thrown at hf
  refine g_aload_n (pc := 0) (x := (aM 0)) C dX5_thrown_0 rfl ?_
  refine g_getf (pc := 1) C 0 rfl rfl inX5_thrown_X5 5 (by decide) lkX5_thrown_38 rfl rfl dX5_thrown_1 ?_
  obtain rfl := Option.some.inj hf
  exact g_iret (v := (mThr v)) C E dX5_thrown_4 (Nat.le_of_ble_eq_true rfl) (Nat.le_of_ble_eq_true rfl) ⟨rfl, rfl⟩
set_option maxRecDepth 100000 in
set_option maxHeartbeats 4000000 in
theorem cX5_thrown_ (l : Launch) (htr : l.stackTraces = false) (D : va_G) (N : Nat) (aM : Nat → Nat) (v : VM) (r : Int32) (hf : fX5_thrown N v = some r) : Tc l D yX5_thrown wsX5_thrown rmX5_thrown [.ref (aM 0)] (wM D aM v) (fun rv w => rv = some (.int r) ∧ w = (wM D aM v)) (fun _ _ => False) 0 0 := Tc_of htr (by decide +kernel) rfl (Nat.le_of_ble_eq_true rfl) (fun k C E hl hD => by subst hD; exact wkX5_thrown C N aM v r hf E)
abbrev rmX5_fails : Room := { frames := 0, cells := 0, slots := 0, locals := 0 }
theorem inX5_fails_X5 : ∀ w ∈ wsX50, w ∈ wsX5_fails := by decide +kernel
theorem lkX5_fails_38 : Cond.fieldLink RX5 38 "GaugeBlocksModel" (TX5 5).2.1 (TX5 5).2.2.1 ∈ wsX5_fails := by decide +kernel
theorem hdX5_fails : yX5_fails.cls = RX5 ∧ yX5_fails.cls ≠ "java/lang/invoke/MethodHandle" ∧ yX5_fails.cls ≠ "java/lang/invoke/VarHandle" ∧ (parseMethodDescriptor yX5_fails.desc).map (fun d => d.parameters.length) = some 1 := by decide +kernel
def fX5_fails (N : Nat) (v : VM) (p1 : Int32) : Option (VM × Int32) := some (((mRow v), (mSav v), (mSvn v), (mSnp v), (mKep v), p1, (mFre v), (mFrn v), (mBuf v), (mLen v), (mSpt v), (mNum v), (mOrd v), (mLet v), (mFst v), (mSnd v), (mTok v), (mLft v)), 0)
set_option maxRecDepth 100000 in
set_option maxHeartbeats 4000000 in
theorem wkX5_fails {k : Kt} (C : gC k cX5_fails 2 RX5 wsX5_fails rmX5_fails "fails") (N : Nat) (aM : Nat → Nat) (v : VM) (p1 : Int32) (r : VM × Int32) (hf : fX5_fails N v p1 = some r) (E : gE k (wM (kD k) aM v) (fun rv w => rv = some (.int r.2) ∧ w = (wM (kD k) aM r.1)) (fun _ _ => False) 0 0 (some .int) []) : gG k (wM (kD k) aM v) [(0, .ref (aM 0)), (1, .int p1)] 0 0 0 [] := by
  unfold fX5_fails at hf
  refine g_aload_n (pc := 0) (x := (aM 0)) C dX5_fails_0 rfl ?_
  refine g_iload_n (pc := 1) (x := p1) C dX5_fails_1 rfl ?_
  refine g_putf (pc := 2) C 0 rfl rfl inX5_fails_X5 tyX5 tyX5_ok nmX5 5 (by decide) lkX5_fails_38 rfl rfl pfX5_5 rfl rfl (Nat.le_of_ble_eq_true rfl) dX5_fails_2 (ws' := (wM (kD k) aM ((mRow v), (mSav v), (mSvn v), (mSnp v), (mKep v), p1, (mFre v), (mFrn v), (mBuf v), (mLen v), (mSpt v), (mNum v), (mOrd v), (mLet v), (mFst v), (mSnd v), (mTok v), (mLft v)))) rfl ?_
  refine g_iconst (pc := 5) (v := 0) C dX5_fails_5 (by decide) ?_
  obtain rfl := Option.some.inj hf
  exact g_iret (v := 0) C E dX5_fails_6 (Nat.le_of_ble_eq_true rfl) (Nat.le_of_ble_eq_true rfl) ⟨rfl, rfl⟩
set_option maxRecDepth 100000 in
set_option maxHeartbeats 4000000 in
theorem cX5_fails_ (l : Launch) (htr : l.stackTraces = false) (D : va_G) (N : Nat) (aM : Nat → Nat) (v : VM) (p1 : Int32) (r : VM × Int32) (hf : fX5_fails N v p1 = some r) : Tc l D yX5_fails wsX5_fails rmX5_fails [.ref (aM 0), .int p1] (wM D aM v) (fun rv w => rv = some (.int r.2) ∧ w = (wM D aM r.1)) (fun _ _ => False) 0 0 := Tc_of htr (by decide +kernel) rfl (Nat.le_of_ble_eq_true rfl) (fun k C E hl hD => by subst hD; exact wkX5_fails C N aM v p1 r hf E)
abbrev rmX5_in : Room := { frames := 0, cells := 0, slots := 0, locals := 0 }
theorem hsX5_in : yX5_in.cls ≠ "java/lang/invoke/MethodHandle" ∧ yX5_in.cls ≠ "java/lang/invoke/VarHandle" ∧ (parseMethodDescriptor yX5_in.desc).map (fun d => d.parameters.length) = some 3 := by decide +kernel
def fX5_in (N : Nat) (p0 : Int32) (p1 : Int32) (p2 : Int32) : Option (Bool) := (if p0 < p1 then some false else (if p2 < p0 then some false else some true))
set_option maxRecDepth 100000 in
set_option maxHeartbeats 4000000 in
theorem wkX5_in {k : Kt} (C : gC k cX5_in 3 RX5 wsX5_in rmX5_in "in") (N : Nat) (p0 : Int32) (p1 : Int32) (p2 : Int32) (r : Bool) (hf : fX5_in N p0 p1 p2 = some r) (E : gE k [] (fun rv w => rv = some (.int (b2i r)) ∧ w = []) (fun _ _ => False) 0 0 (some .boolean) []) : gG k [] [(0, .int p0), (1, .int p1), (2, .int p2)] 0 0 0 [] := by
  unfold fX5_in at hf
  refine g_iload_n (pc := 0) (x := p0) C dX5_in_0 rfl ?_
  refine g_iload_n (pc := 1) (x := p1) C dX5_in_1 rfl ?_
  refine g_icmp_lt (pc := 2) (tgt := 14) (x := p0) (y := p1) hf C dX5_in_2 (by decide) (fun hf => ?_) (fun hf => ?_)
  · refine g_iconst (pc := 14) (v := 0) C dX5_in_14 (by decide) ?_
    obtain rfl := Option.some.inj hf
    exact g_bret (b := false) C E dX5_in_15 (Nat.le_of_ble_eq_true rfl) (Nat.le_of_ble_eq_true rfl) ⟨rfl, rfl⟩
  · refine g_iload_n (pc := 5) (x := p0) C dX5_in_5 rfl ?_
    refine g_iload_n (pc := 6) (x := p2) C dX5_in_6 rfl ?_
    refine g_icmp_gt (pc := 7) (tgt := 14) (x := p0) (y := p2) hf C dX5_in_7 (by decide) (fun hf => ?_) (fun hf => ?_)
    · refine g_iconst (pc := 14) (v := 0) C dX5_in_14 (by decide) ?_
      obtain rfl := Option.some.inj hf
      exact g_bret (b := false) C E dX5_in_15 (Nat.le_of_ble_eq_true rfl) (Nat.le_of_ble_eq_true rfl) ⟨rfl, rfl⟩
    · refine g_iconst (pc := 10) (v := 1) C dX5_in_10 (by decide) ?_
      refine g_goto (pc := 11) (tgt := 15) C dX5_in_11 (by decide) ?_
      obtain rfl := Option.some.inj hf
      exact g_bret (b := true) C E dX5_in_15 (Nat.le_of_ble_eq_true rfl) (Nat.le_of_ble_eq_true rfl) ⟨rfl, rfl⟩
set_option maxRecDepth 100000 in
set_option maxHeartbeats 4000000 in
theorem cX5_in_ (l : Launch) (htr : l.stackTraces = false) (D : va_G) (N : Nat) (p0 : Int32) (p1 : Int32) (p2 : Int32) (r : Bool) (hf : fX5_in N p0 p1 p2 = some r) : Tc l D yX5_in wsX5_in rmX5_in [.int p0, .int p1, .int p2] [] (fun rv w => rv = some (.int (b2i r)) ∧ w = []) (fun _ _ => False) 0 0 := Tc_of htr (by decide +kernel) rfl (Nat.le_of_ble_eq_true rfl) (fun k C E hl hD => by subst hD; exact wkX5_in C N p0 p1 p2 r hf E)
abbrev rmX5_isBlock : Room := { frames := 1, cells := 0, slots := 0, locals := 22 }
theorem inX5_isBlock_X5 : ∀ w ∈ wsX50, w ∈ wsX5_isBlock := by decide +kernel
theorem lkX5_isBlock_7 : Cond.fieldLink RX5 7 "GaugeBlocksModel" (TX5 0).2.1 (TX5 0).2.2.1 ∈ wsX5_isBlock := by decide +kernel
theorem hdX5_isBlock : yX5_isBlock.cls = RX5 ∧ yX5_isBlock.cls ≠ "java/lang/invoke/MethodHandle" ∧ yX5_isBlock.cls ≠ "java/lang/invoke/VarHandle" ∧ (parseMethodDescriptor yX5_isBlock.desc).map (fun d => d.parameters.length) = some 1 := by decide +kernel
def fX5_isBlock (N : Nat) (v : VM) (p1 : Int32) : Option (Bool) := ck 8 149 (((fX5_in N p1 0 (((mRow v) (Int32.toNatClampNeg 8)) - 1)).bind fun r1 => some r1))
set_option maxRecDepth 100000 in
set_option maxHeartbeats 4000000 in
theorem wkX5_isBlock {k : Kt} (C : gC k cX5_isBlock 2 RX5 wsX5_isBlock rmX5_isBlock "isBlock") (N : Nat) (aM : Nat → Nat) (v : VM) (p1 : Int32) (r : Bool) (hf : fX5_isBlock N v p1 = some r) (E : gE k (wM (kD k) aM v) (fun rv w => rv = some (.int (b2i r)) ∧ w = (wM (kD k) aM v)) (fun _ _ => False) 0 0 (some .boolean) []) : gG k (wM (kD k) aM v) [(0, .ref (aM 0)), (1, .int p1)] 0 0 0 [] := by
  unfold fX5_isBlock at hf
  refine g_iload_n (pc := 0) (x := p1) C dX5_isBlock_0 rfl ?_
  refine g_iconst (pc := 1) (v := 0) C dX5_isBlock_1 (by decide) ?_
  refine g_aload_n (pc := 2) (x := (aM 0)) C dX5_isBlock_2 rfl ?_
  refine g_getf (pc := 3) C 0 rfl rfl inX5_isBlock_X5 0 (by decide) lkX5_isBlock_7 rfl rfl dX5_isBlock_3 ?_
  refine g_bipush (pc := 6) (v := 8) C dX5_isBlock_6 (by decide) ?_
  refine g_iald (pc := 8) (i := 8) hf C 1 rfl dX5_isBlock_8 (fun hf => ?_)
  refine g_iconst (pc := 9) (v := 1) C dX5_isBlock_9 (by decide) ?_
  refine g_isub (pc := 10) (x := ((mRow v) (Int32.toNatClampNeg 8))) (y := 1) C dX5_isBlock_10 ?_
  refine g_callR (pc' := 14) (cs' := 0) (sl' := 0) hf C (fun u => some (.int (b2i u))) (fun u hu => gr_S (rest := []) C (cX5_in_ (kL k) C.tr (kD k) N p1 0 (((mRow v) (Int32.toNatClampNeg 8)) - 1) u hu) (fun ht => va_cwS 3 ht gX5_isBlock_X5_in rfl rfl rfl hsX5_in ⟨(Nat.le_of_ble_eq_true rfl), (Nat.le_of_ble_eq_true rfl)⟩) [] rfl (by decide) rfl rfl (Nat.le_of_ble_eq_true rfl) dX5_isBlock_11 ⟨(Nat.le_of_ble_eq_true rfl), (Nat.le_of_ble_eq_true rfl)⟩) [] rfl rfl rfl rfl (fun u => [.int (b2i u)]) (fun u => rfl) (fun r1 hf => ?_)
  obtain rfl := Option.some.inj hf
  exact g_bret (b := r1) C E dX5_isBlock_14 (Nat.le_of_ble_eq_true rfl) (Nat.le_of_ble_eq_true rfl) ⟨rfl, rfl⟩
set_option maxRecDepth 100000 in
set_option maxHeartbeats 4000000 in
theorem cX5_isBlock_ (l : Launch) (htr : l.stackTraces = false) (D : va_G) (N : Nat) (aM : Nat → Nat) (v : VM) (p1 : Int32) (r : Bool) (hf : fX5_isBlock N v p1 = some r) : Tc l D yX5_isBlock wsX5_isBlock rmX5_isBlock [.ref (aM 0), .int p1] (wM D aM v) (fun rv w => rv = some (.int (b2i r)) ∧ w = (wM D aM v)) (fun _ _ => False) 0 0 := Tc_of htr (by decide +kernel) rfl (Nat.le_of_ble_eq_true rfl) (fun k C E hl hD => by subst hD; exact wkX5_isBlock C N aM v p1 r hf E)
abbrev rmX5_isStack : Room := { frames := 1, cells := 0, slots := 0, locals := 22 }
theorem hsX5_isStack : yX5_isStack.cls ≠ "java/lang/invoke/MethodHandle" ∧ yX5_isStack.cls ≠ "java/lang/invoke/VarHandle" ∧ (parseMethodDescriptor yX5_isStack.desc).map (fun d => d.parameters.length) = some 1 := by decide +kernel
def fX5_isStack (N : Nat) (p0 : Int32) : Option (Bool) := ((fX5_in N p0 0 2).bind fun r1 => some r1)
set_option maxRecDepth 100000 in
set_option maxHeartbeats 4000000 in
theorem wkX5_isStack {k : Kt} (C : gC k cX5_isStack 1 RX5 wsX5_isStack rmX5_isStack "isStack") (N : Nat) (p0 : Int32) (r : Bool) (hf : fX5_isStack N p0 = some r) (E : gE k [] (fun rv w => rv = some (.int (b2i r)) ∧ w = []) (fun _ _ => False) 0 0 (some .boolean) []) : gG k [] [(0, .int p0)] 0 0 0 [] := by
  unfold fX5_isStack at hf
  refine g_iload_n (pc := 0) (x := p0) C dX5_isStack_0 rfl ?_
  refine g_iconst (pc := 1) (v := 0) C dX5_isStack_1 (by decide) ?_
  refine g_iconst (pc := 2) (v := 2) C dX5_isStack_2 (by decide) ?_
  refine g_callR (pc' := 6) (cs' := 0) (sl' := 0) hf C (fun u => some (.int (b2i u))) (fun u hu => gr_S (rest := []) C (cX5_in_ (kL k) C.tr (kD k) N p0 0 2 u hu) (fun ht => va_cwS 3 ht gX5_isStack_X5_in rfl rfl rfl hsX5_in ⟨(Nat.le_of_ble_eq_true rfl), (Nat.le_of_ble_eq_true rfl)⟩) [] rfl (by decide) rfl rfl (Nat.le_of_ble_eq_true rfl) dX5_isStack_3 ⟨(Nat.le_of_ble_eq_true rfl), (Nat.le_of_ble_eq_true rfl)⟩) [] rfl rfl rfl rfl (fun u => [.int (b2i u)]) (fun u => rfl) (fun r1 hf => ?_)
  obtain rfl := Option.some.inj hf
  exact g_bret (b := r1) C E dX5_isStack_6 (Nat.le_of_ble_eq_true rfl) (Nat.le_of_ble_eq_true rfl) ⟨rfl, rfl⟩
set_option maxRecDepth 100000 in
set_option maxHeartbeats 4000000 in
theorem cX5_isStack_ (l : Launch) (htr : l.stackTraces = false) (D : va_G) (N : Nat) (p0 : Int32) (r : Bool) (hf : fX5_isStack N p0 = some r) : Tc l D yX5_isStack wsX5_isStack rmX5_isStack [.int p0] [] (fun rv w => rv = some (.int (b2i r)) ∧ w = []) (fun _ _ => False) 0 0 := Tc_of htr (by decide +kernel) rfl (Nat.le_of_ble_eq_true rfl) (fun k C E hl hD => by subst hD; exact wkX5_isStack C N p0 r hf E)
abbrev rmX5_isLength : Room := { frames := 1, cells := 0, slots := 0, locals := 22 }
theorem kcX5_isLength_46 : Jvm.Cond.constant RX5 46 600000 ∈ wsX5_isLength := by decide +kernel
theorem hsX5_isLength : yX5_isLength.cls ≠ "java/lang/invoke/MethodHandle" ∧ yX5_isLength.cls ≠ "java/lang/invoke/VarHandle" ∧ (parseMethodDescriptor yX5_isLength.desc).map (fun d => d.parameters.length) = some 1 := by decide +kernel
def fX5_isLength (N : Nat) (p0 : Int32) : Option (Bool) := ((fX5_in N p0 500 600000).bind fun r1 => some r1)
set_option maxRecDepth 100000 in
set_option maxHeartbeats 4000000 in
theorem wkX5_isLength {k : Kt} (C : gC k cX5_isLength 1 RX5 wsX5_isLength rmX5_isLength "isLength") (N : Nat) (p0 : Int32) (r : Bool) (hf : fX5_isLength N p0 = some r) (E : gE k [] (fun rv w => rv = some (.int (b2i r)) ∧ w = []) (fun _ _ => False) 0 0 (some .boolean) []) : gG k [] [(0, .int p0)] 0 0 0 [] := by
  unfold fX5_isLength at hf
  refine g_iload_n (pc := 0) (x := p0) C dX5_isLength_0 rfl ?_
  refine g_sipush (pc := 1) (v := 500) C dX5_isLength_1 (by decide) ?_
  refine g_ldc (pc := 4) (v := 600000) C dX5_isLength_4 kcX5_isLength_46 ?_
  refine g_callR (pc' := 9) (cs' := 0) (sl' := 0) hf C (fun u => some (.int (b2i u))) (fun u hu => gr_S (rest := []) C (cX5_in_ (kL k) C.tr (kD k) N p0 500 600000 u hu) (fun ht => va_cwS 3 ht gX5_isLength_X5_in rfl rfl rfl hsX5_in ⟨(Nat.le_of_ble_eq_true rfl), (Nat.le_of_ble_eq_true rfl)⟩) [] rfl (by decide) rfl rfl (Nat.le_of_ble_eq_true rfl) dX5_isLength_6 ⟨(Nat.le_of_ble_eq_true rfl), (Nat.le_of_ble_eq_true rfl)⟩) [] rfl rfl rfl rfl (fun u => [.int (b2i u)]) (fun u => rfl) (fun r1 hf => ?_)
  obtain rfl := Option.some.inj hf
  exact g_bret (b := r1) C E dX5_isLength_9 (Nat.le_of_ble_eq_true rfl) (Nat.le_of_ble_eq_true rfl) ⟨rfl, rfl⟩
set_option maxRecDepth 100000 in
set_option maxHeartbeats 4000000 in
theorem cX5_isLength_ (l : Launch) (htr : l.stackTraces = false) (D : va_G) (N : Nat) (p0 : Int32) (r : Bool) (hf : fX5_isLength N p0 = some r) : Tc l D yX5_isLength wsX5_isLength rmX5_isLength [.int p0] [] (fun rv w => rv = some (.int (b2i r)) ∧ w = []) (fun _ _ => False) 0 0 := Tc_of htr (by decide +kernel) rfl (Nat.le_of_ble_eq_true rfl) (fun k C E hl hD => by subst hD; exact wkX5_isLength C N p0 r hf E)
abbrev rmX5_of : Room := { frames := 0, cells := 0, slots := 0, locals := 0 }
theorem inX5_of_X5 : ∀ w ∈ wsX50, w ∈ wsX5_of := by decide +kernel
theorem lkX5_of_7 : Cond.fieldLink RX5 7 "GaugeBlocksModel" (TX5 0).2.1 (TX5 0).2.2.1 ∈ wsX5_of := by decide +kernel
theorem hdX5_of : yX5_of.cls = RX5 ∧ yX5_of.cls ≠ "java/lang/invoke/MethodHandle" ∧ yX5_of.cls ≠ "java/lang/invoke/VarHandle" ∧ (parseMethodDescriptor yX5_of.desc).map (fun d => d.parameters.length) = some 2 := by decide +kernel
def fX5_of (N : Nat) (v : VM) (p1 : Int32) (p2 : Int32) : Option (Int32) := ck ((9 + (7 * p1)) + p2) 149 (some ((mRow v) (Int32.toNatClampNeg ((9 + (7 * p1)) + p2))))
set_option maxRecDepth 100000 in
set_option maxHeartbeats 4000000 in
theorem wkX5_of {k : Kt} (C : gC k cX5_of 3 RX5 wsX5_of rmX5_of "of") (N : Nat) (aM : Nat → Nat) (v : VM) (p1 : Int32) (p2 : Int32) (r : Int32) (hf : fX5_of N v p1 p2 = some r) (E : gE k (wM (kD k) aM v) (fun rv w => rv = some (.int r) ∧ w = (wM (kD k) aM v)) (fun _ _ => False) 0 0 (some .int) []) : gG k (wM (kD k) aM v) [(0, .ref (aM 0)), (1, .int p1), (2, .int p2)] 0 0 0 [] := by
  unfold fX5_of at hf
  refine g_aload_n (pc := 0) (x := (aM 0)) C dX5_of_0 rfl ?_
  refine g_getf (pc := 1) C 0 rfl rfl inX5_of_X5 0 (by decide) lkX5_of_7 rfl rfl dX5_of_1 ?_
  refine g_bipush (pc := 4) (v := 9) C dX5_of_4 (by decide) ?_
  refine g_bipush (pc := 6) (v := 7) C dX5_of_6 (by decide) ?_
  refine g_iload_n (pc := 8) (x := p1) C dX5_of_8 rfl ?_
  refine g_imul (pc := 9) (x := 7) (y := p1) C dX5_of_9 ?_
  refine g_iadd (pc := 10) (x := 9) (y := (7 * p1)) C dX5_of_10 ?_
  refine g_iload_n (pc := 11) (x := p2) C dX5_of_11 rfl ?_
  refine g_iadd (pc := 12) (x := (9 + (7 * p1))) (y := p2) C dX5_of_12 ?_
  refine g_iald (pc := 13) (i := ((9 + (7 * p1)) + p2)) hf C 1 rfl dX5_of_13 (fun hf => ?_)
  obtain rfl := Option.some.inj hf
  exact g_iret (v := ((mRow v) (Int32.toNatClampNeg ((9 + (7 * p1)) + p2)))) C E dX5_of_14 (Nat.le_of_ble_eq_true rfl) (Nat.le_of_ble_eq_true rfl) ⟨rfl, rfl⟩
set_option maxRecDepth 100000 in
set_option maxHeartbeats 4000000 in
theorem cX5_of_ (l : Launch) (htr : l.stackTraces = false) (D : va_G) (N : Nat) (aM : Nat → Nat) (v : VM) (p1 : Int32) (p2 : Int32) (r : Int32) (hf : fX5_of N v p1 p2 = some r) : Tc l D yX5_of wsX5_of rmX5_of [.ref (aM 0), .int p1, .int p2] (wM D aM v) (fun rv w => rv = some (.int r) ∧ w = (wM D aM v)) (fun _ _ => False) 0 0 := Tc_of htr (by decide +kernel) rfl (Nat.le_of_ble_eq_true rfl) (fun k C E hl hD => by subst hD; exact wkX5_of C N aM v p1 p2 r hf E)
abbrev rmX5_put : Room := { frames := 0, cells := 0, slots := 0, locals := 0 }
theorem inX5_put_X5 : ∀ w ∈ wsX50, w ∈ wsX5_put := by decide +kernel
theorem lkX5_put_7 : Cond.fieldLink RX5 7 "GaugeBlocksModel" (TX5 0).2.1 (TX5 0).2.2.1 ∈ wsX5_put := by decide +kernel
theorem hdX5_put : yX5_put.cls = RX5 ∧ yX5_put.cls ≠ "java/lang/invoke/MethodHandle" ∧ yX5_put.cls ≠ "java/lang/invoke/VarHandle" ∧ (parseMethodDescriptor yX5_put.desc).map (fun d => d.parameters.length) = some 3 := by decide +kernel
def fX5_put (N : Nat) (v : VM) (p1 : Int32) (p2 : Int32) (p3 : Int32) : Option (VM) := ck ((9 + (7 * p1)) + p2) 149 (some ((upd (mRow v) (Int32.toNatClampNeg ((9 + (7 * p1)) + p2)) p3), (mSav v), (mSvn v), (mSnp v), (mKep v), (mThr v), (mFre v), (mFrn v), (mBuf v), (mLen v), (mSpt v), (mNum v), (mOrd v), (mLet v), (mFst v), (mSnd v), (mTok v), (mLft v)))
set_option maxRecDepth 100000 in
set_option maxHeartbeats 4000000 in
theorem wkX5_put {k : Kt} (C : gC k cX5_put 4 RX5 wsX5_put rmX5_put "put") (N : Nat) (aM : Nat → Nat) (v : VM) (p1 : Int32) (p2 : Int32) (p3 : Int32) (r : VM) (hf : fX5_put N v p1 p2 p3 = some r) (E : gE k (wM (kD k) aM v) (fun rv w => rv = none ∧ w = (wM (kD k) aM r)) (fun _ _ => False) 0 0 none []) : gG k (wM (kD k) aM v) [(0, .ref (aM 0)), (1, .int p1), (2, .int p2), (3, .int p3)] 0 0 0 [] := by
  unfold fX5_put at hf
  refine g_aload_n (pc := 0) (x := (aM 0)) C dX5_put_0 rfl ?_
  refine g_getf (pc := 1) C 0 rfl rfl inX5_put_X5 0 (by decide) lkX5_put_7 rfl rfl dX5_put_1 ?_
  refine g_bipush (pc := 4) (v := 9) C dX5_put_4 (by decide) ?_
  refine g_bipush (pc := 6) (v := 7) C dX5_put_6 (by decide) ?_
  refine g_iload_n (pc := 8) (x := p1) C dX5_put_8 rfl ?_
  refine g_imul (pc := 9) (x := 7) (y := p1) C dX5_put_9 ?_
  refine g_iadd (pc := 10) (x := 9) (y := (7 * p1)) C dX5_put_10 ?_
  refine g_iload_n (pc := 11) (x := p2) C dX5_put_11 rfl ?_
  refine g_iadd (pc := 12) (x := (9 + (7 * p1))) (y := p2) C dX5_put_12 ?_
  refine g_iload_n (pc := 13) (x := p3) C dX5_put_13 rfl ?_
  refine g_iast (pc := 14) (i := ((9 + (7 * p1)) + p2)) (x := p3) hf C 1 rfl dX5_put_14 (ws' := (wM (kD k) aM ((upd (mRow v) (Int32.toNatClampNeg ((9 + (7 * p1)) + p2)) p3), (mSav v), (mSvn v), (mSnp v), (mKep v), (mThr v), (mFre v), (mFrn v), (mBuf v), (mLen v), (mSpt v), (mNum v), (mOrd v), (mLet v), (mFst v), (mSnd v), (mTok v), (mLft v)))) rfl (fun hf => ?_)
  obtain rfl := Option.some.inj hf
  exact g_vret C E dX5_put_15 (Nat.le_of_ble_eq_true rfl) (Nat.le_of_ble_eq_true rfl) ⟨rfl, rfl⟩
set_option maxRecDepth 100000 in
set_option maxHeartbeats 4000000 in
theorem cX5_put_ (l : Launch) (htr : l.stackTraces = false) (D : va_G) (N : Nat) (aM : Nat → Nat) (v : VM) (p1 : Int32) (p2 : Int32) (p3 : Int32) (r : VM) (hf : fX5_put N v p1 p2 p3 = some r) : Tc l D yX5_put wsX5_put rmX5_put [.ref (aM 0), .int p1, .int p2, .int p3] (wM D aM v) (fun rv w => rv = none ∧ w = (wM D aM r)) (fun _ _ => False) 0 0 := Tc_of htr (by decide +kernel) rfl (Nat.le_of_ble_eq_true rfl) (fun k C E hl hD => by subst hD; exact wkX5_put C N aM v p1 p2 p3 r hf E)
abbrev rmX5_size : Room := { frames := 0, cells := 0, slots := 0, locals := 0 }
theorem hsX5_size : yX5_size.cls ≠ "java/lang/invoke/MethodHandle" ∧ yX5_size.cls ≠ "java/lang/invoke/VarHandle" ∧ (parseMethodDescriptor yX5_size.desc).map (fun d => d.parameters.length) = some 1 := by decide +kernel
def fX5_size (N : Nat) (p0 : Int32) : Option (Int32) := (if (0 : Int32) ≤ p0 then some p0 else some (-p0))
set_option maxRecDepth 100000 in
set_option maxHeartbeats 4000000 in
theorem wkX5_size {k : Kt} (C : gC k cX5_size 1 RX5 wsX5_size rmX5_size "size") (N : Nat) (p0 : Int32) (r : Int32) (hf : fX5_size N p0 = some r) (E : gE k [] (fun rv w => rv = some (.int r) ∧ w = []) (fun _ _ => False) 0 0 (some .int) []) : gG k [] [(0, .int p0)] 0 0 0 [] := by
  unfold fX5_size at hf
  refine g_iload_n (pc := 0) (x := p0) C dX5_size_0 rfl ?_
  refine g_if_ge (pc := 1) (tgt := 9) (x := p0) hf C dX5_size_1 (by decide) (fun hf => ?_) (fun hf => ?_)
  · refine g_iload_n (pc := 9) (x := p0) C dX5_size_9 rfl ?_
    obtain rfl := Option.some.inj hf
    exact g_iret (v := p0) C E dX5_size_10 (Nat.le_of_ble_eq_true rfl) (Nat.le_of_ble_eq_true rfl) ⟨rfl, rfl⟩
  · refine g_iload_n (pc := 4) (x := p0) C dX5_size_4 rfl ?_
    refine g_ineg (pc := 5) C dX5_size_5 ?_
    refine g_goto (pc := 6) (tgt := 10) C dX5_size_6 (by decide) ?_
    obtain rfl := Option.some.inj hf
    exact g_iret (v := (-p0)) C E dX5_size_10 (Nat.le_of_ble_eq_true rfl) (Nat.le_of_ble_eq_true rfl) ⟨rfl, rfl⟩
set_option maxRecDepth 100000 in
set_option maxHeartbeats 4000000 in
theorem cX5_size_ (l : Launch) (htr : l.stackTraces = false) (D : va_G) (N : Nat) (p0 : Int32) (r : Int32) (hf : fX5_size N p0 = some r) : Tc l D yX5_size wsX5_size rmX5_size [.int p0] [] (fun rv w => rv = some (.int r) ∧ w = []) (fun _ _ => False) 0 0 := Tc_of htr (by decide +kernel) rfl (Nat.le_of_ble_eq_true rfl) (fun k C E hl hD => by subst hD; exact wkX5_size C N p0 r hf E)
abbrev rmX5_save : Room := { frames := 0, cells := 0, slots := 0, locals := 0 }
theorem inX5_save_X5 : ∀ w ∈ wsX50, w ∈ wsX5_save := by decide +kernel
theorem lkX5_save_47 : Cond.fieldLink RX5 47 "GaugeBlocksModel" (TX5 2).2.1 (TX5 2).2.2.1 ∈ wsX5_save := by decide +kernel
theorem lkX5_save_13 : Cond.fieldLink RX5 13 "GaugeBlocksModel" (TX5 1).2.1 (TX5 1).2.2.1 ∈ wsX5_save := by decide +kernel
theorem lkX5_save_7 : Cond.fieldLink RX5 7 "GaugeBlocksModel" (TX5 0).2.1 (TX5 0).2.2.1 ∈ wsX5_save := by decide +kernel
theorem hdX5_save : yX5_save.cls = RX5 ∧ yX5_save.cls ≠ "java/lang/invoke/MethodHandle" ∧ yX5_save.cls ≠ "java/lang/invoke/VarHandle" ∧ (parseMethodDescriptor yX5_save.desc).map (fun d => d.parameters.length) = some 0 := by decide +kernel
def lX5_save_52 (N : Nat)  : Nat → VM → Int32 → Option ((VM))
  | 0, _, _ => none
  | n + 1, v, l1 => (if (149 : Int32) ≤ l1 then some v else ck l1 149 (ck ((149 * (mSvn v)) + l1) 894 ((lX5_save_52 N n ((mRow v), (upd (mSav v) (Int32.toNatClampNeg ((149 * (mSvn v)) + l1)) ((mRow v) (Int32.toNatClampNeg l1))), (mSvn v), (mSnp v), (mKep v), (mThr v), (mFre v), (mFrn v), (mBuf v), (mLen v), (mSpt v), (mNum v), (mOrd v), (mLet v), (mFst v), (mSnd v), (mTok v), (mLft v)) (l1 + 1)))))
set_option maxRecDepth 100000 in
set_option maxHeartbeats 4000000 in
theorem wlX5_save_52 {k : Kt} (C : gC k cX5_save 2 RX5 wsX5_save rmX5_save "save") (N : Nat) (aM : Nat → Nat) : ∀ (n : Nat) (v : VM) (l1 : Int32) (u : (VM)) (hf : lX5_save_52 N n v l1 = some u) (hk0 : gG k (wM (kD k) aM u) [(0, .ref (aM 0))] 0 0 86 []), gG k (wM (kD k) aM v) [(0, .ref (aM 0)), (1, .int l1)] 0 0 52 [] := by
  intro n
  induction n with
  | zero => intro v l1 u hf hk0; rw [lX5_save_52] at hf; cases hf
  | succ n ih =>
    intro v l1 u hf hk0
    rw [lX5_save_52] at hf
    refine g_iload_n (pc := 52) (x := l1) C dX5_save_52 rfl ?_
    refine g_sipush (pc := 53) (v := 149) C dX5_save_53 (by decide) ?_
    refine g_icmp_ge (pc := 56) (tgt := 86) (x := l1) (y := 149) hf C dX5_save_56 (by decide) (fun hf => ?_) (fun hf => ?_)
    · obtain rfl := Option.some.inj hf
      refine g_lv [0] (lv' := [(0, .ref (aM 0))]) rfl ?_
      exact hk0
    · refine g_aload_n (pc := 59) (x := (aM 0)) C dX5_save_59 rfl ?_
      refine g_getf (pc := 60) C 0 rfl rfl inX5_save_X5 1 (by decide) lkX5_save_13 rfl rfl dX5_save_60 ?_
      refine g_sipush (pc := 63) (v := 149) C dX5_save_63 (by decide) ?_
      refine g_aload_n (pc := 66) (x := (aM 0)) C dX5_save_66 rfl ?_
      refine g_getf (pc := 67) C 0 rfl rfl inX5_save_X5 2 (by decide) lkX5_save_47 rfl rfl dX5_save_67 ?_
      refine g_imul (pc := 70) (x := 149) (y := (mSvn v)) C dX5_save_70 ?_
      refine g_iload_n (pc := 71) (x := l1) C dX5_save_71 rfl ?_
      refine g_iadd (pc := 72) (x := (149 * (mSvn v))) (y := l1) C dX5_save_72 ?_
      refine g_aload_n (pc := 73) (x := (aM 0)) C dX5_save_73 rfl ?_
      refine g_getf (pc := 74) C 0 rfl rfl inX5_save_X5 0 (by decide) lkX5_save_7 rfl rfl dX5_save_74 ?_
      refine g_iload_n (pc := 77) (x := l1) C dX5_save_77 rfl ?_
      refine g_iald (pc := 78) (i := l1) hf C 1 rfl dX5_save_78 (fun hf => ?_)
      refine g_iast (pc := 79) (i := ((149 * (mSvn v)) + l1)) (x := ((mRow v) (Int32.toNatClampNeg l1))) hf C 2 rfl dX5_save_79 (ws' := (wM (kD k) aM ((mRow v), (upd (mSav v) (Int32.toNatClampNeg ((149 * (mSvn v)) + l1)) ((mRow v) (Int32.toNatClampNeg l1))), (mSvn v), (mSnp v), (mKep v), (mThr v), (mFre v), (mFrn v), (mBuf v), (mLen v), (mSpt v), (mNum v), (mOrd v), (mLet v), (mFst v), (mSnd v), (mTok v), (mLft v)))) rfl (fun hf => ?_)
      refine g_iinc (pc := 80) (x := l1) (v := (l1 + 1)) (lv' := [(1, .int (l1 + 1)), (0, .ref (aM 0))]) C dX5_save_80 rfl rfl (by decide) rfl ?_
      refine g_goto (pc := 83) (tgt := 52) C dX5_save_83 (by decide) ?_
      refine g_lv [1, 0] (lv' := [(0, .ref (aM 0)), (1, .int (l1 + 1))]) rfl ?_
      exact ih ((mRow v), (upd (mSav v) (Int32.toNatClampNeg ((149 * (mSvn v)) + l1)) ((mRow v) (Int32.toNatClampNeg l1))), (mSvn v), (mSnp v), (mKep v), (mThr v), (mFre v), (mFrn v), (mBuf v), (mLen v), (mSpt v), (mNum v), (mOrd v), (mLet v), (mFst v), (mSnd v), (mTok v), (mLft v)) (l1 + 1) u hf hk0
def lX5_save_11 (N : Nat)  : Nat → VM → Int32 → Option ((VM))
  | 0, _, _ => none
  | n + 1, v, l1 => (if (745 : Int32) ≤ l1 then some v else ck (l1 + 149) 894 (ck l1 894 ((lX5_save_11 N n ((mRow v), (upd (mSav v) (Int32.toNatClampNeg l1) ((mSav v) (Int32.toNatClampNeg (l1 + 149)))), (mSvn v), (mSnp v), (mKep v), (mThr v), (mFre v), (mFrn v), (mBuf v), (mLen v), (mSpt v), (mNum v), (mOrd v), (mLet v), (mFst v), (mSnd v), (mTok v), (mLft v)) (l1 + 1)))))
set_option maxRecDepth 100000 in
set_option maxHeartbeats 4000000 in
theorem wlX5_save_11 {k : Kt} (C : gC k cX5_save 2 RX5 wsX5_save rmX5_save "save") (N : Nat) (aM : Nat → Nat) : ∀ (n : Nat) (v : VM) (l1 : Int32) (u : (VM)) (hf : lX5_save_11 N n v l1 = some u) (hk0 : gG k (wM (kD k) aM u) [(0, .ref (aM 0))] 0 0 40 []), gG k (wM (kD k) aM v) [(0, .ref (aM 0)), (1, .int l1)] 0 0 11 [] := by
  intro n
  induction n with
  | zero => intro v l1 u hf hk0; rw [lX5_save_11] at hf; cases hf
  | succ n ih =>
    intro v l1 u hf hk0
    rw [lX5_save_11] at hf
    refine g_iload_n (pc := 11) (x := l1) C dX5_save_11 rfl ?_
    refine g_sipush (pc := 12) (v := 745) C dX5_save_12 (by decide) ?_
    refine g_icmp_ge (pc := 15) (tgt := 40) (x := l1) (y := 745) hf C dX5_save_15 (by decide) (fun hf => ?_) (fun hf => ?_)
    · obtain rfl := Option.some.inj hf
      refine g_lv [0] (lv' := [(0, .ref (aM 0))]) rfl ?_
      exact hk0
    · refine g_aload_n (pc := 18) (x := (aM 0)) C dX5_save_18 rfl ?_
      refine g_getf (pc := 19) C 0 rfl rfl inX5_save_X5 1 (by decide) lkX5_save_13 rfl rfl dX5_save_19 ?_
      refine g_iload_n (pc := 22) (x := l1) C dX5_save_22 rfl ?_
      refine g_aload_n (pc := 23) (x := (aM 0)) C dX5_save_23 rfl ?_
      refine g_getf (pc := 24) C 0 rfl rfl inX5_save_X5 1 (by decide) lkX5_save_13 rfl rfl dX5_save_24 ?_
      refine g_iload_n (pc := 27) (x := l1) C dX5_save_27 rfl ?_
      refine g_sipush (pc := 28) (v := 149) C dX5_save_28 (by decide) ?_
      refine g_iadd (pc := 31) (x := l1) (y := 149) C dX5_save_31 ?_
      refine g_iald (pc := 32) (i := (l1 + 149)) hf C 2 rfl dX5_save_32 (fun hf => ?_)
      refine g_iast (pc := 33) (i := l1) (x := ((mSav v) (Int32.toNatClampNeg (l1 + 149)))) hf C 2 rfl dX5_save_33 (ws' := (wM (kD k) aM ((mRow v), (upd (mSav v) (Int32.toNatClampNeg l1) ((mSav v) (Int32.toNatClampNeg (l1 + 149)))), (mSvn v), (mSnp v), (mKep v), (mThr v), (mFre v), (mFrn v), (mBuf v), (mLen v), (mSpt v), (mNum v), (mOrd v), (mLet v), (mFst v), (mSnd v), (mTok v), (mLft v)))) rfl (fun hf => ?_)
      refine g_iinc (pc := 34) (x := l1) (v := (l1 + 1)) (lv' := [(1, .int (l1 + 1)), (0, .ref (aM 0))]) C dX5_save_34 rfl rfl (by decide) rfl ?_
      refine g_goto (pc := 37) (tgt := 11) C dX5_save_37 (by decide) ?_
      refine g_lv [1, 0] (lv' := [(0, .ref (aM 0)), (1, .int (l1 + 1))]) rfl ?_
      exact ih ((mRow v), (upd (mSav v) (Int32.toNatClampNeg l1) ((mSav v) (Int32.toNatClampNeg (l1 + 149)))), (mSvn v), (mSnp v), (mKep v), (mThr v), (mFre v), (mFrn v), (mBuf v), (mLen v), (mSpt v), (mNum v), (mOrd v), (mLet v), (mFst v), (mSnd v), (mTok v), (mLft v)) (l1 + 1) u hf hk0
def fX5_save (N : Nat) (v : VM) : Option (VM) := (if (mSvn v) = (6 : Int32) then ((lX5_save_11 N N v 0).bind fun r2 => ((lX5_save_52 N N ((mRow r2), (mSav r2), ((mSvn r2) - 1), (mSnp r2), (mKep r2), (mThr r2), (mFre r2), (mFrn r2), (mBuf r2), (mLen r2), (mSpt r2), (mNum r2), (mOrd r2), (mLet r2), (mFst r2), (mSnd r2), (mTok r2), (mLft r2)) 0).bind fun r3 => some ((mRow r3), (mSav r3), ((mSvn r3) + 1), (mSnp r3), (mKep r3), (mThr r3), (mFre r3), (mFrn r3), (mBuf r3), (mLen r3), (mSpt r3), (mNum r3), (mOrd r3), (mLet r3), (mFst r3), (mSnd r3), (mTok r3), (mLft r3)))) else ((lX5_save_52 N N v 0).bind fun r1 => some ((mRow r1), (mSav r1), ((mSvn r1) + 1), (mSnp r1), (mKep r1), (mThr r1), (mFre r1), (mFrn r1), (mBuf r1), (mLen r1), (mSpt r1), (mNum r1), (mOrd r1), (mLet r1), (mFst r1), (mSnd r1), (mTok r1), (mLft r1))))
set_option maxRecDepth 100000 in
set_option maxHeartbeats 4000000 in
theorem wkX5_save {k : Kt} (C : gC k cX5_save 2 RX5 wsX5_save rmX5_save "save") (N : Nat) (aM : Nat → Nat) (v : VM) (r : VM) (hf : fX5_save N v = some r) (E : gE k (wM (kD k) aM v) (fun rv w => rv = none ∧ w = (wM (kD k) aM r)) (fun _ _ => False) 0 0 none []) : gG k (wM (kD k) aM v) [(0, .ref (aM 0))] 0 0 0 [] := by
  unfold fX5_save at hf
  refine g_aload_n (pc := 0) (x := (aM 0)) C dX5_save_0 rfl ?_
  refine g_getf (pc := 1) C 0 rfl rfl inX5_save_X5 2 (by decide) lkX5_save_47 rfl rfl dX5_save_1 ?_
  refine g_bipush (pc := 4) (v := 6) C dX5_save_4 (by decide) ?_
  refine g_icmp_ne (pc := 6) (tgt := 50) (x := (mSvn v)) (y := 6) hf C dX5_save_6 (by decide) (fun hf => ?_) (fun hf => ?_)
  · refine g_iconst (pc := 50) (v := 0) C dX5_save_50 (by decide) ?_
    refine g_istore_n (pc := 51) (lv' := [(1, .int 0), (0, .ref (aM 0))]) C dX5_save_51 (by decide) rfl ?_
    obtain ⟨r1, h1, hf⟩ := bd_e hf
    refine g_lv [1, 0] (lv' := [(0, .ref (aM 0)), (1, .int 0)]) rfl ?_
    refine wlX5_save_52 C N aM N v 0 r1 h1 ?_
    refine g_aload_n (pc := 86) (x := (aM 0)) C dX5_save_86 rfl ?_
    refine g_dup (pc := 87) C dX5_save_87 rfl ?_
    refine g_getf (pc := 88) C 0 rfl rfl inX5_save_X5 2 (by decide) lkX5_save_47 rfl rfl dX5_save_88 ?_
    refine g_iconst (pc := 91) (v := 1) C dX5_save_91 (by decide) ?_
    refine g_iadd (pc := 92) (x := (mSvn r1)) (y := 1) C dX5_save_92 ?_
    refine g_putf (pc := 93) C 0 rfl rfl inX5_save_X5 tyX5 tyX5_ok nmX5 2 (by decide) lkX5_save_47 rfl rfl pfX5_2 rfl rfl (Nat.le_of_ble_eq_true rfl) dX5_save_93 (ws' := (wM (kD k) aM ((mRow r1), (mSav r1), ((mSvn r1) + 1), (mSnp r1), (mKep r1), (mThr r1), (mFre r1), (mFrn r1), (mBuf r1), (mLen r1), (mSpt r1), (mNum r1), (mOrd r1), (mLet r1), (mFst r1), (mSnd r1), (mTok r1), (mLft r1)))) rfl ?_
    obtain rfl := Option.some.inj hf
    exact g_vret C E dX5_save_96 (Nat.le_of_ble_eq_true rfl) (Nat.le_of_ble_eq_true rfl) ⟨rfl, rfl⟩
  · refine g_iconst (pc := 9) (v := 0) C dX5_save_9 (by decide) ?_
    refine g_istore_n (pc := 10) (lv' := [(1, .int 0), (0, .ref (aM 0))]) C dX5_save_10 (by decide) rfl ?_
    obtain ⟨r2, h2, hf⟩ := bd_e hf
    refine g_lv [1, 0] (lv' := [(0, .ref (aM 0)), (1, .int 0)]) rfl ?_
    refine wlX5_save_11 C N aM N v 0 r2 h2 ?_
    refine g_aload_n (pc := 40) (x := (aM 0)) C dX5_save_40 rfl ?_
    refine g_dup (pc := 41) C dX5_save_41 rfl ?_
    refine g_getf (pc := 42) C 0 rfl rfl inX5_save_X5 2 (by decide) lkX5_save_47 rfl rfl dX5_save_42 ?_
    refine g_iconst (pc := 45) (v := 1) C dX5_save_45 (by decide) ?_
    refine g_isub (pc := 46) (x := (mSvn r2)) (y := 1) C dX5_save_46 ?_
    refine g_putf (pc := 47) C 0 rfl rfl inX5_save_X5 tyX5 tyX5_ok nmX5 2 (by decide) lkX5_save_47 rfl rfl pfX5_2 rfl rfl (Nat.le_of_ble_eq_true rfl) dX5_save_47 (ws' := (wM (kD k) aM ((mRow r2), (mSav r2), ((mSvn r2) - 1), (mSnp r2), (mKep r2), (mThr r2), (mFre r2), (mFrn r2), (mBuf r2), (mLen r2), (mSpt r2), (mNum r2), (mOrd r2), (mLet r2), (mFst r2), (mSnd r2), (mTok r2), (mLft r2)))) rfl ?_
    refine g_iconst (pc := 50) (v := 0) C dX5_save_50 (by decide) ?_
    refine g_istore_n (pc := 51) (lv' := [(1, .int 0), (0, .ref (aM 0))]) C dX5_save_51 (by decide) rfl ?_
    obtain ⟨r3, h3, hf⟩ := bd_e hf
    refine g_lv [1, 0] (lv' := [(0, .ref (aM 0)), (1, .int 0)]) rfl ?_
    refine wlX5_save_52 C N aM N ((mRow r2), (mSav r2), ((mSvn r2) - 1), (mSnp r2), (mKep r2), (mThr r2), (mFre r2), (mFrn r2), (mBuf r2), (mLen r2), (mSpt r2), (mNum r2), (mOrd r2), (mLet r2), (mFst r2), (mSnd r2), (mTok r2), (mLft r2)) 0 r3 h3 ?_
    refine g_aload_n (pc := 86) (x := (aM 0)) C dX5_save_86 rfl ?_
    refine g_dup (pc := 87) C dX5_save_87 rfl ?_
    refine g_getf (pc := 88) C 0 rfl rfl inX5_save_X5 2 (by decide) lkX5_save_47 rfl rfl dX5_save_88 ?_
    refine g_iconst (pc := 91) (v := 1) C dX5_save_91 (by decide) ?_
    refine g_iadd (pc := 92) (x := (mSvn r3)) (y := 1) C dX5_save_92 ?_
    refine g_putf (pc := 93) C 0 rfl rfl inX5_save_X5 tyX5 tyX5_ok nmX5 2 (by decide) lkX5_save_47 rfl rfl pfX5_2 rfl rfl (Nat.le_of_ble_eq_true rfl) dX5_save_93 (ws' := (wM (kD k) aM ((mRow r3), (mSav r3), ((mSvn r3) + 1), (mSnp r3), (mKep r3), (mThr r3), (mFre r3), (mFrn r3), (mBuf r3), (mLen r3), (mSpt r3), (mNum r3), (mOrd r3), (mLet r3), (mFst r3), (mSnd r3), (mTok r3), (mLft r3)))) rfl ?_
    obtain rfl := Option.some.inj hf
    exact g_vret C E dX5_save_96 (Nat.le_of_ble_eq_true rfl) (Nat.le_of_ble_eq_true rfl) ⟨rfl, rfl⟩
set_option maxRecDepth 100000 in
set_option maxHeartbeats 4000000 in
theorem cX5_save_ (l : Launch) (htr : l.stackTraces = false) (D : va_G) (N : Nat) (aM : Nat → Nat) (v : VM) (r : VM) (hf : fX5_save N v = some r) : Tc l D yX5_save wsX5_save rmX5_save [.ref (aM 0)] (wM D aM v) (fun rv w => rv = none ∧ w = (wM D aM r)) (fun _ _ => False) 0 0 := Tc_of htr (by decide +kernel) rfl (Nat.le_of_ble_eq_true rfl) (fun k C E hl hD => by subst hD; exact wkX5_save C N aM v r hf E)
abbrev rmX5_undo : Room := { frames := 1, cells := 0, slots := 0, locals := 21 }
theorem inX5_undo_X5 : ∀ w ∈ wsX50, w ∈ wsX5_undo := by decide +kernel
theorem lkX5_undo_38 : Cond.fieldLink RX5 38 "GaugeBlocksModel" (TX5 5).2.1 (TX5 5).2.2.1 ∈ wsX5_undo := by decide +kernel
theorem lkX5_undo_47 : Cond.fieldLink RX5 47 "GaugeBlocksModel" (TX5 2).2.1 (TX5 2).2.2.1 ∈ wsX5_undo := by decide +kernel
theorem lkX5_undo_7 : Cond.fieldLink RX5 7 "GaugeBlocksModel" (TX5 0).2.1 (TX5 0).2.2.1 ∈ wsX5_undo := by decide +kernel
theorem lkX5_undo_13 : Cond.fieldLink RX5 13 "GaugeBlocksModel" (TX5 1).2.1 (TX5 1).2.2.1 ∈ wsX5_undo := by decide +kernel
theorem hdX5_undo : yX5_undo.cls = RX5 ∧ yX5_undo.cls ≠ "java/lang/invoke/MethodHandle" ∧ yX5_undo.cls ≠ "java/lang/invoke/VarHandle" ∧ (parseMethodDescriptor yX5_undo.desc).map (fun d => d.parameters.length) = some 0 := by decide +kernel
def lX5_undo_30 (N : Nat)  : Nat → VM → Int32 → Option ((VM))
  | 0, _, _ => none
  | n + 1, v, l1 => (if (149 : Int32) ≤ l1 then some v else ck ((149 * (mSvn v)) + l1) 894 (ck l1 149 ((lX5_undo_30 N n ((upd (mRow v) (Int32.toNatClampNeg l1) ((mSav v) (Int32.toNatClampNeg ((149 * (mSvn v)) + l1)))), (mSav v), (mSvn v), (mSnp v), (mKep v), (mThr v), (mFre v), (mFrn v), (mBuf v), (mLen v), (mSpt v), (mNum v), (mOrd v), (mLet v), (mFst v), (mSnd v), (mTok v), (mLft v)) (l1 + 1)))))
set_option maxRecDepth 100000 in
set_option maxHeartbeats 4000000 in
theorem wlX5_undo_30 {k : Kt} (C : gC k cX5_undo 2 RX5 wsX5_undo rmX5_undo "undo") (N : Nat) (aM : Nat → Nat) : ∀ (n : Nat) (v : VM) (l1 : Int32) (u : (VM)) (hf : lX5_undo_30 N n v l1 = some u) (hk0 : gG k (wM (kD k) aM u) [(0, .ref (aM 0))] 0 0 64 []), gG k (wM (kD k) aM v) [(0, .ref (aM 0)), (1, .int l1)] 0 0 30 [] := by
  intro n
  induction n with
  | zero => intro v l1 u hf hk0; rw [lX5_undo_30] at hf; cases hf
  | succ n ih =>
    intro v l1 u hf hk0
    rw [lX5_undo_30] at hf
    refine g_iload_n (pc := 30) (x := l1) C dX5_undo_30 rfl ?_
    refine g_sipush (pc := 31) (v := 149) C dX5_undo_31 (by decide) ?_
    refine g_icmp_ge (pc := 34) (tgt := 64) (x := l1) (y := 149) hf C dX5_undo_34 (by decide) (fun hf => ?_) (fun hf => ?_)
    · obtain rfl := Option.some.inj hf
      refine g_lv [0] (lv' := [(0, .ref (aM 0))]) rfl ?_
      exact hk0
    · refine g_aload_n (pc := 37) (x := (aM 0)) C dX5_undo_37 rfl ?_
      refine g_getf (pc := 38) C 0 rfl rfl inX5_undo_X5 0 (by decide) lkX5_undo_7 rfl rfl dX5_undo_38 ?_
      refine g_iload_n (pc := 41) (x := l1) C dX5_undo_41 rfl ?_
      refine g_aload_n (pc := 42) (x := (aM 0)) C dX5_undo_42 rfl ?_
      refine g_getf (pc := 43) C 0 rfl rfl inX5_undo_X5 1 (by decide) lkX5_undo_13 rfl rfl dX5_undo_43 ?_
      refine g_sipush (pc := 46) (v := 149) C dX5_undo_46 (by decide) ?_
      refine g_aload_n (pc := 49) (x := (aM 0)) C dX5_undo_49 rfl ?_
      refine g_getf (pc := 50) C 0 rfl rfl inX5_undo_X5 2 (by decide) lkX5_undo_47 rfl rfl dX5_undo_50 ?_
      refine g_imul (pc := 53) (x := 149) (y := (mSvn v)) C dX5_undo_53 ?_
      refine g_iload_n (pc := 54) (x := l1) C dX5_undo_54 rfl ?_
      refine g_iadd (pc := 55) (x := (149 * (mSvn v))) (y := l1) C dX5_undo_55 ?_
      refine g_iald (pc := 56) (i := ((149 * (mSvn v)) + l1)) hf C 2 rfl dX5_undo_56 (fun hf => ?_)
      refine g_iast (pc := 57) (i := l1) (x := ((mSav v) (Int32.toNatClampNeg ((149 * (mSvn v)) + l1)))) hf C 1 rfl dX5_undo_57 (ws' := (wM (kD k) aM ((upd (mRow v) (Int32.toNatClampNeg l1) ((mSav v) (Int32.toNatClampNeg ((149 * (mSvn v)) + l1)))), (mSav v), (mSvn v), (mSnp v), (mKep v), (mThr v), (mFre v), (mFrn v), (mBuf v), (mLen v), (mSpt v), (mNum v), (mOrd v), (mLet v), (mFst v), (mSnd v), (mTok v), (mLft v)))) rfl (fun hf => ?_)
      refine g_iinc (pc := 58) (x := l1) (v := (l1 + 1)) (lv' := [(1, .int (l1 + 1)), (0, .ref (aM 0))]) C dX5_undo_58 rfl rfl (by decide) rfl ?_
      refine g_goto (pc := 61) (tgt := 30) C dX5_undo_61 (by decide) ?_
      refine g_lv [1, 0] (lv' := [(0, .ref (aM 0)), (1, .int (l1 + 1))]) rfl ?_
      exact ih ((upd (mRow v) (Int32.toNatClampNeg l1) ((mSav v) (Int32.toNatClampNeg ((149 * (mSvn v)) + l1)))), (mSav v), (mSvn v), (mSnp v), (mKep v), (mThr v), (mFre v), (mFrn v), (mBuf v), (mLen v), (mSpt v), (mNum v), (mOrd v), (mLet v), (mFst v), (mSnd v), (mTok v), (mLft v)) (l1 + 1) u hf hk0
def fX5_undo (N : Nat) (v : VM) : Option (VM × Int32) := (if (mSvn v) = (0 : Int32) then ((fX5_fails N ((mRow v), (mSav v), (mSvn v), (mSnp v), (mKep v), 0, (mFre v), (mFrn v), (mBuf v), (mLen v), (mSpt v), (mNum v), (mOrd v), (mLet v), (mFst v), (mSnd v), (mTok v), (mLft v)) 1).bind fun r2 => some (r2.1, r2.2)) else ((lX5_undo_30 N N ((mRow v), (mSav v), ((mSvn v) - 1), (mSnp v), (mKep v), 0, (mFre v), (mFrn v), (mBuf v), (mLen v), (mSpt v), (mNum v), (mOrd v), (mLet v), (mFst v), (mSnd v), (mTok v), (mLft v)) 0).bind fun r1 => some (r1, (mSvn r1))))
set_option maxRecDepth 100000 in
set_option maxHeartbeats 4000000 in
theorem wkX5_undo {k : Kt} (C : gC k cX5_undo 2 RX5 wsX5_undo rmX5_undo "undo") (N : Nat) (aM : Nat → Nat) (v : VM) (r : VM × Int32) (hf : fX5_undo N v = some r) (E : gE k (wM (kD k) aM v) (fun rv w => rv = some (.int r.2) ∧ w = (wM (kD k) aM r.1)) (fun _ _ => False) 0 0 (some .int) []) : gG k (wM (kD k) aM v) [(0, .ref (aM 0))] 0 0 0 [] := by
  unfold fX5_undo at hf
  refine g_aload_n (pc := 0) (x := (aM 0)) C dX5_undo_0 rfl ?_
  refine g_iconst (pc := 1) (v := 0) C dX5_undo_1 (by decide) ?_
  refine g_putf (pc := 2) C 0 rfl rfl inX5_undo_X5 tyX5 tyX5_ok nmX5 5 (by decide) lkX5_undo_38 rfl rfl pfX5_5 rfl rfl (Nat.le_of_ble_eq_true rfl) dX5_undo_2 (ws' := (wM (kD k) aM ((mRow v), (mSav v), (mSvn v), (mSnp v), (mKep v), 0, (mFre v), (mFrn v), (mBuf v), (mLen v), (mSpt v), (mNum v), (mOrd v), (mLet v), (mFst v), (mSnd v), (mTok v), (mLft v)))) rfl ?_
  refine g_aload_n (pc := 5) (x := (aM 0)) C dX5_undo_5 rfl ?_
  refine g_getf (pc := 6) C 0 rfl rfl inX5_undo_X5 2 (by decide) lkX5_undo_47 rfl rfl dX5_undo_6 ?_
  refine g_if_ne (pc := 9) (tgt := 18) (x := (mSvn v)) hf C dX5_undo_9 (by decide) (fun hf => ?_) (fun hf => ?_)
  · refine g_aload_n (pc := 18) (x := (aM 0)) C dX5_undo_18 rfl ?_
    refine g_dup (pc := 19) C dX5_undo_19 rfl ?_
    refine g_getf (pc := 20) C 0 rfl rfl inX5_undo_X5 2 (by decide) lkX5_undo_47 rfl rfl dX5_undo_20 ?_
    refine g_iconst (pc := 23) (v := 1) C dX5_undo_23 (by decide) ?_
    refine g_isub (pc := 24) (x := (mSvn v)) (y := 1) C dX5_undo_24 ?_
    refine g_putf (pc := 25) C 0 rfl rfl inX5_undo_X5 tyX5 tyX5_ok nmX5 2 (by decide) lkX5_undo_47 rfl rfl pfX5_2 rfl rfl (Nat.le_of_ble_eq_true rfl) dX5_undo_25 (ws' := (wM (kD k) aM ((mRow v), (mSav v), ((mSvn v) - 1), (mSnp v), (mKep v), 0, (mFre v), (mFrn v), (mBuf v), (mLen v), (mSpt v), (mNum v), (mOrd v), (mLet v), (mFst v), (mSnd v), (mTok v), (mLft v)))) rfl ?_
    refine g_iconst (pc := 28) (v := 0) C dX5_undo_28 (by decide) ?_
    refine g_istore_n (pc := 29) (lv' := [(1, .int 0), (0, .ref (aM 0))]) C dX5_undo_29 (by decide) rfl ?_
    obtain ⟨r1, h1, hf⟩ := bd_e hf
    refine g_lv [1, 0] (lv' := [(0, .ref (aM 0)), (1, .int 0)]) rfl ?_
    refine wlX5_undo_30 C N aM N ((mRow v), (mSav v), ((mSvn v) - 1), (mSnp v), (mKep v), 0, (mFre v), (mFrn v), (mBuf v), (mLen v), (mSpt v), (mNum v), (mOrd v), (mLet v), (mFst v), (mSnd v), (mTok v), (mLft v)) 0 r1 h1 ?_
    refine g_aload_n (pc := 64) (x := (aM 0)) C dX5_undo_64 rfl ?_
    refine g_getf (pc := 65) C 0 rfl rfl inX5_undo_X5 2 (by decide) lkX5_undo_47 rfl rfl dX5_undo_65 ?_
    obtain rfl := Option.some.inj hf
    exact g_iret (v := (mSvn r1)) C E dX5_undo_68 (Nat.le_of_ble_eq_true rfl) (Nat.le_of_ble_eq_true rfl) ⟨rfl, rfl⟩
  · refine g_aload_n (pc := 12) (x := (aM 0)) C dX5_undo_12 rfl ?_
    refine g_iconst (pc := 13) (v := 1) C dX5_undo_13 (by decide) ?_
    refine g_callW (wr := []) (pc' := 17) (cs' := 0) (sl' := 0) hf C (fun u => some (.int u.2)) (fun u => (wM (kD k) aM u.1)) (fun u hu => gr_V (rest := []) C (cX5_fails_ (kL k) C.tr (kD k) N aM ((mRow v), (mSav v), (mSvn v), (mSnp v), (mKep v), 0, (mFre v), (mFrn v), (mBuf v), (mLen v), (mSpt v), (mNum v), (mOrd v), (mLet v), (mFst v), (mSnd v), (mTok v), (mLft v)) 1 u hu) (fun ht => cwV 1 ht gX5_undo_X5_fails rfl rfl rfl hdX5_fails ⟨(Nat.le_of_ble_eq_true rfl), (Nat.le_of_ble_eq_true rfl)⟩) 0 rfl rfl [0, 1, 2, 3, 4, 5, 6, 7, 8, 9] rfl (by decide) rfl rfl (Nat.le_of_ble_eq_true rfl) dX5_undo_14 ⟨(Nat.le_of_ble_eq_true rfl), (Nat.le_of_ble_eq_true rfl)⟩) [0, 1, 2, 3, 4, 5, 6, 7, 8, 9] [] rfl rfl (by decide) (by decide) [0, 1, 2, 3, 4, 5, 6, 7, 8, 9] (by decide) (ws' := fun u => (wM (kD k) aM u.1)) (fun u => rfl) rfl rfl rfl (fun u => [.int u.2]) (fun u => rfl) (fun r2 hf => ?_)
    obtain rfl := Option.some.inj hf
    exact g_iret (v := r2.2) C E dX5_undo_17 (Nat.le_of_ble_eq_true rfl) (Nat.le_of_ble_eq_true rfl) ⟨rfl, rfl⟩
set_option maxRecDepth 100000 in
set_option maxHeartbeats 4000000 in
theorem cX5_undo_ (l : Launch) (htr : l.stackTraces = false) (D : va_G) (N : Nat) (aM : Nat → Nat) (v : VM) (r : VM × Int32) (hf : fX5_undo N v = some r) : Tc l D yX5_undo wsX5_undo rmX5_undo [.ref (aM 0)] (wM D aM v) (fun rv w => rv = some (.int r.2) ∧ w = (wM D aM r.1)) (fun _ _ => False) 0 0 := Tc_of htr (by decide +kernel) rfl (Nat.le_of_ble_eq_true rfl) (fun k C E hl hD => by subst hD; exact wkX5_undo C N aM v r hf E)
abbrev rmX5_keep : Room := { frames := 1, cells := 0, slots := 0, locals := 22 }
theorem inX5_keep_X5 : ∀ w ∈ wsX50, w ∈ wsX5_keep := by decide +kernel
theorem lkX5_keep_38 : Cond.fieldLink RX5 38 "GaugeBlocksModel" (TX5 5).2.1 (TX5 5).2.2.1 ∈ wsX5_keep := by decide +kernel
theorem lkX5_keep_16 : Cond.fieldLink RX5 16 "GaugeBlocksModel" (TX5 3).2.1 (TX5 3).2.2.1 ∈ wsX5_keep := by decide +kernel
theorem lkX5_keep_7 : Cond.fieldLink RX5 7 "GaugeBlocksModel" (TX5 0).2.1 (TX5 0).2.2.1 ∈ wsX5_keep := by decide +kernel
theorem lkX5_keep_19 : Cond.fieldLink RX5 19 "GaugeBlocksModel" (TX5 4).2.1 (TX5 4).2.2.1 ∈ wsX5_keep := by decide +kernel
theorem hdX5_keep : yX5_keep.cls = RX5 ∧ yX5_keep.cls ≠ "java/lang/invoke/MethodHandle" ∧ yX5_keep.cls ≠ "java/lang/invoke/VarHandle" ∧ (parseMethodDescriptor yX5_keep.desc).map (fun d => d.parameters.length) = some 1 := by decide +kernel
def lX5_keep_22 (N : Nat) (l1 : Int32) : Nat → VM → Int32 → Option ((VM))
  | 0, _, _ => none
  | n + 1, v, l2 => (if (149 : Int32) ≤ l2 then some v else ck l2 149 (ck ((149 * l1) + l2) 298 ((lX5_keep_22 N l1 n ((mRow v), (mSav v), (mSvn v), (upd (mSnp v) (Int32.toNatClampNeg ((149 * l1) + l2)) ((mRow v) (Int32.toNatClampNeg l2))), (mKep v), (mThr v), (mFre v), (mFrn v), (mBuf v), (mLen v), (mSpt v), (mNum v), (mOrd v), (mLet v), (mFst v), (mSnd v), (mTok v), (mLft v)) (l2 + 1)))))
set_option maxRecDepth 100000 in
set_option maxHeartbeats 4000000 in
theorem wlX5_keep_22 {k : Kt} (C : gC k cX5_keep 3 RX5 wsX5_keep rmX5_keep "keep") (N : Nat) (aM : Nat → Nat) (l1 : Int32) : ∀ (n : Nat) (v : VM) (l2 : Int32) (u : (VM)) (hf : lX5_keep_22 N l1 n v l2 = some u) (hk0 : gG k (wM (kD k) aM u) [(0, .ref (aM 0)), (1, .int l1)] 0 0 53 []), gG k (wM (kD k) aM v) [(0, .ref (aM 0)), (1, .int l1), (2, .int l2)] 0 0 22 [] := by
  intro n
  induction n with
  | zero => intro v l2 u hf hk0; rw [lX5_keep_22] at hf; cases hf
  | succ n ih =>
    intro v l2 u hf hk0
    rw [lX5_keep_22] at hf
    refine g_iload_n (pc := 22) (x := l2) C dX5_keep_22 rfl ?_
    refine g_sipush (pc := 23) (v := 149) C dX5_keep_23 (by decide) ?_
    refine g_icmp_ge (pc := 26) (tgt := 53) (x := l2) (y := 149) hf C dX5_keep_26 (by decide) (fun hf => ?_) (fun hf => ?_)
    · obtain rfl := Option.some.inj hf
      refine g_lv [0, 1] (lv' := [(0, .ref (aM 0)), (1, .int l1)]) rfl ?_
      exact hk0
    · refine g_aload_n (pc := 29) (x := (aM 0)) C dX5_keep_29 rfl ?_
      refine g_getf (pc := 30) C 0 rfl rfl inX5_keep_X5 3 (by decide) lkX5_keep_16 rfl rfl dX5_keep_30 ?_
      refine g_sipush (pc := 33) (v := 149) C dX5_keep_33 (by decide) ?_
      refine g_iload_n (pc := 36) (x := l1) C dX5_keep_36 rfl ?_
      refine g_imul (pc := 37) (x := 149) (y := l1) C dX5_keep_37 ?_
      refine g_iload_n (pc := 38) (x := l2) C dX5_keep_38 rfl ?_
      refine g_iadd (pc := 39) (x := (149 * l1)) (y := l2) C dX5_keep_39 ?_
      refine g_aload_n (pc := 40) (x := (aM 0)) C dX5_keep_40 rfl ?_
      refine g_getf (pc := 41) C 0 rfl rfl inX5_keep_X5 0 (by decide) lkX5_keep_7 rfl rfl dX5_keep_41 ?_
      refine g_iload_n (pc := 44) (x := l2) C dX5_keep_44 rfl ?_
      refine g_iald (pc := 45) (i := l2) hf C 1 rfl dX5_keep_45 (fun hf => ?_)
      refine g_iast (pc := 46) (i := ((149 * l1) + l2)) (x := ((mRow v) (Int32.toNatClampNeg l2))) hf C 3 rfl dX5_keep_46 (ws' := (wM (kD k) aM ((mRow v), (mSav v), (mSvn v), (upd (mSnp v) (Int32.toNatClampNeg ((149 * l1) + l2)) ((mRow v) (Int32.toNatClampNeg l2))), (mKep v), (mThr v), (mFre v), (mFrn v), (mBuf v), (mLen v), (mSpt v), (mNum v), (mOrd v), (mLet v), (mFst v), (mSnd v), (mTok v), (mLft v)))) rfl (fun hf => ?_)
      refine g_iinc (pc := 47) (x := l2) (v := (l2 + 1)) (lv' := [(2, .int (l2 + 1)), (0, .ref (aM 0)), (1, .int l1)]) C dX5_keep_47 rfl rfl (by decide) rfl ?_
      refine g_goto (pc := 50) (tgt := 22) C dX5_keep_50 (by decide) ?_
      refine g_lv [1, 2, 0] (lv' := [(0, .ref (aM 0)), (1, .int l1), (2, .int (l2 + 1))]) rfl ?_
      exact ih ((mRow v), (mSav v), (mSvn v), (upd (mSnp v) (Int32.toNatClampNeg ((149 * l1) + l2)) ((mRow v) (Int32.toNatClampNeg l2))), (mKep v), (mThr v), (mFre v), (mFrn v), (mBuf v), (mLen v), (mSpt v), (mNum v), (mOrd v), (mLet v), (mFst v), (mSnd v), (mTok v), (mLft v)) (l2 + 1) u hf hk0
def fX5_keep (N : Nat) (v : VM) (p1 : Int32) : Option (VM × Int32) := ((fX5_in N p1 0 1).bind fun r1 => (if r1 = true then ((lX5_keep_22 N p1 N ((mRow v), (mSav v), (mSvn v), (mSnp v), (mKep v), 0, (mFre v), (mFrn v), (mBuf v), (mLen v), (mSpt v), (mNum v), (mOrd v), (mLet v), (mFst v), (mSnd v), (mTok v), (mLft v)) 0).bind fun r2 => ck p1 2 (ck 8 149 (some (((mRow r2), (mSav r2), (mSvn r2), (mSnp r2), (upd (mKep r2) (Int32.toNatClampNeg p1) (vp_nar .boolean 1)), (mThr r2), (mFre r2), (mFrn r2), (mBuf r2), (mLen r2), (mSpt r2), (mNum r2), (mOrd r2), (mLet r2), (mFst r2), (mSnd r2), (mTok r2), (mLft r2)), ((mRow r2) (Int32.toNatClampNeg 8)))))) else ((fX5_fails N ((mRow v), (mSav v), (mSvn v), (mSnp v), (mKep v), 0, (mFre v), (mFrn v), (mBuf v), (mLen v), (mSpt v), (mNum v), (mOrd v), (mLet v), (mFst v), (mSnd v), (mTok v), (mLft v)) 1).bind fun r3 => some (r3.1, r3.2))))
set_option maxRecDepth 100000 in
set_option maxHeartbeats 4000000 in
theorem wkX5_keep {k : Kt} (C : gC k cX5_keep 3 RX5 wsX5_keep rmX5_keep "keep") (N : Nat) (aM : Nat → Nat) (v : VM) (p1 : Int32) (r : VM × Int32) (hf : fX5_keep N v p1 = some r) (E : gE k (wM (kD k) aM v) (fun rv w => rv = some (.int r.2) ∧ w = (wM (kD k) aM r.1)) (fun _ _ => False) 0 0 (some .int) []) : gG k (wM (kD k) aM v) [(0, .ref (aM 0)), (1, .int p1)] 0 0 0 [] := by
  unfold fX5_keep at hf
  refine g_aload_n (pc := 0) (x := (aM 0)) C dX5_keep_0 rfl ?_
  refine g_iconst (pc := 1) (v := 0) C dX5_keep_1 (by decide) ?_
  refine g_putf (pc := 2) C 0 rfl rfl inX5_keep_X5 tyX5 tyX5_ok nmX5 5 (by decide) lkX5_keep_38 rfl rfl pfX5_5 rfl rfl (Nat.le_of_ble_eq_true rfl) dX5_keep_2 (ws' := (wM (kD k) aM ((mRow v), (mSav v), (mSvn v), (mSnp v), (mKep v), 0, (mFre v), (mFrn v), (mBuf v), (mLen v), (mSpt v), (mNum v), (mOrd v), (mLet v), (mFst v), (mSnd v), (mTok v), (mLft v)))) rfl ?_
  refine g_iload_n (pc := 5) (x := p1) C dX5_keep_5 rfl ?_
  refine g_iconst (pc := 6) (v := 0) C dX5_keep_6 (by decide) ?_
  refine g_iconst (pc := 7) (v := 1) C dX5_keep_7 (by decide) ?_
  refine g_callR (pc' := 11) (cs' := 0) (sl' := 0) hf C (fun u => some (.int (b2i u))) (fun u hu => gr_S (rest := []) C (cX5_in_ (kL k) C.tr (kD k) N p1 0 1 u hu) (fun ht => va_cwS 3 ht gX5_keep_X5_in rfl rfl rfl hsX5_in ⟨(Nat.le_of_ble_eq_true rfl), (Nat.le_of_ble_eq_true rfl)⟩) [] rfl (by decide) rfl rfl (Nat.le_of_ble_eq_true rfl) dX5_keep_8 ⟨(Nat.le_of_ble_eq_true rfl), (Nat.le_of_ble_eq_true rfl)⟩) [] rfl rfl rfl rfl (fun u => [.int (b2i u)]) (fun u => rfl) (fun r1 hf => ?_)
  refine g_ifB_ne (pc := 11) (tgt := 20) (b := r1) hf C dX5_keep_11 (by decide) (fun hf => ?_) (fun hf => ?_)
  · refine g_iconst (pc := 20) (v := 0) C dX5_keep_20 (by decide) ?_
    refine g_istore_n (pc := 21) (lv' := [(2, .int 0), (0, .ref (aM 0)), (1, .int p1)]) C dX5_keep_21 (by decide) rfl ?_
    obtain ⟨r2, h2, hf⟩ := bd_e hf
    refine g_lv [1, 2, 0] (lv' := [(0, .ref (aM 0)), (1, .int p1), (2, .int 0)]) rfl ?_
    refine wlX5_keep_22 C N aM p1 N ((mRow v), (mSav v), (mSvn v), (mSnp v), (mKep v), 0, (mFre v), (mFrn v), (mBuf v), (mLen v), (mSpt v), (mNum v), (mOrd v), (mLet v), (mFst v), (mSnd v), (mTok v), (mLft v)) 0 r2 h2 ?_
    refine g_aload_n (pc := 53) (x := (aM 0)) C dX5_keep_53 rfl ?_
    refine g_getf (pc := 54) C 0 rfl rfl inX5_keep_X5 4 (by decide) lkX5_keep_19 rfl rfl dX5_keep_54 ?_
    refine g_iload_n (pc := 57) (x := p1) C dX5_keep_57 rfl ?_
    refine g_iconst (pc := 58) (v := 1) C dX5_keep_58 (by decide) ?_
    refine g_zast (pc := 59) (i := p1) (x := 1) hf C 4 rfl dX5_keep_59 (ws' := (wM (kD k) aM ((mRow r2), (mSav r2), (mSvn r2), (mSnp r2), (upd (mKep r2) (Int32.toNatClampNeg p1) (vp_nar .boolean 1)), (mThr r2), (mFre r2), (mFrn r2), (mBuf r2), (mLen r2), (mSpt r2), (mNum r2), (mOrd r2), (mLet r2), (mFst r2), (mSnd r2), (mTok r2), (mLft r2)))) rfl (fun hf => ?_)
    refine g_aload_n (pc := 60) (x := (aM 0)) C dX5_keep_60 rfl ?_
    refine g_getf (pc := 61) C 0 rfl rfl inX5_keep_X5 0 (by decide) lkX5_keep_7 rfl rfl dX5_keep_61 ?_
    refine g_bipush (pc := 64) (v := 8) C dX5_keep_64 (by decide) ?_
    refine g_iald (pc := 66) (i := 8) hf C 1 rfl dX5_keep_66 (fun hf => ?_)
    obtain rfl := Option.some.inj hf
    exact g_iret (v := ((mRow r2) (Int32.toNatClampNeg 8))) C E dX5_keep_67 (Nat.le_of_ble_eq_true rfl) (Nat.le_of_ble_eq_true rfl) ⟨rfl, rfl⟩
  · refine g_aload_n (pc := 14) (x := (aM 0)) C dX5_keep_14 rfl ?_
    refine g_iconst (pc := 15) (v := 1) C dX5_keep_15 (by decide) ?_
    refine g_callW (wr := []) (pc' := 19) (cs' := 0) (sl' := 0) hf C (fun u => some (.int u.2)) (fun u => (wM (kD k) aM u.1)) (fun u hu => gr_V (rest := []) C (cX5_fails_ (kL k) C.tr (kD k) N aM ((mRow v), (mSav v), (mSvn v), (mSnp v), (mKep v), 0, (mFre v), (mFrn v), (mBuf v), (mLen v), (mSpt v), (mNum v), (mOrd v), (mLet v), (mFst v), (mSnd v), (mTok v), (mLft v)) 1 u hu) (fun ht => cwV 1 ht gX5_keep_X5_fails rfl rfl rfl hdX5_fails ⟨(Nat.le_of_ble_eq_true rfl), (Nat.le_of_ble_eq_true rfl)⟩) 0 rfl rfl [0, 1, 2, 3, 4, 5, 6, 7, 8, 9] rfl (by decide) rfl rfl (Nat.le_of_ble_eq_true rfl) dX5_keep_16 ⟨(Nat.le_of_ble_eq_true rfl), (Nat.le_of_ble_eq_true rfl)⟩) [0, 1, 2, 3, 4, 5, 6, 7, 8, 9] [] rfl rfl (by decide) (by decide) [0, 1, 2, 3, 4, 5, 6, 7, 8, 9] (by decide) (ws' := fun u => (wM (kD k) aM u.1)) (fun u => rfl) rfl rfl rfl (fun u => [.int u.2]) (fun u => rfl) (fun r3 hf => ?_)
    obtain rfl := Option.some.inj hf
    exact g_iret (v := r3.2) C E dX5_keep_19 (Nat.le_of_ble_eq_true rfl) (Nat.le_of_ble_eq_true rfl) ⟨rfl, rfl⟩
set_option maxRecDepth 100000 in
set_option maxHeartbeats 4000000 in
theorem cX5_keep_ (l : Launch) (htr : l.stackTraces = false) (D : va_G) (N : Nat) (aM : Nat → Nat) (v : VM) (p1 : Int32) (r : VM × Int32) (hf : fX5_keep N v p1 = some r) : Tc l D yX5_keep wsX5_keep rmX5_keep [.ref (aM 0), .int p1] (wM D aM v) (fun rv w => rv = some (.int r.2) ∧ w = (wM D aM r.1)) (fun _ _ => False) 0 0 := Tc_of htr (by decide +kernel) rfl (Nat.le_of_ble_eq_true rfl) (fun k C E hl hD => by subst hD; exact wkX5_keep C N aM v p1 r hf E)
abbrev rmX5_goBack : Room := { frames := 1, cells := 0, slots := 0, locals := 22 }
theorem inX5_goBack_X5 : ∀ w ∈ wsX50, w ∈ wsX5_goBack := by decide +kernel
theorem lkX5_goBack_38 : Cond.fieldLink RX5 38 "GaugeBlocksModel" (TX5 5).2.1 (TX5 5).2.2.1 ∈ wsX5_goBack := by decide +kernel
theorem lkX5_goBack_19 : Cond.fieldLink RX5 19 "GaugeBlocksModel" (TX5 4).2.1 (TX5 4).2.2.1 ∈ wsX5_goBack := by decide +kernel
theorem lkX5_goBack_7 : Cond.fieldLink RX5 7 "GaugeBlocksModel" (TX5 0).2.1 (TX5 0).2.2.1 ∈ wsX5_goBack := by decide +kernel
theorem lkX5_goBack_16 : Cond.fieldLink RX5 16 "GaugeBlocksModel" (TX5 3).2.1 (TX5 3).2.2.1 ∈ wsX5_goBack := by decide +kernel
theorem hdX5_goBack : yX5_goBack.cls = RX5 ∧ yX5_goBack.cls ≠ "java/lang/invoke/MethodHandle" ∧ yX5_goBack.cls ≠ "java/lang/invoke/VarHandle" ∧ (parseMethodDescriptor yX5_goBack.desc).map (fun d => d.parameters.length) = some 1 := by decide +kernel
def lX5_goBack_41 (N : Nat) (l1 : Int32) : Nat → VM → Int32 → Option ((VM))
  | 0, _, _ => none
  | n + 1, v, l2 => (if (149 : Int32) ≤ l2 then some v else ck ((149 * l1) + l2) 298 (ck l2 149 ((lX5_goBack_41 N l1 n ((upd (mRow v) (Int32.toNatClampNeg l2) ((mSnp v) (Int32.toNatClampNeg ((149 * l1) + l2)))), (mSav v), (mSvn v), (mSnp v), (mKep v), (mThr v), (mFre v), (mFrn v), (mBuf v), (mLen v), (mSpt v), (mNum v), (mOrd v), (mLet v), (mFst v), (mSnd v), (mTok v), (mLft v)) (l2 + 1)))))
set_option maxRecDepth 100000 in
set_option maxHeartbeats 4000000 in
theorem wlX5_goBack_41 {k : Kt} (C : gC k cX5_goBack 3 RX5 wsX5_goBack rmX5_goBack "goBack") (N : Nat) (aM : Nat → Nat) (l1 : Int32) : ∀ (n : Nat) (v : VM) (l2 : Int32) (u : (VM)) (hf : lX5_goBack_41 N l1 n v l2 = some u) (hk0 : gG k (wM (kD k) aM u) [(0, .ref (aM 0))] 0 0 72 []), gG k (wM (kD k) aM v) [(0, .ref (aM 0)), (1, .int l1), (2, .int l2)] 0 0 41 [] := by
  intro n
  induction n with
  | zero => intro v l2 u hf hk0; rw [lX5_goBack_41] at hf; cases hf
  | succ n ih =>
    intro v l2 u hf hk0
    rw [lX5_goBack_41] at hf
    refine g_iload_n (pc := 41) (x := l2) C dX5_goBack_41 rfl ?_
    refine g_sipush (pc := 42) (v := 149) C dX5_goBack_42 (by decide) ?_
    refine g_icmp_ge (pc := 45) (tgt := 72) (x := l2) (y := 149) hf C dX5_goBack_45 (by decide) (fun hf => ?_) (fun hf => ?_)
    · obtain rfl := Option.some.inj hf
      refine g_lv [0] (lv' := [(0, .ref (aM 0))]) rfl ?_
      exact hk0
    · refine g_aload_n (pc := 48) (x := (aM 0)) C dX5_goBack_48 rfl ?_
      refine g_getf (pc := 49) C 0 rfl rfl inX5_goBack_X5 0 (by decide) lkX5_goBack_7 rfl rfl dX5_goBack_49 ?_
      refine g_iload_n (pc := 52) (x := l2) C dX5_goBack_52 rfl ?_
      refine g_aload_n (pc := 53) (x := (aM 0)) C dX5_goBack_53 rfl ?_
      refine g_getf (pc := 54) C 0 rfl rfl inX5_goBack_X5 3 (by decide) lkX5_goBack_16 rfl rfl dX5_goBack_54 ?_
      refine g_sipush (pc := 57) (v := 149) C dX5_goBack_57 (by decide) ?_
      refine g_iload_n (pc := 60) (x := l1) C dX5_goBack_60 rfl ?_
      refine g_imul (pc := 61) (x := 149) (y := l1) C dX5_goBack_61 ?_
      refine g_iload_n (pc := 62) (x := l2) C dX5_goBack_62 rfl ?_
      refine g_iadd (pc := 63) (x := (149 * l1)) (y := l2) C dX5_goBack_63 ?_
      refine g_iald (pc := 64) (i := ((149 * l1) + l2)) hf C 3 rfl dX5_goBack_64 (fun hf => ?_)
      refine g_iast (pc := 65) (i := l2) (x := ((mSnp v) (Int32.toNatClampNeg ((149 * l1) + l2)))) hf C 1 rfl dX5_goBack_65 (ws' := (wM (kD k) aM ((upd (mRow v) (Int32.toNatClampNeg l2) ((mSnp v) (Int32.toNatClampNeg ((149 * l1) + l2)))), (mSav v), (mSvn v), (mSnp v), (mKep v), (mThr v), (mFre v), (mFrn v), (mBuf v), (mLen v), (mSpt v), (mNum v), (mOrd v), (mLet v), (mFst v), (mSnd v), (mTok v), (mLft v)))) rfl (fun hf => ?_)
      refine g_iinc (pc := 66) (x := l2) (v := (l2 + 1)) (lv' := [(2, .int (l2 + 1)), (0, .ref (aM 0)), (1, .int l1)]) C dX5_goBack_66 rfl rfl (by decide) rfl ?_
      refine g_goto (pc := 69) (tgt := 41) C dX5_goBack_69 (by decide) ?_
      refine g_lv [1, 2, 0] (lv' := [(0, .ref (aM 0)), (1, .int l1), (2, .int (l2 + 1))]) rfl ?_
      exact ih ((upd (mRow v) (Int32.toNatClampNeg l2) ((mSnp v) (Int32.toNatClampNeg ((149 * l1) + l2)))), (mSav v), (mSvn v), (mSnp v), (mKep v), (mThr v), (mFre v), (mFrn v), (mBuf v), (mLen v), (mSpt v), (mNum v), (mOrd v), (mLet v), (mFst v), (mSnd v), (mTok v), (mLft v)) (l2 + 1) u hf hk0
def fX5_goBack (N : Nat) (v : VM) (p1 : Int32) : Option (VM × Int32) := ((fX5_in N p1 0 1).bind fun r1 => (if r1 = true then ck p1 2 ((if ((mKep v) (Int32.toNatClampNeg p1)) = (0 : Int32) then ((fX5_fails N ((mRow v), (mSav v), (mSvn v), (mSnp v), (mKep v), 0, (mFre v), (mFrn v), (mBuf v), (mLen v), (mSpt v), (mNum v), (mOrd v), (mLet v), (mFst v), (mSnd v), (mTok v), (mLft v)) 2).bind fun r4 => some (r4.1, r4.2)) else ((fX5_save N ((mRow v), (mSav v), (mSvn v), (mSnp v), (mKep v), 0, (mFre v), (mFrn v), (mBuf v), (mLen v), (mSpt v), (mNum v), (mOrd v), (mLet v), (mFst v), (mSnd v), (mTok v), (mLft v))).bind fun r2 => ((lX5_goBack_41 N p1 N r2 0).bind fun r3 => ck 8 149 (some (r3, ((mRow r3) (Int32.toNatClampNeg 8)))))))) else ((fX5_fails N ((mRow v), (mSav v), (mSvn v), (mSnp v), (mKep v), 0, (mFre v), (mFrn v), (mBuf v), (mLen v), (mSpt v), (mNum v), (mOrd v), (mLet v), (mFst v), (mSnd v), (mTok v), (mLft v)) 1).bind fun r5 => some (r5.1, r5.2))))
set_option maxRecDepth 100000 in
set_option maxHeartbeats 4000000 in
theorem wkX5_goBack {k : Kt} (C : gC k cX5_goBack 3 RX5 wsX5_goBack rmX5_goBack "goBack") (N : Nat) (aM : Nat → Nat) (v : VM) (p1 : Int32) (r : VM × Int32) (hf : fX5_goBack N v p1 = some r) (E : gE k (wM (kD k) aM v) (fun rv w => rv = some (.int r.2) ∧ w = (wM (kD k) aM r.1)) (fun _ _ => False) 0 0 (some .int) []) : gG k (wM (kD k) aM v) [(0, .ref (aM 0)), (1, .int p1)] 0 0 0 [] := by
  unfold fX5_goBack at hf
  refine g_aload_n (pc := 0) (x := (aM 0)) C dX5_goBack_0 rfl ?_
  refine g_iconst (pc := 1) (v := 0) C dX5_goBack_1 (by decide) ?_
  refine g_putf (pc := 2) C 0 rfl rfl inX5_goBack_X5 tyX5 tyX5_ok nmX5 5 (by decide) lkX5_goBack_38 rfl rfl pfX5_5 rfl rfl (Nat.le_of_ble_eq_true rfl) dX5_goBack_2 (ws' := (wM (kD k) aM ((mRow v), (mSav v), (mSvn v), (mSnp v), (mKep v), 0, (mFre v), (mFrn v), (mBuf v), (mLen v), (mSpt v), (mNum v), (mOrd v), (mLet v), (mFst v), (mSnd v), (mTok v), (mLft v)))) rfl ?_
  refine g_iload_n (pc := 5) (x := p1) C dX5_goBack_5 rfl ?_
  refine g_iconst (pc := 6) (v := 0) C dX5_goBack_6 (by decide) ?_
  refine g_iconst (pc := 7) (v := 1) C dX5_goBack_7 (by decide) ?_
  refine g_callR (pc' := 11) (cs' := 0) (sl' := 0) hf C (fun u => some (.int (b2i u))) (fun u hu => gr_S (rest := []) C (cX5_in_ (kL k) C.tr (kD k) N p1 0 1 u hu) (fun ht => va_cwS 3 ht gX5_goBack_X5_in rfl rfl rfl hsX5_in ⟨(Nat.le_of_ble_eq_true rfl), (Nat.le_of_ble_eq_true rfl)⟩) [] rfl (by decide) rfl rfl (Nat.le_of_ble_eq_true rfl) dX5_goBack_8 ⟨(Nat.le_of_ble_eq_true rfl), (Nat.le_of_ble_eq_true rfl)⟩) [] rfl rfl rfl rfl (fun u => [.int (b2i u)]) (fun u => rfl) (fun r1 hf => ?_)
  refine g_ifB_ne (pc := 11) (tgt := 20) (b := r1) hf C dX5_goBack_11 (by decide) (fun hf => ?_) (fun hf => ?_)
  · refine g_aload_n (pc := 20) (x := (aM 0)) C dX5_goBack_20 rfl ?_
    refine g_getf (pc := 21) C 0 rfl rfl inX5_goBack_X5 4 (by decide) lkX5_goBack_19 rfl rfl dX5_goBack_21 ?_
    refine g_iload_n (pc := 24) (x := p1) C dX5_goBack_24 rfl ?_
    refine g_zald (pc := 25) (i := p1) hf C 4 rfl dX5_goBack_25 (fun hf => ?_)
    refine g_if_ne (pc := 26) (tgt := 35) (x := ((mKep v) (Int32.toNatClampNeg p1))) hf C dX5_goBack_26 (by decide) (fun hf => ?_) (fun hf => ?_)
    · refine g_aload_n (pc := 35) (x := (aM 0)) C dX5_goBack_35 rfl ?_
      refine g_callW (wr := []) (pc' := 39) (cs' := 0) (sl' := 0) hf C (fun u => none) (fun u => (wM (kD k) aM u)) (fun u hu => gr_V (rest := []) C (cX5_save_ (kL k) C.tr (kD k) N aM ((mRow v), (mSav v), (mSvn v), (mSnp v), (mKep v), 0, (mFre v), (mFrn v), (mBuf v), (mLen v), (mSpt v), (mNum v), (mOrd v), (mLet v), (mFst v), (mSnd v), (mTok v), (mLft v)) u hu) (fun ht => cwV 0 ht gX5_goBack_X5_save rfl rfl rfl hdX5_save ⟨(Nat.le_of_ble_eq_true rfl), (Nat.le_of_ble_eq_true rfl)⟩) 0 rfl rfl [0, 1, 2, 3, 4, 5, 6, 7, 8, 9] rfl (by decide) rfl rfl (Nat.le_of_ble_eq_true rfl) dX5_goBack_36 ⟨(Nat.le_of_ble_eq_true rfl), (Nat.le_of_ble_eq_true rfl)⟩) [0, 1, 2, 3, 4, 5, 6, 7, 8, 9] [] rfl rfl (by decide) (by decide) [0, 1, 2, 3, 4, 5, 6, 7, 8, 9] (by decide) (ws' := fun u => (wM (kD k) aM u)) (fun u => rfl) rfl rfl rfl (fun u => []) (fun u => rfl) (fun r2 hf => ?_)
      refine g_iconst (pc := 39) (v := 0) C dX5_goBack_39 (by decide) ?_
      refine g_istore_n (pc := 40) (lv' := [(2, .int 0), (0, .ref (aM 0)), (1, .int p1)]) C dX5_goBack_40 (by decide) rfl ?_
      obtain ⟨r3, h3, hf⟩ := bd_e hf
      refine g_lv [1, 2, 0] (lv' := [(0, .ref (aM 0)), (1, .int p1), (2, .int 0)]) rfl ?_
      refine wlX5_goBack_41 C N aM p1 N r2 0 r3 h3 ?_
      refine g_aload_n (pc := 72) (x := (aM 0)) C dX5_goBack_72 rfl ?_
      refine g_getf (pc := 73) C 0 rfl rfl inX5_goBack_X5 0 (by decide) lkX5_goBack_7 rfl rfl dX5_goBack_73 ?_
      refine g_bipush (pc := 76) (v := 8) C dX5_goBack_76 (by decide) ?_
      refine g_iald (pc := 78) (i := 8) hf C 1 rfl dX5_goBack_78 (fun hf => ?_)
      obtain rfl := Option.some.inj hf
      exact g_iret (v := ((mRow r3) (Int32.toNatClampNeg 8))) C E dX5_goBack_79 (Nat.le_of_ble_eq_true rfl) (Nat.le_of_ble_eq_true rfl) ⟨rfl, rfl⟩
    · refine g_aload_n (pc := 29) (x := (aM 0)) C dX5_goBack_29 rfl ?_
      refine g_iconst (pc := 30) (v := 2) C dX5_goBack_30 (by decide) ?_
      refine g_callW (wr := []) (pc' := 34) (cs' := 0) (sl' := 0) hf C (fun u => some (.int u.2)) (fun u => (wM (kD k) aM u.1)) (fun u hu => gr_V (rest := []) C (cX5_fails_ (kL k) C.tr (kD k) N aM ((mRow v), (mSav v), (mSvn v), (mSnp v), (mKep v), 0, (mFre v), (mFrn v), (mBuf v), (mLen v), (mSpt v), (mNum v), (mOrd v), (mLet v), (mFst v), (mSnd v), (mTok v), (mLft v)) 2 u hu) (fun ht => cwV 1 ht gX5_goBack_X5_fails rfl rfl rfl hdX5_fails ⟨(Nat.le_of_ble_eq_true rfl), (Nat.le_of_ble_eq_true rfl)⟩) 0 rfl rfl [0, 1, 2, 3, 4, 5, 6, 7, 8, 9] rfl (by decide) rfl rfl (Nat.le_of_ble_eq_true rfl) dX5_goBack_31 ⟨(Nat.le_of_ble_eq_true rfl), (Nat.le_of_ble_eq_true rfl)⟩) [0, 1, 2, 3, 4, 5, 6, 7, 8, 9] [] rfl rfl (by decide) (by decide) [0, 1, 2, 3, 4, 5, 6, 7, 8, 9] (by decide) (ws' := fun u => (wM (kD k) aM u.1)) (fun u => rfl) rfl rfl rfl (fun u => [.int u.2]) (fun u => rfl) (fun r4 hf => ?_)
      obtain rfl := Option.some.inj hf
      exact g_iret (v := r4.2) C E dX5_goBack_34 (Nat.le_of_ble_eq_true rfl) (Nat.le_of_ble_eq_true rfl) ⟨rfl, rfl⟩
  · refine g_aload_n (pc := 14) (x := (aM 0)) C dX5_goBack_14 rfl ?_
    refine g_iconst (pc := 15) (v := 1) C dX5_goBack_15 (by decide) ?_
    refine g_callW (wr := []) (pc' := 19) (cs' := 0) (sl' := 0) hf C (fun u => some (.int u.2)) (fun u => (wM (kD k) aM u.1)) (fun u hu => gr_V (rest := []) C (cX5_fails_ (kL k) C.tr (kD k) N aM ((mRow v), (mSav v), (mSvn v), (mSnp v), (mKep v), 0, (mFre v), (mFrn v), (mBuf v), (mLen v), (mSpt v), (mNum v), (mOrd v), (mLet v), (mFst v), (mSnd v), (mTok v), (mLft v)) 1 u hu) (fun ht => cwV 1 ht gX5_goBack_X5_fails rfl rfl rfl hdX5_fails ⟨(Nat.le_of_ble_eq_true rfl), (Nat.le_of_ble_eq_true rfl)⟩) 0 rfl rfl [0, 1, 2, 3, 4, 5, 6, 7, 8, 9] rfl (by decide) rfl rfl (Nat.le_of_ble_eq_true rfl) dX5_goBack_16 ⟨(Nat.le_of_ble_eq_true rfl), (Nat.le_of_ble_eq_true rfl)⟩) [0, 1, 2, 3, 4, 5, 6, 7, 8, 9] [] rfl rfl (by decide) (by decide) [0, 1, 2, 3, 4, 5, 6, 7, 8, 9] (by decide) (ws' := fun u => (wM (kD k) aM u.1)) (fun u => rfl) rfl rfl rfl (fun u => [.int u.2]) (fun u => rfl) (fun r5 hf => ?_)
    obtain rfl := Option.some.inj hf
    exact g_iret (v := r5.2) C E dX5_goBack_19 (Nat.le_of_ble_eq_true rfl) (Nat.le_of_ble_eq_true rfl) ⟨rfl, rfl⟩
set_option maxRecDepth 100000 in
set_option maxHeartbeats 4000000 in
theorem cX5_goBack_ (l : Launch) (htr : l.stackTraces = false) (D : va_G) (N : Nat) (aM : Nat → Nat) (v : VM) (p1 : Int32) (r : VM × Int32) (hf : fX5_goBack N v p1 = some r) : Tc l D yX5_goBack wsX5_goBack rmX5_goBack [.ref (aM 0), .int p1] (wM D aM v) (fun rv w => rv = some (.int r.2) ∧ w = (wM D aM r.1)) (fun _ _ => False) 0 0 := Tc_of htr (by decide +kernel) rfl (Nat.le_of_ble_eq_true rfl) (fun k C E hl hD => by subst hD; exact wkX5_goBack C N aM v p1 r hf E)
abbrev rmX5_isFree : Room := { frames := 1, cells := 0, slots := 0, locals := 22 }
theorem hdX5_isFree : yX5_isFree.cls = RX5 ∧ yX5_isFree.cls ≠ "java/lang/invoke/MethodHandle" ∧ yX5_isFree.cls ≠ "java/lang/invoke/VarHandle" ∧ (parseMethodDescriptor yX5_isFree.desc).map (fun d => d.parameters.length) = some 1 := by decide +kernel
def fX5_isFree (N : Nat) (v : VM) (p1 : Int32) : Option (Bool) := ((fX5_of N v p1 4).bind fun r1 => (if r1 = ((-1) : Int32) then some true else some false))
set_option maxRecDepth 100000 in
set_option maxHeartbeats 4000000 in
theorem wkX5_isFree {k : Kt} (C : gC k cX5_isFree 2 RX5 wsX5_isFree rmX5_isFree "isFree") (N : Nat) (aM : Nat → Nat) (v : VM) (p1 : Int32) (r : Bool) (hf : fX5_isFree N v p1 = some r) (E : gE k (wM (kD k) aM v) (fun rv w => rv = some (.int (b2i r)) ∧ w = (wM (kD k) aM v)) (fun _ _ => False) 0 0 (some .boolean) []) : gG k (wM (kD k) aM v) [(0, .ref (aM 0)), (1, .int p1)] 0 0 0 [] := by
  unfold fX5_isFree at hf
  refine g_aload_n (pc := 0) (x := (aM 0)) C dX5_isFree_0 rfl ?_
  refine g_iload_n (pc := 1) (x := p1) C dX5_isFree_1 rfl ?_
  refine g_iconst (pc := 2) (v := 4) C dX5_isFree_2 (by decide) ?_
  refine g_callR (pc' := 6) (cs' := 0) (sl' := 0) hf C (fun u => some (.int u)) (fun u hu => gr_V (rest := []) C (cX5_of_ (kL k) C.tr (kD k) N aM v p1 4 u hu) (fun ht => cwV 2 ht gX5_isFree_X5_of rfl rfl rfl hdX5_of ⟨(Nat.le_of_ble_eq_true rfl), (Nat.le_of_ble_eq_true rfl)⟩) 0 rfl rfl [0, 1, 2, 3, 4, 5, 6, 7, 8, 9] rfl (by decide) rfl rfl (Nat.le_of_ble_eq_true rfl) dX5_isFree_3 ⟨(Nat.le_of_ble_eq_true rfl), (Nat.le_of_ble_eq_true rfl)⟩) [0, 1, 2, 3, 4, 5, 6, 7, 8, 9] rfl rfl rfl rfl (fun u => [.int u]) (fun u => rfl) (fun r1 hf => ?_)
  refine g_iconst (pc := 6) (v := (-1)) C dX5_isFree_6 (by decide) ?_
  refine g_icmp_ne (pc := 7) (tgt := 14) (x := r1) (y := (-1)) hf C dX5_isFree_7 (by decide) (fun hf => ?_) (fun hf => ?_)
  · refine g_iconst (pc := 14) (v := 0) C dX5_isFree_14 (by decide) ?_
    obtain rfl := Option.some.inj hf
    exact g_bret (b := false) C E dX5_isFree_15 (Nat.le_of_ble_eq_true rfl) (Nat.le_of_ble_eq_true rfl) ⟨rfl, rfl⟩
  · refine g_iconst (pc := 10) (v := 1) C dX5_isFree_10 (by decide) ?_
    refine g_goto (pc := 11) (tgt := 15) C dX5_isFree_11 (by decide) ?_
    obtain rfl := Option.some.inj hf
    exact g_bret (b := true) C E dX5_isFree_15 (Nat.le_of_ble_eq_true rfl) (Nat.le_of_ble_eq_true rfl) ⟨rfl, rfl⟩
set_option maxRecDepth 100000 in
set_option maxHeartbeats 4000000 in
theorem cX5_isFree_ (l : Launch) (htr : l.stackTraces = false) (D : va_G) (N : Nat) (aM : Nat → Nat) (v : VM) (p1 : Int32) (r : Bool) (hf : fX5_isFree N v p1 = some r) : Tc l D yX5_isFree wsX5_isFree rmX5_isFree [.ref (aM 0), .int p1] (wM D aM v) (fun rv w => rv = some (.int (b2i r)) ∧ w = (wM D aM v)) (fun _ _ => False) 0 0 := Tc_of htr (by decide +kernel) rfl (Nat.le_of_ble_eq_true rfl) (fun k C E hl hD => by subst hD; exact wkX5_isFree C N aM v p1 r hf E)
abbrev rmX5_error : Room := { frames := 1, cells := 0, slots := 0, locals := 22 }
theorem hdX5_error : yX5_error.cls = RX5 ∧ yX5_error.cls ≠ "java/lang/invoke/MethodHandle" ∧ yX5_error.cls ≠ "java/lang/invoke/VarHandle" ∧ (parseMethodDescriptor yX5_error.desc).map (fun d => d.parameters.length) = some 1 := by decide +kernel
def fX5_error (N : Nat) (v : VM) (p1 : Int32) : Option (Int32) := ((fX5_of N v p1 1).bind fun r1 => ((fX5_of N v p1 2).bind fun r2 => some (r1 - r2)))
set_option maxRecDepth 100000 in
set_option maxHeartbeats 4000000 in
theorem wkX5_error {k : Kt} (C : gC k cX5_error 2 RX5 wsX5_error rmX5_error "error") (N : Nat) (aM : Nat → Nat) (v : VM) (p1 : Int32) (r : Int32) (hf : fX5_error N v p1 = some r) (E : gE k (wM (kD k) aM v) (fun rv w => rv = some (.int r) ∧ w = (wM (kD k) aM v)) (fun _ _ => False) 0 0 (some .int) []) : gG k (wM (kD k) aM v) [(0, .ref (aM 0)), (1, .int p1)] 0 0 0 [] := by
  unfold fX5_error at hf
  refine g_aload_n (pc := 0) (x := (aM 0)) C dX5_error_0 rfl ?_
  refine g_iload_n (pc := 1) (x := p1) C dX5_error_1 rfl ?_
  refine g_iconst (pc := 2) (v := 1) C dX5_error_2 (by decide) ?_
  refine g_callR (pc' := 6) (cs' := 0) (sl' := 0) hf C (fun u => some (.int u)) (fun u hu => gr_V (rest := []) C (cX5_of_ (kL k) C.tr (kD k) N aM v p1 1 u hu) (fun ht => cwV 2 ht gX5_error_X5_of rfl rfl rfl hdX5_of ⟨(Nat.le_of_ble_eq_true rfl), (Nat.le_of_ble_eq_true rfl)⟩) 0 rfl rfl [0, 1, 2, 3, 4, 5, 6, 7, 8, 9] rfl (by decide) rfl rfl (Nat.le_of_ble_eq_true rfl) dX5_error_3 ⟨(Nat.le_of_ble_eq_true rfl), (Nat.le_of_ble_eq_true rfl)⟩) [0, 1, 2, 3, 4, 5, 6, 7, 8, 9] rfl rfl rfl rfl (fun u => [.int u]) (fun u => rfl) (fun r1 hf => ?_)
  refine g_aload_n (pc := 6) (x := (aM 0)) C dX5_error_6 rfl ?_
  refine g_iload_n (pc := 7) (x := p1) C dX5_error_7 rfl ?_
  refine g_iconst (pc := 8) (v := 2) C dX5_error_8 (by decide) ?_
  refine g_callR (pc' := 12) (cs' := 0) (sl' := 0) hf C (fun u => some (.int u)) (fun u hu => gr_V (rest := [.int r1]) C (cX5_of_ (kL k) C.tr (kD k) N aM v p1 2 u hu) (fun ht => cwV 2 ht gX5_error_X5_of rfl rfl rfl hdX5_of ⟨(Nat.le_of_ble_eq_true rfl), (Nat.le_of_ble_eq_true rfl)⟩) 0 rfl rfl [0, 1, 2, 3, 4, 5, 6, 7, 8, 9] rfl (by decide) rfl rfl (Nat.le_of_ble_eq_true rfl) dX5_error_9 ⟨(Nat.le_of_ble_eq_true rfl), (Nat.le_of_ble_eq_true rfl)⟩) [0, 1, 2, 3, 4, 5, 6, 7, 8, 9] rfl rfl rfl rfl (fun u => [.int u, .int r1]) (fun u => rfl) (fun r2 hf => ?_)
  refine g_isub (pc := 12) (x := r1) (y := r2) C dX5_error_12 ?_
  obtain rfl := Option.some.inj hf
  exact g_iret (v := (r1 - r2)) C E dX5_error_13 (Nat.le_of_ble_eq_true rfl) (Nat.le_of_ble_eq_true rfl) ⟨rfl, rfl⟩
set_option maxRecDepth 100000 in
set_option maxHeartbeats 4000000 in
theorem cX5_error_ (l : Launch) (htr : l.stackTraces = false) (D : va_G) (N : Nat) (aM : Nat → Nat) (v : VM) (p1 : Int32) (r : Int32) (hf : fX5_error N v p1 = some r) : Tc l D yX5_error wsX5_error rmX5_error [.ref (aM 0), .int p1] (wM D aM v) (fun rv w => rv = some (.int r) ∧ w = (wM D aM v)) (fun _ _ => False) 0 0 := Tc_of htr (by decide +kernel) rfl (Nat.le_of_ble_eq_true rfl) (fun k C E hl hD => by subst hD; exact wkX5_error C N aM v p1 r hf E)
abbrev rmX5_grade : Room := { frames := 2, cells := 0, slots := 0, locals := 43 }
theorem hdX5_grade : yX5_grade.cls = RX5 ∧ yX5_grade.cls ≠ "java/lang/invoke/MethodHandle" ∧ yX5_grade.cls ≠ "java/lang/invoke/VarHandle" ∧ (parseMethodDescriptor yX5_grade.desc).map (fun d => d.parameters.length) = some 1 := by decide +kernel
def fX5_grade (N : Nat) (v : VM) (p1 : Int32) : Option (Int32) := ((fX5_error N v p1).bind fun r1 => ((fX5_size N r1).bind fun r2 => (if (100 : Int32) < r2 then (if (250 : Int32) < r2 then (if (500 : Int32) < r2 then some 3 else some 2) else some 1) else some 0)))
set_option maxRecDepth 100000 in
set_option maxHeartbeats 4000000 in
theorem wkX5_grade {k : Kt} (C : gC k cX5_grade 3 RX5 wsX5_grade rmX5_grade "grade") (N : Nat) (aM : Nat → Nat) (v : VM) (p1 : Int32) (r : Int32) (hf : fX5_grade N v p1 = some r) (E : gE k (wM (kD k) aM v) (fun rv w => rv = some (.int r) ∧ w = (wM (kD k) aM v)) (fun _ _ => False) 0 0 (some .int) []) : gG k (wM (kD k) aM v) [(0, .ref (aM 0)), (1, .int p1)] 0 0 0 [] := by
  unfold fX5_grade at hf
  refine g_aload_n (pc := 0) (x := (aM 0)) C dX5_grade_0 rfl ?_
  refine g_iload_n (pc := 1) (x := p1) C dX5_grade_1 rfl ?_
  refine g_callR (pc' := 5) (cs' := 0) (sl' := 0) hf C (fun u => some (.int u)) (fun u hu => gr_V (rest := []) C (cX5_error_ (kL k) C.tr (kD k) N aM v p1 u hu) (fun ht => cwV 1 ht gX5_grade_X5_error rfl rfl rfl hdX5_error ⟨(Nat.le_of_ble_eq_true rfl), (Nat.le_of_ble_eq_true rfl)⟩) 0 rfl rfl [0, 1, 2, 3, 4, 5, 6, 7, 8, 9] rfl (by decide) rfl rfl (Nat.le_of_ble_eq_true rfl) dX5_grade_2 ⟨(Nat.le_of_ble_eq_true rfl), (Nat.le_of_ble_eq_true rfl)⟩) [0, 1, 2, 3, 4, 5, 6, 7, 8, 9] rfl rfl rfl rfl (fun u => [.int u]) (fun u => rfl) (fun r1 hf => ?_)
  refine g_callR (pc' := 8) (cs' := 0) (sl' := 0) hf C (fun u => some (.int u)) (fun u hu => gr_S (rest := []) C (cX5_size_ (kL k) C.tr (kD k) N r1 u hu) (fun ht => va_cwS 1 ht gX5_grade_X5_size rfl rfl rfl hsX5_size ⟨(Nat.le_of_ble_eq_true rfl), (Nat.le_of_ble_eq_true rfl)⟩) [] rfl (by decide) rfl rfl (Nat.le_of_ble_eq_true rfl) dX5_grade_5 ⟨(Nat.le_of_ble_eq_true rfl), (Nat.le_of_ble_eq_true rfl)⟩) [] rfl rfl rfl rfl (fun u => [.int u]) (fun u => rfl) (fun r2 hf => ?_)
  refine g_istore_n (pc := 8) (lv' := [(2, .int r2), (0, .ref (aM 0)), (1, .int p1)]) C dX5_grade_8 (by decide) rfl ?_
  refine g_iload_n (pc := 9) (x := r2) C dX5_grade_9 rfl ?_
  refine g_bipush (pc := 10) (v := 100) C dX5_grade_10 (by decide) ?_
  refine g_icmp_gt (pc := 12) (tgt := 19) (x := r2) (y := 100) hf C dX5_grade_12 (by decide) (fun hf => ?_) (fun hf => ?_)
  · refine g_iload_n (pc := 19) (x := r2) C dX5_grade_19 rfl ?_
    refine g_sipush (pc := 20) (v := 250) C dX5_grade_20 (by decide) ?_
    refine g_icmp_gt (pc := 23) (tgt := 30) (x := r2) (y := 250) hf C dX5_grade_23 (by decide) (fun hf => ?_) (fun hf => ?_)
    · refine g_iload_n (pc := 30) (x := r2) C dX5_grade_30 rfl ?_
      refine g_sipush (pc := 31) (v := 500) C dX5_grade_31 (by decide) ?_
      refine g_icmp_gt (pc := 34) (tgt := 41) (x := r2) (y := 500) hf C dX5_grade_34 (by decide) (fun hf => ?_) (fun hf => ?_)
      · refine g_iconst (pc := 41) (v := 3) C dX5_grade_41 (by decide) ?_
        obtain rfl := Option.some.inj hf
        exact g_iret (v := 3) C E dX5_grade_42 (Nat.le_of_ble_eq_true rfl) (Nat.le_of_ble_eq_true rfl) ⟨rfl, rfl⟩
      · refine g_iconst (pc := 37) (v := 2) C dX5_grade_37 (by decide) ?_
        refine g_goto (pc := 38) (tgt := 42) C dX5_grade_38 (by decide) ?_
        obtain rfl := Option.some.inj hf
        exact g_iret (v := 2) C E dX5_grade_42 (Nat.le_of_ble_eq_true rfl) (Nat.le_of_ble_eq_true rfl) ⟨rfl, rfl⟩
    · refine g_iconst (pc := 26) (v := 1) C dX5_grade_26 (by decide) ?_
      refine g_goto (pc := 27) (tgt := 42) C dX5_grade_27 (by decide) ?_
      obtain rfl := Option.some.inj hf
      exact g_iret (v := 1) C E dX5_grade_42 (Nat.le_of_ble_eq_true rfl) (Nat.le_of_ble_eq_true rfl) ⟨rfl, rfl⟩
  · refine g_iconst (pc := 15) (v := 0) C dX5_grade_15 (by decide) ?_
    refine g_goto (pc := 16) (tgt := 42) C dX5_grade_16 (by decide) ?_
    obtain rfl := Option.some.inj hf
    exact g_iret (v := 0) C E dX5_grade_42 (Nat.le_of_ble_eq_true rfl) (Nat.le_of_ble_eq_true rfl) ⟨rfl, rfl⟩
set_option maxRecDepth 100000 in
set_option maxHeartbeats 4000000 in
theorem cX5_grade_ (l : Launch) (htr : l.stackTraces = false) (D : va_G) (N : Nat) (aM : Nat → Nat) (v : VM) (p1 : Int32) (r : Int32) (hf : fX5_grade N v p1 = some r) : Tc l D yX5_grade wsX5_grade rmX5_grade [.ref (aM 0), .int p1] (wM D aM v) (fun rv w => rv = some (.int r) ∧ w = (wM D aM v)) (fun _ _ => False) 0 0 := Tc_of htr (by decide +kernel) rfl (Nat.le_of_ble_eq_true rfl) (fun k C E hl hD => by subst hD; exact wkX5_grade C N aM v p1 r hf E)
abbrev rmX5_trueLength : Room := { frames := 2, cells := 0, slots := 0, locals := 43 }
theorem hdX5_trueLength : yX5_trueLength.cls = RX5 ∧ yX5_trueLength.cls ≠ "java/lang/invoke/MethodHandle" ∧ yX5_trueLength.cls ≠ "java/lang/invoke/VarHandle" ∧ (parseMethodDescriptor yX5_trueLength.desc).map (fun d => d.parameters.length) = some 2 := by decide +kernel
def fX5_trueLength (N : Nat) (v : VM) (p1 : Int32) (p2 : Int32) : Option (Int32) := ((fX5_of N v p1 0).bind fun r1 => ((fX5_error N v p1).bind fun r2 => some (((1000 * r1) + r2) + ((((r1 * p2) / 1000) * 115) / 1000))))
set_option maxRecDepth 100000 in
set_option maxHeartbeats 4000000 in
theorem wkX5_trueLength {k : Kt} (C : gC k cX5_trueLength 4 RX5 wsX5_trueLength rmX5_trueLength "trueLength") (N : Nat) (aM : Nat → Nat) (v : VM) (p1 : Int32) (p2 : Int32) (r : Int32) (hf : fX5_trueLength N v p1 p2 = some r) (E : gE k (wM (kD k) aM v) (fun rv w => rv = some (.int r) ∧ w = (wM (kD k) aM v)) (fun _ _ => False) 0 0 (some .int) []) : gG k (wM (kD k) aM v) [(0, .ref (aM 0)), (1, .int p1), (2, .int p2)] 0 0 0 [] := by
  unfold fX5_trueLength at hf
  refine g_aload_n (pc := 0) (x := (aM 0)) C dX5_trueLength_0 rfl ?_
  refine g_iload_n (pc := 1) (x := p1) C dX5_trueLength_1 rfl ?_
  refine g_iconst (pc := 2) (v := 0) C dX5_trueLength_2 (by decide) ?_
  refine g_callR (pc' := 6) (cs' := 0) (sl' := 0) hf C (fun u => some (.int u)) (fun u hu => gr_V (rest := []) C (cX5_of_ (kL k) C.tr (kD k) N aM v p1 0 u hu) (fun ht => cwV 2 ht gX5_trueLength_X5_of rfl rfl rfl hdX5_of ⟨(Nat.le_of_ble_eq_true rfl), (Nat.le_of_ble_eq_true rfl)⟩) 0 rfl rfl [0, 1, 2, 3, 4, 5, 6, 7, 8, 9] rfl (by decide) rfl rfl (Nat.le_of_ble_eq_true rfl) dX5_trueLength_3 ⟨(Nat.le_of_ble_eq_true rfl), (Nat.le_of_ble_eq_true rfl)⟩) [0, 1, 2, 3, 4, 5, 6, 7, 8, 9] rfl rfl rfl rfl (fun u => [.int u]) (fun u => rfl) (fun r1 hf => ?_)
  refine g_istore_n (pc := 6) (lv' := [(3, .int r1), (0, .ref (aM 0)), (1, .int p1), (2, .int p2)]) C dX5_trueLength_6 (by decide) rfl ?_
  refine g_sipush (pc := 7) (v := 1000) C dX5_trueLength_7 (by decide) ?_
  refine g_iload_n (pc := 10) (x := r1) C dX5_trueLength_10 rfl ?_
  refine g_imul (pc := 11) (x := 1000) (y := r1) C dX5_trueLength_11 ?_
  refine g_aload_n (pc := 12) (x := (aM 0)) C dX5_trueLength_12 rfl ?_
  refine g_iload_n (pc := 13) (x := p1) C dX5_trueLength_13 rfl ?_
  refine g_callR (pc' := 17) (cs' := 0) (sl' := 0) hf C (fun u => some (.int u)) (fun u hu => gr_V (rest := [.int (1000 * r1)]) C (cX5_error_ (kL k) C.tr (kD k) N aM v p1 u hu) (fun ht => cwV 1 ht gX5_trueLength_X5_error rfl rfl rfl hdX5_error ⟨(Nat.le_of_ble_eq_true rfl), (Nat.le_of_ble_eq_true rfl)⟩) 0 rfl rfl [0, 1, 2, 3, 4, 5, 6, 7, 8, 9] rfl (by decide) rfl rfl (Nat.le_of_ble_eq_true rfl) dX5_trueLength_14 ⟨(Nat.le_of_ble_eq_true rfl), (Nat.le_of_ble_eq_true rfl)⟩) [0, 1, 2, 3, 4, 5, 6, 7, 8, 9] rfl rfl rfl rfl (fun u => [.int u, .int (1000 * r1)]) (fun u => rfl) (fun r2 hf => ?_)
  refine g_iadd (pc := 17) (x := (1000 * r1)) (y := r2) C dX5_trueLength_17 ?_
  refine g_iload_n (pc := 18) (x := r1) C dX5_trueLength_18 rfl ?_
  refine g_iload_n (pc := 19) (x := p2) C dX5_trueLength_19 rfl ?_
  refine g_imul (pc := 20) (x := r1) (y := p2) C dX5_trueLength_20 ?_
  refine g_sipush (pc := 21) (v := 1000) C dX5_trueLength_21 (by decide) ?_
  refine g_idiv (pc := 24) (x := (r1 * p2)) (y := 1000) C dX5_trueLength_24 (by decide) ?_
  refine g_bipush (pc := 25) (v := 115) C dX5_trueLength_25 (by decide) ?_
  refine g_imul (pc := 27) (x := ((r1 * p2) / 1000)) (y := 115) C dX5_trueLength_27 ?_
  refine g_sipush (pc := 28) (v := 1000) C dX5_trueLength_28 (by decide) ?_
  refine g_idiv (pc := 31) (x := (((r1 * p2) / 1000) * 115)) (y := 1000) C dX5_trueLength_31 (by decide) ?_
  refine g_iadd (pc := 32) (x := ((1000 * r1) + r2)) (y := ((((r1 * p2) / 1000) * 115) / 1000)) C dX5_trueLength_32 ?_
  obtain rfl := Option.some.inj hf
  exact g_iret (v := (((1000 * r1) + r2) + ((((r1 * p2) / 1000) * 115) / 1000))) C E dX5_trueLength_33 (Nat.le_of_ble_eq_true rfl) (Nat.le_of_ble_eq_true rfl) ⟨rfl, rfl⟩
set_option maxRecDepth 100000 in
set_option maxHeartbeats 4000000 in
theorem cX5_trueLength_ (l : Launch) (htr : l.stackTraces = false) (D : va_G) (N : Nat) (aM : Nat → Nat) (v : VM) (p1 : Int32) (p2 : Int32) (r : Int32) (hf : fX5_trueLength N v p1 p2 = some r) : Tc l D yX5_trueLength wsX5_trueLength rmX5_trueLength [.ref (aM 0), .int p1, .int p2] (wM D aM v) (fun rv w => rv = some (.int r) ∧ w = (wM D aM v)) (fun _ _ => False) 0 0 := Tc_of htr (by decide +kernel) rfl (Nat.le_of_ble_eq_true rfl) (fun k C E hl hD => by subst hD; exact wkX5_trueLength C N aM v p1 p2 r hf E)
abbrev rmX5_height : Room := { frames := 1, cells := 0, slots := 0, locals := 22 }
theorem inX5_height_X5 : ∀ w ∈ wsX50, w ∈ wsX5_height := by decide +kernel
theorem lkX5_height_7 : Cond.fieldLink RX5 7 "GaugeBlocksModel" (TX5 0).2.1 (TX5 0).2.2.1 ∈ wsX5_height := by decide +kernel
theorem hdX5_height : yX5_height.cls = RX5 ∧ yX5_height.cls ≠ "java/lang/invoke/MethodHandle" ∧ yX5_height.cls ≠ "java/lang/invoke/VarHandle" ∧ (parseMethodDescriptor yX5_height.desc).map (fun d => d.parameters.length) = some 1 := by decide +kernel
def lX5_height_4 (N : Nat) (v : VM) (l1 : Int32) : Nat → Int32 → Int32 → Option ((Int32))
  | 0, _, _ => none
  | n + 1, l2, l3 => ck 8 149 ((if ((mRow v) (Int32.toNatClampNeg 8)) ≤ l3 then some l2 else ((fX5_of N v l3 4).bind fun r1 => (if r1 = l1 then (lX5_height_4 N v l1 n (l2 + 1) (l3 + 1)) else (lX5_height_4 N v l1 n (l2 + 0) (l3 + 1))))))
set_option maxRecDepth 100000 in
set_option maxHeartbeats 4000000 in
theorem wlX5_height_4 {k : Kt} (C : gC k cX5_height 4 RX5 wsX5_height rmX5_height "height") (N : Nat) (aM : Nat → Nat) (v : VM) (l1 : Int32) : ∀ (n : Nat) (l2 : Int32) (l3 : Int32) (u : (Int32)) (hf : lX5_height_4 N v l1 n l2 l3 = some u) (hk0 : gG k (wM (kD k) aM v) [(2, .int u)] 0 0 39 []), gG k (wM (kD k) aM v) [(0, .ref (aM 0)), (1, .int l1), (2, .int l2), (3, .int l3)] 0 0 4 [] := by
  intro n
  induction n with
  | zero => intro l2 l3 u hf hk0; rw [lX5_height_4] at hf; cases hf
  | succ n ih =>
    intro l2 l3 u hf hk0
    rw [lX5_height_4] at hf
    refine g_iload_n (pc := 4) (x := l3) C dX5_height_4 rfl ?_
    refine g_aload_n (pc := 5) (x := (aM 0)) C dX5_height_5 rfl ?_
    refine g_getf (pc := 6) C 0 rfl rfl inX5_height_X5 0 (by decide) lkX5_height_7 rfl rfl dX5_height_6 ?_
    refine g_bipush (pc := 9) (v := 8) C dX5_height_9 (by decide) ?_
    refine g_iald (pc := 11) (i := 8) hf C 1 rfl dX5_height_11 (fun hf => ?_)
    refine g_icmp_ge (pc := 12) (tgt := 39) (x := l3) (y := ((mRow v) (Int32.toNatClampNeg 8))) hf C dX5_height_12 (by decide) (fun hf => ?_) (fun hf => ?_)
    · obtain rfl := Option.some.inj hf
      refine g_lv [2] (lv' := [(2, .int l2)]) rfl ?_
      exact hk0
    · refine g_iload_n (pc := 15) (x := l2) C dX5_height_15 rfl ?_
      refine g_aload_n (pc := 16) (x := (aM 0)) C dX5_height_16 rfl ?_
      refine g_iload_n (pc := 17) (x := l3) C dX5_height_17 rfl ?_
      refine g_iconst (pc := 18) (v := 4) C dX5_height_18 (by decide) ?_
      refine g_callR (pc' := 22) (cs' := 0) (sl' := 0) hf C (fun u => some (.int u)) (fun u hu => gr_V (rest := [.int l2]) C (cX5_of_ (kL k) C.tr (kD k) N aM v l3 4 u hu) (fun ht => cwV 2 ht gX5_height_X5_of rfl rfl rfl hdX5_of ⟨(Nat.le_of_ble_eq_true rfl), (Nat.le_of_ble_eq_true rfl)⟩) 0 rfl rfl [0, 1, 2, 3, 4, 5, 6, 7, 8, 9] rfl (by decide) rfl rfl (Nat.le_of_ble_eq_true rfl) dX5_height_19 ⟨(Nat.le_of_ble_eq_true rfl), (Nat.le_of_ble_eq_true rfl)⟩) [0, 1, 2, 3, 4, 5, 6, 7, 8, 9] rfl rfl rfl rfl (fun u => [.int u, .int l2]) (fun u => rfl) (fun r1 hf => ?_)
      refine g_iload_n (pc := 22) (x := l1) C dX5_height_22 rfl ?_
      refine g_icmp_ne (pc := 23) (tgt := 30) (x := r1) (y := l1) hf C dX5_height_23 (by decide) (fun hf => ?_) (fun hf => ?_)
      · refine g_iconst (pc := 30) (v := 0) C dX5_height_30 (by decide) ?_
        refine g_iadd (pc := 31) (x := l2) (y := 0) C dX5_height_31 ?_
        refine g_istore_n (pc := 32) (lv' := [(2, .int (l2 + 0)), (0, .ref (aM 0)), (1, .int l1), (3, .int l3)]) C dX5_height_32 (by decide) rfl ?_
        refine g_iinc (pc := 33) (x := l3) (v := (l3 + 1)) (lv' := [(3, .int (l3 + 1)), (2, .int (l2 + 0)), (0, .ref (aM 0)), (1, .int l1)]) C dX5_height_33 rfl rfl (by decide) rfl ?_
        refine g_goto (pc := 36) (tgt := 4) C dX5_height_36 (by decide) ?_
        refine g_lv [2, 3, 1, 0] (lv' := [(0, .ref (aM 0)), (1, .int l1), (2, .int (l2 + 0)), (3, .int (l3 + 1))]) rfl ?_
        exact ih (l2 + 0) (l3 + 1) u hf hk0
      · refine g_iconst (pc := 26) (v := 1) C dX5_height_26 (by decide) ?_
        refine g_goto (pc := 27) (tgt := 31) C dX5_height_27 (by decide) ?_
        refine g_iadd (pc := 31) (x := l2) (y := 1) C dX5_height_31 ?_
        refine g_istore_n (pc := 32) (lv' := [(2, .int (l2 + 1)), (0, .ref (aM 0)), (1, .int l1), (3, .int l3)]) C dX5_height_32 (by decide) rfl ?_
        refine g_iinc (pc := 33) (x := l3) (v := (l3 + 1)) (lv' := [(3, .int (l3 + 1)), (2, .int (l2 + 1)), (0, .ref (aM 0)), (1, .int l1)]) C dX5_height_33 rfl rfl (by decide) rfl ?_
        refine g_goto (pc := 36) (tgt := 4) C dX5_height_36 (by decide) ?_
        refine g_lv [2, 3, 1, 0] (lv' := [(0, .ref (aM 0)), (1, .int l1), (2, .int (l2 + 1)), (3, .int (l3 + 1))]) rfl ?_
        exact ih (l2 + 1) (l3 + 1) u hf hk0
def fX5_height (N : Nat) (v : VM) (p1 : Int32) : Option (Int32) := ((lX5_height_4 N v p1 N 0 0).bind fun r1 => some r1)
set_option maxRecDepth 100000 in
set_option maxHeartbeats 4000000 in
theorem wkX5_height {k : Kt} (C : gC k cX5_height 4 RX5 wsX5_height rmX5_height "height") (N : Nat) (aM : Nat → Nat) (v : VM) (p1 : Int32) (r : Int32) (hf : fX5_height N v p1 = some r) (E : gE k (wM (kD k) aM v) (fun rv w => rv = some (.int r) ∧ w = (wM (kD k) aM v)) (fun _ _ => False) 0 0 (some .int) []) : gG k (wM (kD k) aM v) [(0, .ref (aM 0)), (1, .int p1)] 0 0 0 [] := by
  unfold fX5_height at hf
  refine g_iconst (pc := 0) (v := 0) C dX5_height_0 (by decide) ?_
  refine g_istore_n (pc := 1) (lv' := [(2, .int 0), (0, .ref (aM 0)), (1, .int p1)]) C dX5_height_1 (by decide) rfl ?_
  refine g_iconst (pc := 2) (v := 0) C dX5_height_2 (by decide) ?_
  refine g_istore_n (pc := 3) (lv' := [(3, .int 0), (2, .int 0), (0, .ref (aM 0)), (1, .int p1)]) C dX5_height_3 (by decide) rfl ?_
  obtain ⟨r1, h1, hf⟩ := bd_e hf
  refine g_lv [2, 3, 1, 0] (lv' := [(0, .ref (aM 0)), (1, .int p1), (2, .int 0), (3, .int 0)]) rfl ?_
  refine wlX5_height_4 C N aM v p1 N 0 0 r1 h1 ?_
  refine g_iload_n (pc := 39) (x := r1) C dX5_height_39 rfl ?_
  obtain rfl := Option.some.inj hf
  exact g_iret (v := r1) C E dX5_height_40 (Nat.le_of_ble_eq_true rfl) (Nat.le_of_ble_eq_true rfl) ⟨rfl, rfl⟩
set_option maxRecDepth 100000 in
set_option maxHeartbeats 4000000 in
theorem cX5_height_ (l : Launch) (htr : l.stackTraces = false) (D : va_G) (N : Nat) (aM : Nat → Nat) (v : VM) (p1 : Int32) (r : Int32) (hf : fX5_height N v p1 = some r) : Tc l D yX5_height wsX5_height rmX5_height [.ref (aM 0), .int p1] (wM D aM v) (fun rv w => rv = some (.int r) ∧ w = (wM D aM v)) (fun _ _ => False) 0 0 := Tc_of htr (by decide +kernel) rfl (Nat.le_of_ble_eq_true rfl) (fun k C E hl hD => by subst hD; exact wkX5_height C N aM v p1 r hf E)
abbrev rmX5_blockAt : Room := { frames := 1, cells := 0, slots := 0, locals := 22 }
theorem inX5_blockAt_X5 : ∀ w ∈ wsX50, w ∈ wsX5_blockAt := by decide +kernel
theorem lkX5_blockAt_7 : Cond.fieldLink RX5 7 "GaugeBlocksModel" (TX5 0).2.1 (TX5 0).2.2.1 ∈ wsX5_blockAt := by decide +kernel
theorem hdX5_blockAt : yX5_blockAt.cls = RX5 ∧ yX5_blockAt.cls ≠ "java/lang/invoke/MethodHandle" ∧ yX5_blockAt.cls ≠ "java/lang/invoke/VarHandle" ∧ (parseMethodDescriptor yX5_blockAt.desc).map (fun d => d.parameters.length) = some 2 := by decide +kernel
def lX5_blockAt_5 (N : Nat) (v : VM) (l1 : Int32) (l2 : Int32) : Nat → Int32 → Int32 → Option ((Int32))
  | 0, _, _ => none
  | n + 1, l3, l4 => ck 8 149 ((if ((mRow v) (Int32.toNatClampNeg 8)) ≤ l4 then some l3 else ((fX5_of N v l4 4).bind fun r1 => (if r1 = l1 then ((fX5_of N v l4 5).bind fun r2 => (if r2 = l2 then (lX5_blockAt_5 N v l1 l2 n l4 (l4 + 1)) else (lX5_blockAt_5 N v l1 l2 n l3 (l4 + 1)))) else (lX5_blockAt_5 N v l1 l2 n l3 (l4 + 1))))))
set_option maxRecDepth 100000 in
set_option maxHeartbeats 4000000 in
theorem wlX5_blockAt_5 {k : Kt} (C : gC k cX5_blockAt 5 RX5 wsX5_blockAt rmX5_blockAt "blockAt") (N : Nat) (aM : Nat → Nat) (v : VM) (l1 : Int32) (l2 : Int32) : ∀ (n : Nat) (l3 : Int32) (l4 : Int32) (u : (Int32)) (hf : lX5_blockAt_5 N v l1 l2 n l3 l4 = some u) (hk0 : gG k (wM (kD k) aM v) [(3, .int u)] 0 0 52 []), gG k (wM (kD k) aM v) [(0, .ref (aM 0)), (1, .int l1), (2, .int l2), (3, .int l3), (4, .int l4)] 0 0 5 [] := by
  intro n
  induction n with
  | zero => intro l3 l4 u hf hk0; rw [lX5_blockAt_5] at hf; cases hf
  | succ n ih =>
    intro l3 l4 u hf hk0
    rw [lX5_blockAt_5] at hf
    refine g_iload (pc := 5) (x := l4) C dX5_blockAt_5 rfl ?_
    refine g_aload_n (pc := 7) (x := (aM 0)) C dX5_blockAt_7 rfl ?_
    refine g_getf (pc := 8) C 0 rfl rfl inX5_blockAt_X5 0 (by decide) lkX5_blockAt_7 rfl rfl dX5_blockAt_8 ?_
    refine g_bipush (pc := 11) (v := 8) C dX5_blockAt_11 (by decide) ?_
    refine g_iald (pc := 13) (i := 8) hf C 1 rfl dX5_blockAt_13 (fun hf => ?_)
    refine g_icmp_ge (pc := 14) (tgt := 52) (x := l4) (y := ((mRow v) (Int32.toNatClampNeg 8))) hf C dX5_blockAt_14 (by decide) (fun hf => ?_) (fun hf => ?_)
    · obtain rfl := Option.some.inj hf
      refine g_lv [3] (lv' := [(3, .int l3)]) rfl ?_
      exact hk0
    · refine g_aload_n (pc := 17) (x := (aM 0)) C dX5_blockAt_17 rfl ?_
      refine g_iload (pc := 18) (x := l4) C dX5_blockAt_18 rfl ?_
      refine g_iconst (pc := 20) (v := 4) C dX5_blockAt_20 (by decide) ?_
      refine g_callR (pc' := 24) (cs' := 0) (sl' := 0) hf C (fun u => some (.int u)) (fun u hu => gr_V (rest := []) C (cX5_of_ (kL k) C.tr (kD k) N aM v l4 4 u hu) (fun ht => cwV 2 ht gX5_blockAt_X5_of rfl rfl rfl hdX5_of ⟨(Nat.le_of_ble_eq_true rfl), (Nat.le_of_ble_eq_true rfl)⟩) 0 rfl rfl [0, 1, 2, 3, 4, 5, 6, 7, 8, 9] rfl (by decide) rfl rfl (Nat.le_of_ble_eq_true rfl) dX5_blockAt_21 ⟨(Nat.le_of_ble_eq_true rfl), (Nat.le_of_ble_eq_true rfl)⟩) [0, 1, 2, 3, 4, 5, 6, 7, 8, 9] rfl rfl rfl rfl (fun u => [.int u]) (fun u => rfl) (fun r1 hf => ?_)
      refine g_iload_n (pc := 24) (x := l1) C dX5_blockAt_24 rfl ?_
      refine g_icmp_ne (pc := 25) (tgt := 44) (x := r1) (y := l1) hf C dX5_blockAt_25 (by decide) (fun hf => ?_) (fun hf => ?_)
      · refine g_iload_n (pc := 44) (x := l3) C dX5_blockAt_44 rfl ?_
        refine g_istore_n (pc := 45) (lv' := [(3, .int l3), (0, .ref (aM 0)), (1, .int l1), (2, .int l2), (4, .int l4)]) C dX5_blockAt_45 (by decide) rfl ?_
        refine g_iinc (pc := 46) (x := l4) (v := (l4 + 1)) (lv' := [(4, .int (l4 + 1)), (3, .int l3), (0, .ref (aM 0)), (1, .int l1), (2, .int l2)]) C dX5_blockAt_46 rfl rfl (by decide) rfl ?_
        refine g_goto (pc := 49) (tgt := 5) C dX5_blockAt_49 (by decide) ?_
        refine g_lv [2, 3, 4, 1, 0] (lv' := [(0, .ref (aM 0)), (1, .int l1), (2, .int l2), (3, .int l3), (4, .int (l4 + 1))]) rfl ?_
        exact ih l3 (l4 + 1) u hf hk0
      · refine g_aload_n (pc := 28) (x := (aM 0)) C dX5_blockAt_28 rfl ?_
        refine g_iload (pc := 29) (x := l4) C dX5_blockAt_29 rfl ?_
        refine g_iconst (pc := 31) (v := 5) C dX5_blockAt_31 (by decide) ?_
        refine g_callR (pc' := 35) (cs' := 0) (sl' := 0) hf C (fun u => some (.int u)) (fun u hu => gr_V (rest := []) C (cX5_of_ (kL k) C.tr (kD k) N aM v l4 5 u hu) (fun ht => cwV 2 ht gX5_blockAt_X5_of rfl rfl rfl hdX5_of ⟨(Nat.le_of_ble_eq_true rfl), (Nat.le_of_ble_eq_true rfl)⟩) 0 rfl rfl [0, 1, 2, 3, 4, 5, 6, 7, 8, 9] rfl (by decide) rfl rfl (Nat.le_of_ble_eq_true rfl) dX5_blockAt_32 ⟨(Nat.le_of_ble_eq_true rfl), (Nat.le_of_ble_eq_true rfl)⟩) [0, 1, 2, 3, 4, 5, 6, 7, 8, 9] rfl rfl rfl rfl (fun u => [.int u]) (fun u => rfl) (fun r2 hf => ?_)
        refine g_iload_n (pc := 35) (x := l2) C dX5_blockAt_35 rfl ?_
        refine g_icmp_ne (pc := 36) (tgt := 44) (x := r2) (y := l2) hf C dX5_blockAt_36 (by decide) (fun hf => ?_) (fun hf => ?_)
        · refine g_iload_n (pc := 44) (x := l3) C dX5_blockAt_44 rfl ?_
          refine g_istore_n (pc := 45) (lv' := [(3, .int l3), (0, .ref (aM 0)), (1, .int l1), (2, .int l2), (4, .int l4)]) C dX5_blockAt_45 (by decide) rfl ?_
          refine g_iinc (pc := 46) (x := l4) (v := (l4 + 1)) (lv' := [(4, .int (l4 + 1)), (3, .int l3), (0, .ref (aM 0)), (1, .int l1), (2, .int l2)]) C dX5_blockAt_46 rfl rfl (by decide) rfl ?_
          refine g_goto (pc := 49) (tgt := 5) C dX5_blockAt_49 (by decide) ?_
          refine g_lv [2, 3, 4, 1, 0] (lv' := [(0, .ref (aM 0)), (1, .int l1), (2, .int l2), (3, .int l3), (4, .int (l4 + 1))]) rfl ?_
          exact ih l3 (l4 + 1) u hf hk0
        · refine g_iload (pc := 39) (x := l4) C dX5_blockAt_39 rfl ?_
          refine g_goto (pc := 41) (tgt := 45) C dX5_blockAt_41 (by decide) ?_
          refine g_istore_n (pc := 45) (lv' := [(3, .int l4), (0, .ref (aM 0)), (1, .int l1), (2, .int l2), (4, .int l4)]) C dX5_blockAt_45 (by decide) rfl ?_
          refine g_iinc (pc := 46) (x := l4) (v := (l4 + 1)) (lv' := [(4, .int (l4 + 1)), (3, .int l4), (0, .ref (aM 0)), (1, .int l1), (2, .int l2)]) C dX5_blockAt_46 rfl rfl (by decide) rfl ?_
          refine g_goto (pc := 49) (tgt := 5) C dX5_blockAt_49 (by decide) ?_
          refine g_lv [2, 3, 4, 1, 0] (lv' := [(0, .ref (aM 0)), (1, .int l1), (2, .int l2), (3, .int l4), (4, .int (l4 + 1))]) rfl ?_
          exact ih l4 (l4 + 1) u hf hk0
def fX5_blockAt (N : Nat) (v : VM) (p1 : Int32) (p2 : Int32) : Option (Int32) := ((lX5_blockAt_5 N v p1 p2 N (-1) 0).bind fun r1 => some r1)
set_option maxRecDepth 100000 in
set_option maxHeartbeats 4000000 in
theorem wkX5_blockAt {k : Kt} (C : gC k cX5_blockAt 5 RX5 wsX5_blockAt rmX5_blockAt "blockAt") (N : Nat) (aM : Nat → Nat) (v : VM) (p1 : Int32) (p2 : Int32) (r : Int32) (hf : fX5_blockAt N v p1 p2 = some r) (E : gE k (wM (kD k) aM v) (fun rv w => rv = some (.int r) ∧ w = (wM (kD k) aM v)) (fun _ _ => False) 0 0 (some .int) []) : gG k (wM (kD k) aM v) [(0, .ref (aM 0)), (1, .int p1), (2, .int p2)] 0 0 0 [] := by
  unfold fX5_blockAt at hf
  refine g_iconst (pc := 0) (v := (-1)) C dX5_blockAt_0 (by decide) ?_
  refine g_istore_n (pc := 1) (lv' := [(3, .int (-1)), (0, .ref (aM 0)), (1, .int p1), (2, .int p2)]) C dX5_blockAt_1 (by decide) rfl ?_
  refine g_iconst (pc := 2) (v := 0) C dX5_blockAt_2 (by decide) ?_
  refine g_istore (pc := 3) (lv' := [(4, .int 0), (3, .int (-1)), (0, .ref (aM 0)), (1, .int p1), (2, .int p2)]) C dX5_blockAt_3 (by decide) rfl ?_
  obtain ⟨r1, h1, hf⟩ := bd_e hf
  refine g_lv [2, 3, 4, 1, 0] (lv' := [(0, .ref (aM 0)), (1, .int p1), (2, .int p2), (3, .int (-1)), (4, .int 0)]) rfl ?_
  refine wlX5_blockAt_5 C N aM v p1 p2 N (-1) 0 r1 h1 ?_
  refine g_iload_n (pc := 52) (x := r1) C dX5_blockAt_52 rfl ?_
  obtain rfl := Option.some.inj hf
  exact g_iret (v := r1) C E dX5_blockAt_53 (Nat.le_of_ble_eq_true rfl) (Nat.le_of_ble_eq_true rfl) ⟨rfl, rfl⟩
set_option maxRecDepth 100000 in
set_option maxHeartbeats 4000000 in
theorem cX5_blockAt_ (l : Launch) (htr : l.stackTraces = false) (D : va_G) (N : Nat) (aM : Nat → Nat) (v : VM) (p1 : Int32) (p2 : Int32) (r : Int32) (hf : fX5_blockAt N v p1 p2 = some r) : Tc l D yX5_blockAt wsX5_blockAt rmX5_blockAt [.ref (aM 0), .int p1, .int p2] (wM D aM v) (fun rv w => rv = some (.int r) ∧ w = (wM D aM v)) (fun _ _ => False) 0 0 := Tc_of htr (by decide +kernel) rfl (Nat.le_of_ble_eq_true rfl) (fun k C E hl hD => by subst hD; exact wkX5_blockAt C N aM v p1 p2 r hf E)
abbrev rmX5_cooled : Room := { frames := 0, cells := 0, slots := 0, locals := 0 }
theorem hsX5_cooled : yX5_cooled.cls ≠ "java/lang/invoke/MethodHandle" ∧ yX5_cooled.cls ≠ "java/lang/invoke/VarHandle" ∧ (parseMethodDescriptor yX5_cooled.desc).map (fun d => d.parameters.length) = some 1 := by decide +kernel
def fX5_cooled (N : Nat) (p0 : Int32) : Option (Int32) := some (p0 - ((p0 + 9) / 10))
set_option maxRecDepth 100000 in
set_option maxHeartbeats 4000000 in
theorem wkX5_cooled {k : Kt} (C : gC k cX5_cooled 1 RX5 wsX5_cooled rmX5_cooled "cooled") (N : Nat) (p0 : Int32) (r : Int32) (hf : fX5_cooled N p0 = some r) (E : gE k [] (fun rv w => rv = some (.int r) ∧ w = []) (fun _ _ => False) 0 0 (some .int) []) : gG k [] [(0, .int p0)] 0 0 0 [] := by
  unfold fX5_cooled at hf
  refine g_iload_n (pc := 0) (x := p0) C dX5_cooled_0 rfl ?_
  refine g_iload_n (pc := 1) (x := p0) C dX5_cooled_1 rfl ?_
  refine g_bipush (pc := 2) (v := 9) C dX5_cooled_2 (by decide) ?_
  refine g_iadd (pc := 4) (x := p0) (y := 9) C dX5_cooled_4 ?_
  refine g_bipush (pc := 5) (v := 10) C dX5_cooled_5 (by decide) ?_
  refine g_idiv (pc := 7) (x := (p0 + 9)) (y := 10) C dX5_cooled_7 (by decide) ?_
  refine g_isub (pc := 8) (x := p0) (y := ((p0 + 9) / 10)) C dX5_cooled_8 ?_
  obtain rfl := Option.some.inj hf
  exact g_iret (v := (p0 - ((p0 + 9) / 10))) C E dX5_cooled_9 (Nat.le_of_ble_eq_true rfl) (Nat.le_of_ble_eq_true rfl) ⟨rfl, rfl⟩
set_option maxRecDepth 100000 in
set_option maxHeartbeats 4000000 in
theorem cX5_cooled_ (l : Launch) (htr : l.stackTraces = false) (D : va_G) (N : Nat) (p0 : Int32) (r : Int32) (hf : fX5_cooled N p0 = some r) : Tc l D yX5_cooled wsX5_cooled rmX5_cooled [.int p0] [] (fun rv w => rv = some (.int r) ∧ w = []) (fun _ _ => False) 0 0 := Tc_of htr (by decide +kernel) rfl (Nat.le_of_ble_eq_true rfl) (fun k C E hl hD => by subst hD; exact wkX5_cooled C N p0 r hf E)
abbrev rmX5_addBlock : Room := { frames := 1, cells := 0, slots := 0, locals := 23 }
theorem inX5_addBlock_X5 : ∀ w ∈ wsX50, w ∈ wsX5_addBlock := by decide +kernel
theorem lkX5_addBlock_7 : Cond.fieldLink RX5 7 "GaugeBlocksModel" (TX5 0).2.1 (TX5 0).2.2.1 ∈ wsX5_addBlock := by decide +kernel
theorem hdX5_addBlock : yX5_addBlock.cls = RX5 ∧ yX5_addBlock.cls ≠ "java/lang/invoke/MethodHandle" ∧ yX5_addBlock.cls ≠ "java/lang/invoke/VarHandle" ∧ (parseMethodDescriptor yX5_addBlock.desc).map (fun d => d.parameters.length) = some 2 := by decide +kernel
def lX5_addBlock_11 (N : Nat) (l1 : Int32) (l2 : Int32) (l3 : Int32) : Nat → VM → Int32 → Option ((VM))
  | 0, _, _ => none
  | n + 1, v, l4 => (if (7 : Int32) ≤ l4 then some v else ((fX5_put N v l3 l4 0).bind fun r1 => (lX5_addBlock_11 N l1 l2 l3 n r1 (l4 + 1))))
set_option maxRecDepth 100000 in
set_option maxHeartbeats 4000000 in
theorem wlX5_addBlock_11 {k : Kt} (C : gC k cX5_addBlock 5 RX5 wsX5_addBlock rmX5_addBlock "addBlock") (N : Nat) (aM : Nat → Nat) (l1 : Int32) (l2 : Int32) (l3 : Int32) : ∀ (n : Nat) (v : VM) (l4 : Int32) (u : (VM)) (hf : lX5_addBlock_11 N l1 l2 l3 n v l4 = some u) (hk0 : gG k (wM (kD k) aM u) [(0, .ref (aM 0)), (1, .int l1), (2, .int l2), (3, .int l3)] 0 0 32 []), gG k (wM (kD k) aM v) [(0, .ref (aM 0)), (1, .int l1), (2, .int l2), (3, .int l3), (4, .int l4)] 0 0 11 [] := by
  intro n
  induction n with
  | zero => intro v l4 u hf hk0; rw [lX5_addBlock_11] at hf; cases hf
  | succ n ih =>
    intro v l4 u hf hk0
    rw [lX5_addBlock_11] at hf
    refine g_iload (pc := 11) (x := l4) C dX5_addBlock_11 rfl ?_
    refine g_bipush (pc := 13) (v := 7) C dX5_addBlock_13 (by decide) ?_
    refine g_icmp_ge (pc := 15) (tgt := 32) (x := l4) (y := 7) hf C dX5_addBlock_15 (by decide) (fun hf => ?_) (fun hf => ?_)
    · obtain rfl := Option.some.inj hf
      refine g_lv [0, 1, 2, 3] (lv' := [(0, .ref (aM 0)), (1, .int l1), (2, .int l2), (3, .int l3)]) rfl ?_
      exact hk0
    · refine g_aload_n (pc := 18) (x := (aM 0)) C dX5_addBlock_18 rfl ?_
      refine g_iload_n (pc := 19) (x := l3) C dX5_addBlock_19 rfl ?_
      refine g_iload (pc := 20) (x := l4) C dX5_addBlock_20 rfl ?_
      refine g_iconst (pc := 22) (v := 0) C dX5_addBlock_22 (by decide) ?_
      refine g_callW (wr := []) (pc' := 26) (cs' := 0) (sl' := 0) hf C (fun u => none) (fun u => (wM (kD k) aM u)) (fun u hu => gr_V (rest := []) C (cX5_put_ (kL k) C.tr (kD k) N aM v l3 l4 0 u hu) (fun ht => cwV 3 ht gX5_addBlock_X5_put rfl rfl rfl hdX5_put ⟨(Nat.le_of_ble_eq_true rfl), (Nat.le_of_ble_eq_true rfl)⟩) 0 rfl rfl [0, 1, 2, 3, 4, 5, 6, 7, 8, 9] rfl (by decide) rfl rfl (Nat.le_of_ble_eq_true rfl) dX5_addBlock_23 ⟨(Nat.le_of_ble_eq_true rfl), (Nat.le_of_ble_eq_true rfl)⟩) [0, 1, 2, 3, 4, 5, 6, 7, 8, 9] [] rfl rfl (by decide) (by decide) [0, 1, 2, 3, 4, 5, 6, 7, 8, 9] (by decide) (ws' := fun u => (wM (kD k) aM u)) (fun u => rfl) rfl rfl rfl (fun u => []) (fun u => rfl) (fun r1 hf => ?_)
      refine g_iinc (pc := 26) (x := l4) (v := (l4 + 1)) (lv' := [(4, .int (l4 + 1)), (0, .ref (aM 0)), (1, .int l1), (2, .int l2), (3, .int l3)]) C dX5_addBlock_26 rfl rfl (by decide) rfl ?_
      refine g_goto (pc := 29) (tgt := 11) C dX5_addBlock_29 (by decide) ?_
      refine g_lv [1, 2, 3, 4, 0] (lv' := [(0, .ref (aM 0)), (1, .int l1), (2, .int l2), (3, .int l3), (4, .int (l4 + 1))]) rfl ?_
      exact ih r1 (l4 + 1) u hf hk0
def fX5_addBlock (N : Nat) (v : VM) (p1 : Int32) (p2 : Int32) : Option (VM × Int32) := ck 8 149 (((lX5_addBlock_11 N p1 p2 ((mRow v) (Int32.toNatClampNeg 8)) N v 0).bind fun r1 => ((fX5_put N r1 ((mRow v) (Int32.toNatClampNeg 8)) 0 p1).bind fun r2 => ((fX5_put N r2 ((mRow v) (Int32.toNatClampNeg 8)) 1 p2).bind fun r3 => ((fX5_put N r3 ((mRow v) (Int32.toNatClampNeg 8)) 4 (-1)).bind fun r4 => ((fX5_put N r4 ((mRow v) (Int32.toNatClampNeg 8)) 5 (-1)).bind fun r5 => ck 8 149 (ck 8 149 (some (((upd (mRow r5) (Int32.toNatClampNeg 8) (((mRow r5) (Int32.toNatClampNeg 8)) + 1)), (mSav r5), (mSvn r5), (mSnp r5), (mKep r5), (mThr r5), (mFre r5), (mFrn r5), (mBuf r5), (mLen r5), (mSpt r5), (mNum r5), (mOrd r5), (mLet r5), (mFst r5), (mSnd r5), (mTok r5), (mLft r5)), ((mRow v) (Int32.toNatClampNeg 8)))))))))))
set_option maxRecDepth 100000 in
set_option maxHeartbeats 4000000 in
theorem wkX5_addBlock {k : Kt} (C : gC k cX5_addBlock 5 RX5 wsX5_addBlock rmX5_addBlock "addBlock") (N : Nat) (aM : Nat → Nat) (v : VM) (p1 : Int32) (p2 : Int32) (r : VM × Int32) (hf : fX5_addBlock N v p1 p2 = some r) (E : gE k (wM (kD k) aM v) (fun rv w => rv = some (.int r.2) ∧ w = (wM (kD k) aM r.1)) (fun _ _ => False) 0 0 (some .int) []) : gG k (wM (kD k) aM v) [(0, .ref (aM 0)), (1, .int p1), (2, .int p2)] 0 0 0 [] := by
  unfold fX5_addBlock at hf
  refine g_aload_n (pc := 0) (x := (aM 0)) C dX5_addBlock_0 rfl ?_
  refine g_getf (pc := 1) C 0 rfl rfl inX5_addBlock_X5 0 (by decide) lkX5_addBlock_7 rfl rfl dX5_addBlock_1 ?_
  refine g_bipush (pc := 4) (v := 8) C dX5_addBlock_4 (by decide) ?_
  refine g_iald (pc := 6) (i := 8) hf C 1 rfl dX5_addBlock_6 (fun hf => ?_)
  refine g_istore_n (pc := 7) (lv' := [(3, .int ((mRow v) (Int32.toNatClampNeg 8))), (0, .ref (aM 0)), (1, .int p1), (2, .int p2)]) C dX5_addBlock_7 (by decide) rfl ?_
  refine g_iconst (pc := 8) (v := 0) C dX5_addBlock_8 (by decide) ?_
  refine g_istore (pc := 9) (lv' := [(4, .int 0), (3, .int ((mRow v) (Int32.toNatClampNeg 8))), (0, .ref (aM 0)), (1, .int p1), (2, .int p2)]) C dX5_addBlock_9 (by decide) rfl ?_
  obtain ⟨r1, h1, hf⟩ := bd_e hf
  refine g_lv [2, 3, 4, 1, 0] (lv' := [(0, .ref (aM 0)), (1, .int p1), (2, .int p2), (3, .int ((mRow v) (Int32.toNatClampNeg 8))), (4, .int 0)]) rfl ?_
  refine wlX5_addBlock_11 C N aM p1 p2 ((mRow v) (Int32.toNatClampNeg 8)) N v 0 r1 h1 ?_
  refine g_aload_n (pc := 32) (x := (aM 0)) C dX5_addBlock_32 rfl ?_
  refine g_iload_n (pc := 33) (x := ((mRow v) (Int32.toNatClampNeg 8))) C dX5_addBlock_33 rfl ?_
  refine g_iconst (pc := 34) (v := 0) C dX5_addBlock_34 (by decide) ?_
  refine g_iload_n (pc := 35) (x := p1) C dX5_addBlock_35 rfl ?_
  refine g_callW (wr := []) (pc' := 39) (cs' := 0) (sl' := 0) hf C (fun u => none) (fun u => (wM (kD k) aM u)) (fun u hu => gr_V (rest := []) C (cX5_put_ (kL k) C.tr (kD k) N aM r1 ((mRow v) (Int32.toNatClampNeg 8)) 0 p1 u hu) (fun ht => cwV 3 ht gX5_addBlock_X5_put rfl rfl rfl hdX5_put ⟨(Nat.le_of_ble_eq_true rfl), (Nat.le_of_ble_eq_true rfl)⟩) 0 rfl rfl [0, 1, 2, 3, 4, 5, 6, 7, 8, 9] rfl (by decide) rfl rfl (Nat.le_of_ble_eq_true rfl) dX5_addBlock_36 ⟨(Nat.le_of_ble_eq_true rfl), (Nat.le_of_ble_eq_true rfl)⟩) [0, 1, 2, 3, 4, 5, 6, 7, 8, 9] [] rfl rfl (by decide) (by decide) [0, 1, 2, 3, 4, 5, 6, 7, 8, 9] (by decide) (ws' := fun u => (wM (kD k) aM u)) (fun u => rfl) rfl rfl rfl (fun u => []) (fun u => rfl) (fun r2 hf => ?_)
  refine g_aload_n (pc := 39) (x := (aM 0)) C dX5_addBlock_39 rfl ?_
  refine g_iload_n (pc := 40) (x := ((mRow v) (Int32.toNatClampNeg 8))) C dX5_addBlock_40 rfl ?_
  refine g_iconst (pc := 41) (v := 1) C dX5_addBlock_41 (by decide) ?_
  refine g_iload_n (pc := 42) (x := p2) C dX5_addBlock_42 rfl ?_
  refine g_callW (wr := []) (pc' := 46) (cs' := 0) (sl' := 0) hf C (fun u => none) (fun u => (wM (kD k) aM u)) (fun u hu => gr_V (rest := []) C (cX5_put_ (kL k) C.tr (kD k) N aM r2 ((mRow v) (Int32.toNatClampNeg 8)) 1 p2 u hu) (fun ht => cwV 3 ht gX5_addBlock_X5_put rfl rfl rfl hdX5_put ⟨(Nat.le_of_ble_eq_true rfl), (Nat.le_of_ble_eq_true rfl)⟩) 0 rfl rfl [0, 1, 2, 3, 4, 5, 6, 7, 8, 9] rfl (by decide) rfl rfl (Nat.le_of_ble_eq_true rfl) dX5_addBlock_43 ⟨(Nat.le_of_ble_eq_true rfl), (Nat.le_of_ble_eq_true rfl)⟩) [0, 1, 2, 3, 4, 5, 6, 7, 8, 9] [] rfl rfl (by decide) (by decide) [0, 1, 2, 3, 4, 5, 6, 7, 8, 9] (by decide) (ws' := fun u => (wM (kD k) aM u)) (fun u => rfl) rfl rfl rfl (fun u => []) (fun u => rfl) (fun r3 hf => ?_)
  refine g_aload_n (pc := 46) (x := (aM 0)) C dX5_addBlock_46 rfl ?_
  refine g_iload_n (pc := 47) (x := ((mRow v) (Int32.toNatClampNeg 8))) C dX5_addBlock_47 rfl ?_
  refine g_iconst (pc := 48) (v := 4) C dX5_addBlock_48 (by decide) ?_
  refine g_iconst (pc := 49) (v := (-1)) C dX5_addBlock_49 (by decide) ?_
  refine g_callW (wr := []) (pc' := 53) (cs' := 0) (sl' := 0) hf C (fun u => none) (fun u => (wM (kD k) aM u)) (fun u hu => gr_V (rest := []) C (cX5_put_ (kL k) C.tr (kD k) N aM r3 ((mRow v) (Int32.toNatClampNeg 8)) 4 (-1) u hu) (fun ht => cwV 3 ht gX5_addBlock_X5_put rfl rfl rfl hdX5_put ⟨(Nat.le_of_ble_eq_true rfl), (Nat.le_of_ble_eq_true rfl)⟩) 0 rfl rfl [0, 1, 2, 3, 4, 5, 6, 7, 8, 9] rfl (by decide) rfl rfl (Nat.le_of_ble_eq_true rfl) dX5_addBlock_50 ⟨(Nat.le_of_ble_eq_true rfl), (Nat.le_of_ble_eq_true rfl)⟩) [0, 1, 2, 3, 4, 5, 6, 7, 8, 9] [] rfl rfl (by decide) (by decide) [0, 1, 2, 3, 4, 5, 6, 7, 8, 9] (by decide) (ws' := fun u => (wM (kD k) aM u)) (fun u => rfl) rfl rfl rfl (fun u => []) (fun u => rfl) (fun r4 hf => ?_)
  refine g_aload_n (pc := 53) (x := (aM 0)) C dX5_addBlock_53 rfl ?_
  refine g_iload_n (pc := 54) (x := ((mRow v) (Int32.toNatClampNeg 8))) C dX5_addBlock_54 rfl ?_
  refine g_iconst (pc := 55) (v := 5) C dX5_addBlock_55 (by decide) ?_
  refine g_iconst (pc := 56) (v := (-1)) C dX5_addBlock_56 (by decide) ?_
  refine g_callW (wr := []) (pc' := 60) (cs' := 0) (sl' := 0) hf C (fun u => none) (fun u => (wM (kD k) aM u)) (fun u hu => gr_V (rest := []) C (cX5_put_ (kL k) C.tr (kD k) N aM r4 ((mRow v) (Int32.toNatClampNeg 8)) 5 (-1) u hu) (fun ht => cwV 3 ht gX5_addBlock_X5_put rfl rfl rfl hdX5_put ⟨(Nat.le_of_ble_eq_true rfl), (Nat.le_of_ble_eq_true rfl)⟩) 0 rfl rfl [0, 1, 2, 3, 4, 5, 6, 7, 8, 9] rfl (by decide) rfl rfl (Nat.le_of_ble_eq_true rfl) dX5_addBlock_57 ⟨(Nat.le_of_ble_eq_true rfl), (Nat.le_of_ble_eq_true rfl)⟩) [0, 1, 2, 3, 4, 5, 6, 7, 8, 9] [] rfl rfl (by decide) (by decide) [0, 1, 2, 3, 4, 5, 6, 7, 8, 9] (by decide) (ws' := fun u => (wM (kD k) aM u)) (fun u => rfl) rfl rfl rfl (fun u => []) (fun u => rfl) (fun r5 hf => ?_)
  refine g_aload_n (pc := 60) (x := (aM 0)) C dX5_addBlock_60 rfl ?_
  refine g_getf (pc := 61) C 0 rfl rfl inX5_addBlock_X5 0 (by decide) lkX5_addBlock_7 rfl rfl dX5_addBlock_61 ?_
  refine g_bipush (pc := 64) (v := 8) C dX5_addBlock_64 (by decide) ?_
  refine g_dup2 (pc := 66) C dX5_addBlock_66 rfl rfl ?_
  refine g_iald (pc := 67) (i := 8) hf C 1 rfl dX5_addBlock_67 (fun hf => ?_)
  refine g_iconst (pc := 68) (v := 1) C dX5_addBlock_68 (by decide) ?_
  refine g_iadd (pc := 69) (x := ((mRow r5) (Int32.toNatClampNeg 8))) (y := 1) C dX5_addBlock_69 ?_
  refine g_iast (pc := 70) (i := 8) (x := (((mRow r5) (Int32.toNatClampNeg 8)) + 1)) hf C 1 rfl dX5_addBlock_70 (ws' := (wM (kD k) aM ((upd (mRow r5) (Int32.toNatClampNeg 8) (((mRow r5) (Int32.toNatClampNeg 8)) + 1)), (mSav r5), (mSvn r5), (mSnp r5), (mKep r5), (mThr r5), (mFre r5), (mFrn r5), (mBuf r5), (mLen r5), (mSpt r5), (mNum r5), (mOrd r5), (mLet r5), (mFst r5), (mSnd r5), (mTok r5), (mLft r5)))) rfl (fun hf => ?_)
  refine g_iload_n (pc := 71) (x := ((mRow v) (Int32.toNatClampNeg 8))) C dX5_addBlock_71 rfl ?_
  obtain rfl := Option.some.inj hf
  exact g_iret (v := ((mRow v) (Int32.toNatClampNeg 8))) C E dX5_addBlock_72 (Nat.le_of_ble_eq_true rfl) (Nat.le_of_ble_eq_true rfl) ⟨rfl, rfl⟩
set_option maxRecDepth 100000 in
set_option maxHeartbeats 4000000 in
theorem cX5_addBlock_ (l : Launch) (htr : l.stackTraces = false) (D : va_G) (N : Nat) (aM : Nat → Nat) (v : VM) (p1 : Int32) (p2 : Int32) (r : VM × Int32) (hf : fX5_addBlock N v p1 p2 = some r) : Tc l D yX5_addBlock wsX5_addBlock rmX5_addBlock [.ref (aM 0), .int p1, .int p2] (wM D aM v) (fun rv w => rv = some (.int r.2) ∧ w = (wM D aM r.1)) (fun _ _ => False) 0 0 := Tc_of htr (by decide +kernel) rfl (Nat.le_of_ble_eq_true rfl) (fun k C E hl hD => by subst hD; exact wkX5_addBlock C N aM v p1 p2 r hf E)
abbrev rmX5_warm : Room := { frames := 1, cells := 0, slots := 0, locals := 23 }
theorem hdX5_warm : yX5_warm.cls = RX5 ∧ yX5_warm.cls ≠ "java/lang/invoke/MethodHandle" ∧ yX5_warm.cls ≠ "java/lang/invoke/VarHandle" ∧ (parseMethodDescriptor yX5_warm.desc).map (fun d => d.parameters.length) = some 2 := by decide +kernel
def fX5_warm (N : Nat) (v : VM) (p1 : Int32) (p2 : Int32) : Option (VM) := ((fX5_of N v p1 3).bind fun r1 => (if (r1 + p2) ≤ (1000 : Int32) then ((fX5_put N v p1 3 (r1 + p2)).bind fun r2 => some r2) else ((fX5_put N v p1 3 1000).bind fun r3 => some r3)))
set_option maxRecDepth 100000 in
set_option maxHeartbeats 4000000 in
theorem wkX5_warm {k : Kt} (C : gC k cX5_warm 4 RX5 wsX5_warm rmX5_warm "warm") (N : Nat) (aM : Nat → Nat) (v : VM) (p1 : Int32) (p2 : Int32) (r : VM) (hf : fX5_warm N v p1 p2 = some r) (E : gE k (wM (kD k) aM v) (fun rv w => rv = none ∧ w = (wM (kD k) aM r)) (fun _ _ => False) 0 0 none []) : gG k (wM (kD k) aM v) [(0, .ref (aM 0)), (1, .int p1), (2, .int p2)] 0 0 0 [] := by
  unfold fX5_warm at hf
  refine g_aload_n (pc := 0) (x := (aM 0)) C dX5_warm_0 rfl ?_
  refine g_iload_n (pc := 1) (x := p1) C dX5_warm_1 rfl ?_
  refine g_iconst (pc := 2) (v := 3) C dX5_warm_2 (by decide) ?_
  refine g_callR (pc' := 6) (cs' := 0) (sl' := 0) hf C (fun u => some (.int u)) (fun u hu => gr_V (rest := []) C (cX5_of_ (kL k) C.tr (kD k) N aM v p1 3 u hu) (fun ht => cwV 2 ht gX5_warm_X5_of rfl rfl rfl hdX5_of ⟨(Nat.le_of_ble_eq_true rfl), (Nat.le_of_ble_eq_true rfl)⟩) 0 rfl rfl [0, 1, 2, 3, 4, 5, 6, 7, 8, 9] rfl (by decide) rfl rfl (Nat.le_of_ble_eq_true rfl) dX5_warm_3 ⟨(Nat.le_of_ble_eq_true rfl), (Nat.le_of_ble_eq_true rfl)⟩) [0, 1, 2, 3, 4, 5, 6, 7, 8, 9] rfl rfl rfl rfl (fun u => [.int u]) (fun u => rfl) (fun r1 hf => ?_)
  refine g_iload_n (pc := 6) (x := p2) C dX5_warm_6 rfl ?_
  refine g_iadd (pc := 7) (x := r1) (y := p2) C dX5_warm_7 ?_
  refine g_istore_n (pc := 8) (lv' := [(3, .int (r1 + p2)), (0, .ref (aM 0)), (1, .int p1), (2, .int p2)]) C dX5_warm_8 (by decide) rfl ?_
  refine g_aload_n (pc := 9) (x := (aM 0)) C dX5_warm_9 rfl ?_
  refine g_iload_n (pc := 10) (x := p1) C dX5_warm_10 rfl ?_
  refine g_iconst (pc := 11) (v := 3) C dX5_warm_11 (by decide) ?_
  refine g_iload_n (pc := 12) (x := (r1 + p2)) C dX5_warm_12 rfl ?_
  refine g_sipush (pc := 13) (v := 1000) C dX5_warm_13 (by decide) ?_
  refine g_icmp_le (pc := 16) (tgt := 25) (x := (r1 + p2)) (y := 1000) hf C dX5_warm_16 (by decide) (fun hf => ?_) (fun hf => ?_)
  · refine g_iload_n (pc := 25) (x := (r1 + p2)) C dX5_warm_25 rfl ?_
    refine g_callW (wr := []) (pc' := 29) (cs' := 0) (sl' := 0) hf C (fun u => none) (fun u => (wM (kD k) aM u)) (fun u hu => gr_V (rest := []) C (cX5_put_ (kL k) C.tr (kD k) N aM v p1 3 (r1 + p2) u hu) (fun ht => cwV 3 ht gX5_warm_X5_put rfl rfl rfl hdX5_put ⟨(Nat.le_of_ble_eq_true rfl), (Nat.le_of_ble_eq_true rfl)⟩) 0 rfl rfl [0, 1, 2, 3, 4, 5, 6, 7, 8, 9] rfl (by decide) rfl rfl (Nat.le_of_ble_eq_true rfl) dX5_warm_26 ⟨(Nat.le_of_ble_eq_true rfl), (Nat.le_of_ble_eq_true rfl)⟩) [0, 1, 2, 3, 4, 5, 6, 7, 8, 9] [] rfl rfl (by decide) (by decide) [0, 1, 2, 3, 4, 5, 6, 7, 8, 9] (by decide) (ws' := fun u => (wM (kD k) aM u)) (fun u => rfl) rfl rfl rfl (fun u => []) (fun u => rfl) (fun r2 hf => ?_)
    obtain rfl := Option.some.inj hf
    exact g_vret C E dX5_warm_29 (Nat.le_of_ble_eq_true rfl) (Nat.le_of_ble_eq_true rfl) ⟨rfl, rfl⟩
  · refine g_sipush (pc := 19) (v := 1000) C dX5_warm_19 (by decide) ?_
    refine g_goto (pc := 22) (tgt := 26) C dX5_warm_22 (by decide) ?_
    refine g_callW (wr := []) (pc' := 29) (cs' := 0) (sl' := 0) hf C (fun u => none) (fun u => (wM (kD k) aM u)) (fun u hu => gr_V (rest := []) C (cX5_put_ (kL k) C.tr (kD k) N aM v p1 3 1000 u hu) (fun ht => cwV 3 ht gX5_warm_X5_put rfl rfl rfl hdX5_put ⟨(Nat.le_of_ble_eq_true rfl), (Nat.le_of_ble_eq_true rfl)⟩) 0 rfl rfl [0, 1, 2, 3, 4, 5, 6, 7, 8, 9] rfl (by decide) rfl rfl (Nat.le_of_ble_eq_true rfl) dX5_warm_26 ⟨(Nat.le_of_ble_eq_true rfl), (Nat.le_of_ble_eq_true rfl)⟩) [0, 1, 2, 3, 4, 5, 6, 7, 8, 9] [] rfl rfl (by decide) (by decide) [0, 1, 2, 3, 4, 5, 6, 7, 8, 9] (by decide) (ws' := fun u => (wM (kD k) aM u)) (fun u => rfl) rfl rfl rfl (fun u => []) (fun u => rfl) (fun r3 hf => ?_)
    obtain rfl := Option.some.inj hf
    exact g_vret C E dX5_warm_29 (Nat.le_of_ble_eq_true rfl) (Nat.le_of_ble_eq_true rfl) ⟨rfl, rfl⟩
set_option maxRecDepth 100000 in
set_option maxHeartbeats 4000000 in
theorem cX5_warm_ (l : Launch) (htr : l.stackTraces = false) (D : va_G) (N : Nat) (aM : Nat → Nat) (v : VM) (p1 : Int32) (p2 : Int32) (r : VM) (hf : fX5_warm N v p1 p2 = some r) : Tc l D yX5_warm wsX5_warm rmX5_warm [.ref (aM 0), .int p1, .int p2] (wM D aM v) (fun rv w => rv = none ∧ w = (wM D aM r)) (fun _ _ => False) 0 0 := Tc_of htr (by decide +kernel) rfl (Nat.le_of_ble_eq_true rfl) (fun k C E hl hD => by subst hD; exact wkX5_warm C N aM v p1 p2 r hf E)
abbrev rmX5_holdNow : Room := { frames := 2, cells := 0, slots := 0, locals := 46 }
theorem hdX5_holdNow : yX5_holdNow.cls = RX5 ∧ yX5_holdNow.cls ≠ "java/lang/invoke/MethodHandle" ∧ yX5_holdNow.cls ≠ "java/lang/invoke/VarHandle" ∧ (parseMethodDescriptor yX5_holdNow.desc).map (fun d => d.parameters.length) = some 2 := by decide +kernel
def fX5_holdNow (N : Nat) (v : VM) (p1 : Int32) (p2 : Int32) : Option (VM × Int32) := ((fX5_warm N v p1 (5 * p2)).bind fun r1 => ((fX5_of N r1 p1 3).bind fun r2 => some (r1, r2)))
set_option maxRecDepth 100000 in
set_option maxHeartbeats 4000000 in
theorem wkX5_holdNow {k : Kt} (C : gC k cX5_holdNow 3 RX5 wsX5_holdNow rmX5_holdNow "holdNow") (N : Nat) (aM : Nat → Nat) (v : VM) (p1 : Int32) (p2 : Int32) (r : VM × Int32) (hf : fX5_holdNow N v p1 p2 = some r) (E : gE k (wM (kD k) aM v) (fun rv w => rv = some (.int r.2) ∧ w = (wM (kD k) aM r.1)) (fun _ _ => False) 0 0 (some .int) []) : gG k (wM (kD k) aM v) [(0, .ref (aM 0)), (1, .int p1), (2, .int p2)] 0 0 0 [] := by
  unfold fX5_holdNow at hf
  refine g_aload_n (pc := 0) (x := (aM 0)) C dX5_holdNow_0 rfl ?_
  refine g_iload_n (pc := 1) (x := p1) C dX5_holdNow_1 rfl ?_
  refine g_iconst (pc := 2) (v := 5) C dX5_holdNow_2 (by decide) ?_
  refine g_iload_n (pc := 3) (x := p2) C dX5_holdNow_3 rfl ?_
  refine g_imul (pc := 4) (x := 5) (y := p2) C dX5_holdNow_4 ?_
  refine g_callW (wr := []) (pc' := 8) (cs' := 0) (sl' := 0) hf C (fun u => none) (fun u => (wM (kD k) aM u)) (fun u hu => gr_V (rest := []) C (cX5_warm_ (kL k) C.tr (kD k) N aM v p1 (5 * p2) u hu) (fun ht => cwV 2 ht gX5_holdNow_X5_warm rfl rfl rfl hdX5_warm ⟨(Nat.le_of_ble_eq_true rfl), (Nat.le_of_ble_eq_true rfl)⟩) 0 rfl rfl [0, 1, 2, 3, 4, 5, 6, 7, 8, 9] rfl (by decide) rfl rfl (Nat.le_of_ble_eq_true rfl) dX5_holdNow_5 ⟨(Nat.le_of_ble_eq_true rfl), (Nat.le_of_ble_eq_true rfl)⟩) [0, 1, 2, 3, 4, 5, 6, 7, 8, 9] [] rfl rfl (by decide) (by decide) [0, 1, 2, 3, 4, 5, 6, 7, 8, 9] (by decide) (ws' := fun u => (wM (kD k) aM u)) (fun u => rfl) rfl rfl rfl (fun u => []) (fun u => rfl) (fun r1 hf => ?_)
  refine g_aload_n (pc := 8) (x := (aM 0)) C dX5_holdNow_8 rfl ?_
  refine g_iload_n (pc := 9) (x := p1) C dX5_holdNow_9 rfl ?_
  refine g_iconst (pc := 10) (v := 3) C dX5_holdNow_10 (by decide) ?_
  refine g_callR (pc' := 14) (cs' := 0) (sl' := 0) hf C (fun u => some (.int u)) (fun u hu => gr_V (rest := []) C (cX5_of_ (kL k) C.tr (kD k) N aM r1 p1 3 u hu) (fun ht => cwV 2 ht gX5_holdNow_X5_of rfl rfl rfl hdX5_of ⟨(Nat.le_of_ble_eq_true rfl), (Nat.le_of_ble_eq_true rfl)⟩) 0 rfl rfl [0, 1, 2, 3, 4, 5, 6, 7, 8, 9] rfl (by decide) rfl rfl (Nat.le_of_ble_eq_true rfl) dX5_holdNow_11 ⟨(Nat.le_of_ble_eq_true rfl), (Nat.le_of_ble_eq_true rfl)⟩) [0, 1, 2, 3, 4, 5, 6, 7, 8, 9] rfl rfl rfl rfl (fun u => [.int u]) (fun u => rfl) (fun r2 hf => ?_)
  obtain rfl := Option.some.inj hf
  exact g_iret (v := r2) C E dX5_holdNow_14 (Nat.le_of_ble_eq_true rfl) (Nat.le_of_ble_eq_true rfl) ⟨rfl, rfl⟩
set_option maxRecDepth 100000 in
set_option maxHeartbeats 4000000 in
theorem cX5_holdNow_ (l : Launch) (htr : l.stackTraces = false) (D : va_G) (N : Nat) (aM : Nat → Nat) (v : VM) (p1 : Int32) (p2 : Int32) (r : VM × Int32) (hf : fX5_holdNow N v p1 p2 = some r) : Tc l D yX5_holdNow wsX5_holdNow rmX5_holdNow [.ref (aM 0), .int p1, .int p2] (wM D aM v) (fun rv w => rv = some (.int r.2) ∧ w = (wM D aM r.1)) (fun _ _ => False) 0 0 := Tc_of htr (by decide +kernel) rfl (Nat.le_of_ble_eq_true rfl) (fun k C E hl hD => by subst hD; exact wkX5_holdNow C N aM v p1 p2 r hf E)
abbrev rmX5_restNow : Room := { frames := 1, cells := 0, slots := 0, locals := 23 }
theorem inX5_restNow_X5 : ∀ w ∈ wsX50, w ∈ wsX5_restNow := by decide +kernel
theorem lkX5_restNow_7 : Cond.fieldLink RX5 7 "GaugeBlocksModel" (TX5 0).2.1 (TX5 0).2.2.1 ∈ wsX5_restNow := by decide +kernel
theorem hdX5_restNow : yX5_restNow.cls = RX5 ∧ yX5_restNow.cls ≠ "java/lang/invoke/MethodHandle" ∧ yX5_restNow.cls ≠ "java/lang/invoke/VarHandle" ∧ (parseMethodDescriptor yX5_restNow.desc).map (fun d => d.parameters.length) = some 1 := by decide +kernel
def lX5_restNow_18 (N : Nat) (l1 : Int32) (l2 : Int32) (l3 : Int32) : Nat → VM → Int32 → Option ((VM))
  | 0, _, _ => none
  | n + 1, v, l4 => (if l1 ≤ l4 then some v else ((fX5_of N v l3 3).bind fun r1 => ((fX5_cooled N r1).bind fun r2 => ((fX5_put N v l3 3 r2).bind fun r3 => (lX5_restNow_18 N l1 l2 l3 n r3 (l4 + 1))))))
set_option maxRecDepth 100000 in
set_option maxHeartbeats 4000000 in
theorem wlX5_restNow_18 {k : Kt} (C : gC k cX5_restNow 5 RX5 wsX5_restNow rmX5_restNow "restNow") (N : Nat) (aM : Nat → Nat) (l1 : Int32) (l2 : Int32) (l3 : Int32) : ∀ (n : Nat) (v : VM) (l4 : Int32) (u : (VM)) (hf : lX5_restNow_18 N l1 l2 l3 n v l4 = some u) (hk0 : gG k (wM (kD k) aM u) [(0, .ref (aM 0)), (1, .int l1), (2, .int l2), (3, .int l3)] 0 0 45 []), gG k (wM (kD k) aM v) [(0, .ref (aM 0)), (1, .int l1), (2, .int l2), (3, .int l3), (4, .int l4)] 0 0 18 [] := by
  intro n
  induction n with
  | zero => intro v l4 u hf hk0; rw [lX5_restNow_18] at hf; cases hf
  | succ n ih =>
    intro v l4 u hf hk0
    rw [lX5_restNow_18] at hf
    refine g_iload (pc := 18) (x := l4) C dX5_restNow_18 rfl ?_
    refine g_iload_n (pc := 20) (x := l1) C dX5_restNow_20 rfl ?_
    refine g_icmp_ge (pc := 21) (tgt := 45) (x := l4) (y := l1) hf C dX5_restNow_21 (by decide) (fun hf => ?_) (fun hf => ?_)
    · obtain rfl := Option.some.inj hf
      refine g_lv [0, 1, 2, 3] (lv' := [(0, .ref (aM 0)), (1, .int l1), (2, .int l2), (3, .int l3)]) rfl ?_
      exact hk0
    · refine g_aload_n (pc := 24) (x := (aM 0)) C dX5_restNow_24 rfl ?_
      refine g_iload_n (pc := 25) (x := l3) C dX5_restNow_25 rfl ?_
      refine g_iconst (pc := 26) (v := 3) C dX5_restNow_26 (by decide) ?_
      refine g_aload_n (pc := 27) (x := (aM 0)) C dX5_restNow_27 rfl ?_
      refine g_iload_n (pc := 28) (x := l3) C dX5_restNow_28 rfl ?_
      refine g_iconst (pc := 29) (v := 3) C dX5_restNow_29 (by decide) ?_
      refine g_callR (pc' := 33) (cs' := 0) (sl' := 0) hf C (fun u => some (.int u)) (fun u hu => gr_V (rest := [.int 3, .int l3, .ref (aM 0)]) C (cX5_of_ (kL k) C.tr (kD k) N aM v l3 3 u hu) (fun ht => cwV 2 ht gX5_restNow_X5_of rfl rfl rfl hdX5_of ⟨(Nat.le_of_ble_eq_true rfl), (Nat.le_of_ble_eq_true rfl)⟩) 0 rfl rfl [0, 1, 2, 3, 4, 5, 6, 7, 8, 9] rfl (by decide) rfl rfl (Nat.le_of_ble_eq_true rfl) dX5_restNow_30 ⟨(Nat.le_of_ble_eq_true rfl), (Nat.le_of_ble_eq_true rfl)⟩) [0, 1, 2, 3, 4, 5, 6, 7, 8, 9] rfl rfl rfl rfl (fun u => [.int u, .int 3, .int l3, .ref (aM 0)]) (fun u => rfl) (fun r1 hf => ?_)
      refine g_callR (pc' := 36) (cs' := 0) (sl' := 0) hf C (fun u => some (.int u)) (fun u hu => gr_S (rest := [.int 3, .int l3, .ref (aM 0)]) C (cX5_cooled_ (kL k) C.tr (kD k) N r1 u hu) (fun ht => va_cwS 1 ht gX5_restNow_X5_cooled rfl rfl rfl hsX5_cooled ⟨(Nat.le_of_ble_eq_true rfl), (Nat.le_of_ble_eq_true rfl)⟩) [] rfl (by decide) rfl rfl (Nat.le_of_ble_eq_true rfl) dX5_restNow_33 ⟨(Nat.le_of_ble_eq_true rfl), (Nat.le_of_ble_eq_true rfl)⟩) [] rfl rfl rfl rfl (fun u => [.int u, .int 3, .int l3, .ref (aM 0)]) (fun u => rfl) (fun r2 hf => ?_)
      refine g_callW (wr := []) (pc' := 39) (cs' := 0) (sl' := 0) hf C (fun u => none) (fun u => (wM (kD k) aM u)) (fun u hu => gr_V (rest := []) C (cX5_put_ (kL k) C.tr (kD k) N aM v l3 3 r2 u hu) (fun ht => cwV 3 ht gX5_restNow_X5_put rfl rfl rfl hdX5_put ⟨(Nat.le_of_ble_eq_true rfl), (Nat.le_of_ble_eq_true rfl)⟩) 0 rfl rfl [0, 1, 2, 3, 4, 5, 6, 7, 8, 9] rfl (by decide) rfl rfl (Nat.le_of_ble_eq_true rfl) dX5_restNow_36 ⟨(Nat.le_of_ble_eq_true rfl), (Nat.le_of_ble_eq_true rfl)⟩) [0, 1, 2, 3, 4, 5, 6, 7, 8, 9] [] rfl rfl (by decide) (by decide) [0, 1, 2, 3, 4, 5, 6, 7, 8, 9] (by decide) (ws' := fun u => (wM (kD k) aM u)) (fun u => rfl) rfl rfl rfl (fun u => []) (fun u => rfl) (fun r3 hf => ?_)
      refine g_iinc (pc := 39) (x := l4) (v := (l4 + 1)) (lv' := [(4, .int (l4 + 1)), (0, .ref (aM 0)), (1, .int l1), (2, .int l2), (3, .int l3)]) C dX5_restNow_39 rfl rfl (by decide) rfl ?_
      refine g_goto (pc := 42) (tgt := 18) C dX5_restNow_42 (by decide) ?_
      refine g_lv [1, 2, 3, 4, 0] (lv' := [(0, .ref (aM 0)), (1, .int l1), (2, .int l2), (3, .int l3), (4, .int (l4 + 1))]) rfl ?_
      exact ih r3 (l4 + 1) u hf hk0
def lX5_restNow_4 (N : Nat) (l1 : Int32) : Nat → VM → Int32 → Int32 → Option ((VM × Int32))
  | 0, _, _, _ => none
  | n + 1, v, l2, l3 => ck 8 149 ((if ((mRow v) (Int32.toNatClampNeg 8)) ≤ l3 then some (v, l2) else ((lX5_restNow_18 N l1 l2 l3 N v 0).bind fun r1 => ((fX5_of N r1 l3 3).bind fun r2 => (if r2 ≤ l2 then (lX5_restNow_4 N l1 n r1 l2 (l3 + 1)) else ((fX5_of N r1 l3 3).bind fun r3 => (lX5_restNow_4 N l1 n r1 r3 (l3 + 1))))))))
set_option maxRecDepth 100000 in
set_option maxHeartbeats 4000000 in
theorem wlX5_restNow_4 {k : Kt} (C : gC k cX5_restNow 5 RX5 wsX5_restNow rmX5_restNow "restNow") (N : Nat) (aM : Nat → Nat) (l1 : Int32) : ∀ (n : Nat) (v : VM) (l2 : Int32) (l3 : Int32) (u : (VM × Int32)) (hf : lX5_restNow_4 N l1 n v l2 l3 = some u) (hk0 : gG k (wM (kD k) aM u.1) [(0, .ref (aM 0)), (1, .int l1), (2, .int u.2)] 0 0 72 []), gG k (wM (kD k) aM v) [(0, .ref (aM 0)), (1, .int l1), (2, .int l2), (3, .int l3)] 0 0 4 [] := by
  intro n
  induction n with
  | zero => intro v l2 l3 u hf hk0; rw [lX5_restNow_4] at hf; cases hf
  | succ n ih =>
    intro v l2 l3 u hf hk0
    rw [lX5_restNow_4] at hf
    refine g_iload_n (pc := 4) (x := l3) C dX5_restNow_4 rfl ?_
    refine g_aload_n (pc := 5) (x := (aM 0)) C dX5_restNow_5 rfl ?_
    refine g_getf (pc := 6) C 0 rfl rfl inX5_restNow_X5 0 (by decide) lkX5_restNow_7 rfl rfl dX5_restNow_6 ?_
    refine g_bipush (pc := 9) (v := 8) C dX5_restNow_9 (by decide) ?_
    refine g_iald (pc := 11) (i := 8) hf C 1 rfl dX5_restNow_11 (fun hf => ?_)
    refine g_icmp_ge (pc := 12) (tgt := 72) (x := l3) (y := ((mRow v) (Int32.toNatClampNeg 8))) hf C dX5_restNow_12 (by decide) (fun hf => ?_) (fun hf => ?_)
    · obtain rfl := Option.some.inj hf
      refine g_lv [0, 1, 2] (lv' := [(0, .ref (aM 0)), (1, .int l1), (2, .int l2)]) rfl ?_
      exact hk0
    · refine g_iconst (pc := 15) (v := 0) C dX5_restNow_15 (by decide) ?_
      refine g_istore (pc := 16) (lv' := [(4, .int 0), (0, .ref (aM 0)), (1, .int l1), (2, .int l2), (3, .int l3)]) C dX5_restNow_16 (by decide) rfl ?_
      obtain ⟨r1, h1, hf⟩ := bd_e hf
      refine g_lv [1, 2, 3, 4, 0] (lv' := [(0, .ref (aM 0)), (1, .int l1), (2, .int l2), (3, .int l3), (4, .int 0)]) rfl ?_
      refine wlX5_restNow_18 C N aM l1 l2 l3 N v 0 r1 h1 ?_
      refine g_aload_n (pc := 45) (x := (aM 0)) C dX5_restNow_45 rfl ?_
      refine g_iload_n (pc := 46) (x := l3) C dX5_restNow_46 rfl ?_
      refine g_iconst (pc := 47) (v := 3) C dX5_restNow_47 (by decide) ?_
      refine g_callR (pc' := 51) (cs' := 0) (sl' := 0) hf C (fun u => some (.int u)) (fun u hu => gr_V (rest := []) C (cX5_of_ (kL k) C.tr (kD k) N aM r1 l3 3 u hu) (fun ht => cwV 2 ht gX5_restNow_X5_of rfl rfl rfl hdX5_of ⟨(Nat.le_of_ble_eq_true rfl), (Nat.le_of_ble_eq_true rfl)⟩) 0 rfl rfl [0, 1, 2, 3, 4, 5, 6, 7, 8, 9] rfl (by decide) rfl rfl (Nat.le_of_ble_eq_true rfl) dX5_restNow_48 ⟨(Nat.le_of_ble_eq_true rfl), (Nat.le_of_ble_eq_true rfl)⟩) [0, 1, 2, 3, 4, 5, 6, 7, 8, 9] rfl rfl rfl rfl (fun u => [.int u]) (fun u => rfl) (fun r2 hf => ?_)
      refine g_iload_n (pc := 51) (x := l2) C dX5_restNow_51 rfl ?_
      refine g_icmp_le (pc := 52) (tgt := 64) (x := r2) (y := l2) hf C dX5_restNow_52 (by decide) (fun hf => ?_) (fun hf => ?_)
      · refine g_iload_n (pc := 64) (x := l2) C dX5_restNow_64 rfl ?_
        refine g_istore_n (pc := 65) (lv' := [(2, .int l2), (0, .ref (aM 0)), (1, .int l1), (3, .int l3)]) C dX5_restNow_65 (by decide) rfl ?_
        refine g_iinc (pc := 66) (x := l3) (v := (l3 + 1)) (lv' := [(3, .int (l3 + 1)), (2, .int l2), (0, .ref (aM 0)), (1, .int l1)]) C dX5_restNow_66 rfl rfl (by decide) rfl ?_
        refine g_goto (pc := 69) (tgt := 4) C dX5_restNow_69 (by decide) ?_
        refine g_lv [2, 3, 1, 0] (lv' := [(0, .ref (aM 0)), (1, .int l1), (2, .int l2), (3, .int (l3 + 1))]) rfl ?_
        exact ih r1 l2 (l3 + 1) u hf hk0
      · refine g_aload_n (pc := 55) (x := (aM 0)) C dX5_restNow_55 rfl ?_
        refine g_iload_n (pc := 56) (x := l3) C dX5_restNow_56 rfl ?_
        refine g_iconst (pc := 57) (v := 3) C dX5_restNow_57 (by decide) ?_
        refine g_callR (pc' := 61) (cs' := 0) (sl' := 0) hf C (fun u => some (.int u)) (fun u hu => gr_V (rest := []) C (cX5_of_ (kL k) C.tr (kD k) N aM r1 l3 3 u hu) (fun ht => cwV 2 ht gX5_restNow_X5_of rfl rfl rfl hdX5_of ⟨(Nat.le_of_ble_eq_true rfl), (Nat.le_of_ble_eq_true rfl)⟩) 0 rfl rfl [0, 1, 2, 3, 4, 5, 6, 7, 8, 9] rfl (by decide) rfl rfl (Nat.le_of_ble_eq_true rfl) dX5_restNow_58 ⟨(Nat.le_of_ble_eq_true rfl), (Nat.le_of_ble_eq_true rfl)⟩) [0, 1, 2, 3, 4, 5, 6, 7, 8, 9] rfl rfl rfl rfl (fun u => [.int u]) (fun u => rfl) (fun r3 hf => ?_)
        refine g_goto (pc := 61) (tgt := 65) C dX5_restNow_61 (by decide) ?_
        refine g_istore_n (pc := 65) (lv' := [(2, .int r3), (0, .ref (aM 0)), (1, .int l1), (3, .int l3)]) C dX5_restNow_65 (by decide) rfl ?_
        refine g_iinc (pc := 66) (x := l3) (v := (l3 + 1)) (lv' := [(3, .int (l3 + 1)), (2, .int r3), (0, .ref (aM 0)), (1, .int l1)]) C dX5_restNow_66 rfl rfl (by decide) rfl ?_
        refine g_goto (pc := 69) (tgt := 4) C dX5_restNow_69 (by decide) ?_
        refine g_lv [2, 3, 1, 0] (lv' := [(0, .ref (aM 0)), (1, .int l1), (2, .int r3), (3, .int (l3 + 1))]) rfl ?_
        exact ih r1 r3 (l3 + 1) u hf hk0
def fX5_restNow (N : Nat) (v : VM) (p1 : Int32) : Option (VM × Int32) := ((lX5_restNow_4 N p1 N v 0 0).bind fun r1 => ck 4 149 (ck 4 149 (some (((upd (mRow r1.1) (Int32.toNatClampNeg 4) (((mRow r1.1) (Int32.toNatClampNeg 4)) + p1)), (mSav r1.1), (mSvn r1.1), (mSnp r1.1), (mKep r1.1), (mThr r1.1), (mFre r1.1), (mFrn r1.1), (mBuf r1.1), (mLen r1.1), (mSpt r1.1), (mNum r1.1), (mOrd r1.1), (mLet r1.1), (mFst r1.1), (mSnd r1.1), (mTok r1.1), (mLft r1.1)), r1.2))))
set_option maxRecDepth 100000 in
set_option maxHeartbeats 4000000 in
theorem wkX5_restNow {k : Kt} (C : gC k cX5_restNow 5 RX5 wsX5_restNow rmX5_restNow "restNow") (N : Nat) (aM : Nat → Nat) (v : VM) (p1 : Int32) (r : VM × Int32) (hf : fX5_restNow N v p1 = some r) (E : gE k (wM (kD k) aM v) (fun rv w => rv = some (.int r.2) ∧ w = (wM (kD k) aM r.1)) (fun _ _ => False) 0 0 (some .int) []) : gG k (wM (kD k) aM v) [(0, .ref (aM 0)), (1, .int p1)] 0 0 0 [] := by
  unfold fX5_restNow at hf
  refine g_iconst (pc := 0) (v := 0) C dX5_restNow_0 (by decide) ?_
  refine g_istore_n (pc := 1) (lv' := [(2, .int 0), (0, .ref (aM 0)), (1, .int p1)]) C dX5_restNow_1 (by decide) rfl ?_
  refine g_iconst (pc := 2) (v := 0) C dX5_restNow_2 (by decide) ?_
  refine g_istore_n (pc := 3) (lv' := [(3, .int 0), (2, .int 0), (0, .ref (aM 0)), (1, .int p1)]) C dX5_restNow_3 (by decide) rfl ?_
  obtain ⟨r1, h1, hf⟩ := bd_e hf
  refine g_lv [2, 3, 1, 0] (lv' := [(0, .ref (aM 0)), (1, .int p1), (2, .int 0), (3, .int 0)]) rfl ?_
  refine wlX5_restNow_4 C N aM p1 N v 0 0 r1 h1 ?_
  refine g_aload_n (pc := 72) (x := (aM 0)) C dX5_restNow_72 rfl ?_
  refine g_getf (pc := 73) C 0 rfl rfl inX5_restNow_X5 0 (by decide) lkX5_restNow_7 rfl rfl dX5_restNow_73 ?_
  refine g_iconst (pc := 76) (v := 4) C dX5_restNow_76 (by decide) ?_
  refine g_dup2 (pc := 77) C dX5_restNow_77 rfl rfl ?_
  refine g_iald (pc := 78) (i := 4) hf C 1 rfl dX5_restNow_78 (fun hf => ?_)
  refine g_iload_n (pc := 79) (x := p1) C dX5_restNow_79 rfl ?_
  refine g_iadd (pc := 80) (x := ((mRow r1.1) (Int32.toNatClampNeg 4))) (y := p1) C dX5_restNow_80 ?_
  refine g_iast (pc := 81) (i := 4) (x := (((mRow r1.1) (Int32.toNatClampNeg 4)) + p1)) hf C 1 rfl dX5_restNow_81 (ws' := (wM (kD k) aM ((upd (mRow r1.1) (Int32.toNatClampNeg 4) (((mRow r1.1) (Int32.toNatClampNeg 4)) + p1)), (mSav r1.1), (mSvn r1.1), (mSnp r1.1), (mKep r1.1), (mThr r1.1), (mFre r1.1), (mFrn r1.1), (mBuf r1.1), (mLen r1.1), (mSpt r1.1), (mNum r1.1), (mOrd r1.1), (mLet r1.1), (mFst r1.1), (mSnd r1.1), (mTok r1.1), (mLft r1.1)))) rfl (fun hf => ?_)
  refine g_iload_n (pc := 82) (x := r1.2) C dX5_restNow_82 rfl ?_
  obtain rfl := Option.some.inj hf
  exact g_iret (v := r1.2) C E dX5_restNow_83 (Nat.le_of_ble_eq_true rfl) (Nat.le_of_ble_eq_true rfl) ⟨rfl, rfl⟩
set_option maxRecDepth 100000 in
set_option maxHeartbeats 4000000 in
theorem cX5_restNow_ (l : Launch) (htr : l.stackTraces = false) (D : va_G) (N : Nat) (aM : Nat → Nat) (v : VM) (p1 : Int32) (r : VM × Int32) (hf : fX5_restNow N v p1 = some r) : Tc l D yX5_restNow wsX5_restNow rmX5_restNow [.ref (aM 0), .int p1] (wM D aM v) (fun rv w => rv = some (.int r.2) ∧ w = (wM D aM r.1)) (fun _ _ => False) 0 0 := Tc_of htr (by decide +kernel) rfl (Nat.le_of_ble_eq_true rfl) (fun k C E hl hD => by subst hD; exact wkX5_restNow C N aM v p1 r hf E)
abbrev rmX5_reason : Room := { frames := 3, cells := 0, slots := 0, locals := 65 }
theorem inX5_reason_X5 : ∀ w ∈ wsX50, w ∈ wsX5_reason := by decide +kernel
theorem lkX5_reason_7 : Cond.fieldLink RX5 7 "GaugeBlocksModel" (TX5 0).2.1 (TX5 0).2.2.1 ∈ wsX5_reason := by decide +kernel
theorem hdX5_reason : yX5_reason.cls = RX5 ∧ yX5_reason.cls ≠ "java/lang/invoke/MethodHandle" ∧ yX5_reason.cls ≠ "java/lang/invoke/VarHandle" ∧ (parseMethodDescriptor yX5_reason.desc).map (fun d => d.parameters.length) = some 2 := by decide +kernel
def fX5_reason (N : Nat) (v : VM) (p1 : Int32) (p2 : Int32) : Option (Int32) := ((fX5_isFree N v p2).bind fun r1 => (if r1 = true then ((fX5_height N v p1).bind fun r2 => (if r2 = (6 : Int32) then some 2 else ((fX5_of N v p2 3).bind fun r3 => ck 1 149 ((if r3 ≤ ((mRow v) (Int32.toNatClampNeg 1)) then ((fX5_grade N v p2).bind fun r4 => (if r4 = (3 : Int32) then some 4 else some 0)) else some 3))))) else some 1))
set_option maxRecDepth 100000 in
set_option maxHeartbeats 4000000 in
theorem wkX5_reason {k : Kt} (C : gC k cX5_reason 3 RX5 wsX5_reason rmX5_reason "reason") (N : Nat) (aM : Nat → Nat) (v : VM) (p1 : Int32) (p2 : Int32) (r : Int32) (hf : fX5_reason N v p1 p2 = some r) (E : gE k (wM (kD k) aM v) (fun rv w => rv = some (.int r) ∧ w = (wM (kD k) aM v)) (fun _ _ => False) 0 0 (some .int) []) : gG k (wM (kD k) aM v) [(0, .ref (aM 0)), (1, .int p1), (2, .int p2)] 0 0 0 [] := by
  unfold fX5_reason at hf
  refine g_aload_n (pc := 0) (x := (aM 0)) C dX5_reason_0 rfl ?_
  refine g_iload_n (pc := 1) (x := p2) C dX5_reason_1 rfl ?_
  refine g_callR (pc' := 5) (cs' := 0) (sl' := 0) hf C (fun u => some (.int (b2i u))) (fun u hu => gr_V (rest := []) C (cX5_isFree_ (kL k) C.tr (kD k) N aM v p2 u hu) (fun ht => cwV 1 ht gX5_reason_X5_isFree rfl rfl rfl hdX5_isFree ⟨(Nat.le_of_ble_eq_true rfl), (Nat.le_of_ble_eq_true rfl)⟩) 0 rfl rfl [0, 1, 2, 3, 4, 5, 6, 7, 8, 9] rfl (by decide) rfl rfl (Nat.le_of_ble_eq_true rfl) dX5_reason_2 ⟨(Nat.le_of_ble_eq_true rfl), (Nat.le_of_ble_eq_true rfl)⟩) [0, 1, 2, 3, 4, 5, 6, 7, 8, 9] rfl rfl rfl rfl (fun u => [.int (b2i u)]) (fun u => rfl) (fun r1 hf => ?_)
  refine g_ifB_ne (pc := 5) (tgt := 10) (b := r1) hf C dX5_reason_5 (by decide) (fun hf => ?_) (fun hf => ?_)
  · refine g_aload_n (pc := 10) (x := (aM 0)) C dX5_reason_10 rfl ?_
    refine g_iload_n (pc := 11) (x := p1) C dX5_reason_11 rfl ?_
    refine g_callR (pc' := 15) (cs' := 0) (sl' := 0) hf C (fun u => some (.int u)) (fun u hu => gr_V (rest := []) C (cX5_height_ (kL k) C.tr (kD k) N aM v p1 u hu) (fun ht => cwV 1 ht gX5_reason_X5_height rfl rfl rfl hdX5_height ⟨(Nat.le_of_ble_eq_true rfl), (Nat.le_of_ble_eq_true rfl)⟩) 0 rfl rfl [0, 1, 2, 3, 4, 5, 6, 7, 8, 9] rfl (by decide) rfl rfl (Nat.le_of_ble_eq_true rfl) dX5_reason_12 ⟨(Nat.le_of_ble_eq_true rfl), (Nat.le_of_ble_eq_true rfl)⟩) [0, 1, 2, 3, 4, 5, 6, 7, 8, 9] rfl rfl rfl rfl (fun u => [.int u]) (fun u => rfl) (fun r2 hf => ?_)
    refine g_bipush (pc := 15) (v := 6) C dX5_reason_15 (by decide) ?_
    refine g_icmp_ne (pc := 17) (tgt := 22) (x := r2) (y := 6) hf C dX5_reason_17 (by decide) (fun hf => ?_) (fun hf => ?_)
    · refine g_aload_n (pc := 22) (x := (aM 0)) C dX5_reason_22 rfl ?_
      refine g_iload_n (pc := 23) (x := p2) C dX5_reason_23 rfl ?_
      refine g_iconst (pc := 24) (v := 3) C dX5_reason_24 (by decide) ?_
      refine g_callR (pc' := 28) (cs' := 0) (sl' := 0) hf C (fun u => some (.int u)) (fun u hu => gr_V (rest := []) C (cX5_of_ (kL k) C.tr (kD k) N aM v p2 3 u hu) (fun ht => cwV 2 ht gX5_reason_X5_of rfl rfl rfl hdX5_of ⟨(Nat.le_of_ble_eq_true rfl), (Nat.le_of_ble_eq_true rfl)⟩) 0 rfl rfl [0, 1, 2, 3, 4, 5, 6, 7, 8, 9] rfl (by decide) rfl rfl (Nat.le_of_ble_eq_true rfl) dX5_reason_25 ⟨(Nat.le_of_ble_eq_true rfl), (Nat.le_of_ble_eq_true rfl)⟩) [0, 1, 2, 3, 4, 5, 6, 7, 8, 9] rfl rfl rfl rfl (fun u => [.int u]) (fun u => rfl) (fun r3 hf => ?_)
      refine g_aload_n (pc := 28) (x := (aM 0)) C dX5_reason_28 rfl ?_
      refine g_getf (pc := 29) C 0 rfl rfl inX5_reason_X5 0 (by decide) lkX5_reason_7 rfl rfl dX5_reason_29 ?_
      refine g_iconst (pc := 32) (v := 1) C dX5_reason_32 (by decide) ?_
      refine g_iald (pc := 33) (i := 1) hf C 1 rfl dX5_reason_33 (fun hf => ?_)
      refine g_icmp_le (pc := 34) (tgt := 41) (x := r3) (y := ((mRow v) (Int32.toNatClampNeg 1))) hf C dX5_reason_34 (by decide) (fun hf => ?_) (fun hf => ?_)
      · refine g_aload_n (pc := 41) (x := (aM 0)) C dX5_reason_41 rfl ?_
        refine g_iload_n (pc := 42) (x := p2) C dX5_reason_42 rfl ?_
        refine g_callR (pc' := 46) (cs' := 0) (sl' := 0) hf C (fun u => some (.int u)) (fun u hu => gr_V (rest := []) C (cX5_grade_ (kL k) C.tr (kD k) N aM v p2 u hu) (fun ht => cwV 1 ht gX5_reason_X5_grade rfl rfl rfl hdX5_grade ⟨(Nat.le_of_ble_eq_true rfl), (Nat.le_of_ble_eq_true rfl)⟩) 0 rfl rfl [0, 1, 2, 3, 4, 5, 6, 7, 8, 9] rfl (by decide) rfl rfl (Nat.le_of_ble_eq_true rfl) dX5_reason_43 ⟨(Nat.le_of_ble_eq_true rfl), (Nat.le_of_ble_eq_true rfl)⟩) [0, 1, 2, 3, 4, 5, 6, 7, 8, 9] rfl rfl rfl rfl (fun u => [.int u]) (fun u => rfl) (fun r4 hf => ?_)
        refine g_iconst (pc := 46) (v := 3) C dX5_reason_46 (by decide) ?_
        refine g_icmp_ne (pc := 47) (tgt := 54) (x := r4) (y := 3) hf C dX5_reason_47 (by decide) (fun hf => ?_) (fun hf => ?_)
        · refine g_iconst (pc := 54) (v := 0) C dX5_reason_54 (by decide) ?_
          obtain rfl := Option.some.inj hf
          exact g_iret (v := 0) C E dX5_reason_55 (Nat.le_of_ble_eq_true rfl) (Nat.le_of_ble_eq_true rfl) ⟨rfl, rfl⟩
        · refine g_iconst (pc := 50) (v := 4) C dX5_reason_50 (by decide) ?_
          refine g_goto (pc := 51) (tgt := 55) C dX5_reason_51 (by decide) ?_
          obtain rfl := Option.some.inj hf
          exact g_iret (v := 4) C E dX5_reason_55 (Nat.le_of_ble_eq_true rfl) (Nat.le_of_ble_eq_true rfl) ⟨rfl, rfl⟩
      · refine g_iconst (pc := 37) (v := 3) C dX5_reason_37 (by decide) ?_
        refine g_goto (pc := 38) (tgt := 55) C dX5_reason_38 (by decide) ?_
        obtain rfl := Option.some.inj hf
        exact g_iret (v := 3) C E dX5_reason_55 (Nat.le_of_ble_eq_true rfl) (Nat.le_of_ble_eq_true rfl) ⟨rfl, rfl⟩
    · refine g_iconst (pc := 20) (v := 2) C dX5_reason_20 (by decide) ?_
      obtain rfl := Option.some.inj hf
      exact g_iret (v := 2) C E dX5_reason_21 (Nat.le_of_ble_eq_true rfl) (Nat.le_of_ble_eq_true rfl) ⟨rfl, rfl⟩
  · refine g_iconst (pc := 8) (v := 1) C dX5_reason_8 (by decide) ?_
    obtain rfl := Option.some.inj hf
    exact g_iret (v := 1) C E dX5_reason_9 (Nat.le_of_ble_eq_true rfl) (Nat.le_of_ble_eq_true rfl) ⟨rfl, rfl⟩
set_option maxRecDepth 100000 in
set_option maxHeartbeats 4000000 in
theorem cX5_reason_ (l : Launch) (htr : l.stackTraces = false) (D : va_G) (N : Nat) (aM : Nat → Nat) (v : VM) (p1 : Int32) (p2 : Int32) (r : Int32) (hf : fX5_reason N v p1 p2 = some r) : Tc l D yX5_reason wsX5_reason rmX5_reason [.ref (aM 0), .int p1, .int p2] (wM D aM v) (fun rv w => rv = some (.int r) ∧ w = (wM D aM v)) (fun _ _ => False) 0 0 := Tc_of htr (by decide +kernel) rfl (Nat.le_of_ble_eq_true rfl) (fun k C E hl hD => by subst hD; exact wkX5_reason C N aM v p1 p2 r hf E)
abbrev rmX5_rub : Room := { frames := 2, cells := 0, slots := 0, locals := 46 }
theorem inX5_rub_X5 : ∀ w ∈ wsX50, w ∈ wsX5_rub := by decide +kernel
theorem lkX5_rub_7 : Cond.fieldLink RX5 7 "GaugeBlocksModel" (TX5 0).2.1 (TX5 0).2.2.1 ∈ wsX5_rub := by decide +kernel
theorem hdX5_rub : yX5_rub.cls = RX5 ∧ yX5_rub.cls ≠ "java/lang/invoke/MethodHandle" ∧ yX5_rub.cls ≠ "java/lang/invoke/VarHandle" ∧ (parseMethodDescriptor yX5_rub.desc).map (fun d => d.parameters.length) = some 2 := by decide +kernel
def fX5_rub (N : Nat) (v : VM) (p1 : Int32) (p2 : Int32) : Option (VM) := ck 3 149 (((fX5_warm N v p2 ((mRow v) (Int32.toNatClampNeg 3))).bind fun r1 => ((fX5_of N r1 p2 5).bind fun r2 => ((fX5_blockAt N r1 p1 (r2 - 1)).bind fun r3 => (if r3 = ((-1) : Int32) then some r1 else ((fX5_of N r1 r3 2).bind fun r4 => ck 2 149 (((fX5_put N r1 r3 2 (r4 + ((mRow r1) (Int32.toNatClampNeg 2)))).bind fun r5 => ((fX5_of N r5 p2 2).bind fun r6 => ck 2 149 (((fX5_put N r5 p2 2 (r6 + ((mRow r5) (Int32.toNatClampNeg 2)))).bind fun r7 => some r7)))))))))))
set_option maxRecDepth 100000 in
set_option maxHeartbeats 4000000 in
theorem wkX5_rub {k : Kt} (C : gC k cX5_rub 4 RX5 wsX5_rub rmX5_rub "rub") (N : Nat) (aM : Nat → Nat) (v : VM) (p1 : Int32) (p2 : Int32) (r : VM) (hf : fX5_rub N v p1 p2 = some r) (E : gE k (wM (kD k) aM v) (fun rv w => rv = none ∧ w = (wM (kD k) aM r)) (fun _ _ => False) 0 0 none []) : gG k (wM (kD k) aM v) [(0, .ref (aM 0)), (1, .int p1), (2, .int p2)] 0 0 0 [] := by
  unfold fX5_rub at hf
  refine g_aload_n (pc := 0) (x := (aM 0)) C dX5_rub_0 rfl ?_
  refine g_iload_n (pc := 1) (x := p2) C dX5_rub_1 rfl ?_
  refine g_aload_n (pc := 2) (x := (aM 0)) C dX5_rub_2 rfl ?_
  refine g_getf (pc := 3) C 0 rfl rfl inX5_rub_X5 0 (by decide) lkX5_rub_7 rfl rfl dX5_rub_3 ?_
  refine g_iconst (pc := 6) (v := 3) C dX5_rub_6 (by decide) ?_
  refine g_iald (pc := 7) (i := 3) hf C 1 rfl dX5_rub_7 (fun hf => ?_)
  refine g_callW (wr := []) (pc' := 11) (cs' := 0) (sl' := 0) hf C (fun u => none) (fun u => (wM (kD k) aM u)) (fun u hu => gr_V (rest := []) C (cX5_warm_ (kL k) C.tr (kD k) N aM v p2 ((mRow v) (Int32.toNatClampNeg 3)) u hu) (fun ht => cwV 2 ht gX5_rub_X5_warm rfl rfl rfl hdX5_warm ⟨(Nat.le_of_ble_eq_true rfl), (Nat.le_of_ble_eq_true rfl)⟩) 0 rfl rfl [0, 1, 2, 3, 4, 5, 6, 7, 8, 9] rfl (by decide) rfl rfl (Nat.le_of_ble_eq_true rfl) dX5_rub_8 ⟨(Nat.le_of_ble_eq_true rfl), (Nat.le_of_ble_eq_true rfl)⟩) [0, 1, 2, 3, 4, 5, 6, 7, 8, 9] [] rfl rfl (by decide) (by decide) [0, 1, 2, 3, 4, 5, 6, 7, 8, 9] (by decide) (ws' := fun u => (wM (kD k) aM u)) (fun u => rfl) rfl rfl rfl (fun u => []) (fun u => rfl) (fun r1 hf => ?_)
  refine g_aload_n (pc := 11) (x := (aM 0)) C dX5_rub_11 rfl ?_
  refine g_iload_n (pc := 12) (x := p1) C dX5_rub_12 rfl ?_
  refine g_aload_n (pc := 13) (x := (aM 0)) C dX5_rub_13 rfl ?_
  refine g_iload_n (pc := 14) (x := p2) C dX5_rub_14 rfl ?_
  refine g_iconst (pc := 15) (v := 5) C dX5_rub_15 (by decide) ?_
  refine g_callR (pc' := 19) (cs' := 0) (sl' := 0) hf C (fun u => some (.int u)) (fun u hu => gr_V (rest := [.int p1, .ref (aM 0)]) C (cX5_of_ (kL k) C.tr (kD k) N aM r1 p2 5 u hu) (fun ht => cwV 2 ht gX5_rub_X5_of rfl rfl rfl hdX5_of ⟨(Nat.le_of_ble_eq_true rfl), (Nat.le_of_ble_eq_true rfl)⟩) 0 rfl rfl [0, 1, 2, 3, 4, 5, 6, 7, 8, 9] rfl (by decide) rfl rfl (Nat.le_of_ble_eq_true rfl) dX5_rub_16 ⟨(Nat.le_of_ble_eq_true rfl), (Nat.le_of_ble_eq_true rfl)⟩) [0, 1, 2, 3, 4, 5, 6, 7, 8, 9] rfl rfl rfl rfl (fun u => [.int u, .int p1, .ref (aM 0)]) (fun u => rfl) (fun r2 hf => ?_)
  refine g_iconst (pc := 19) (v := 1) C dX5_rub_19 (by decide) ?_
  refine g_isub (pc := 20) (x := r2) (y := 1) C dX5_rub_20 ?_
  refine g_callR (pc' := 24) (cs' := 0) (sl' := 0) hf C (fun u => some (.int u)) (fun u hu => gr_V (rest := []) C (cX5_blockAt_ (kL k) C.tr (kD k) N aM r1 p1 (r2 - 1) u hu) (fun ht => cwV 2 ht gX5_rub_X5_blockAt rfl rfl rfl hdX5_blockAt ⟨(Nat.le_of_ble_eq_true rfl), (Nat.le_of_ble_eq_true rfl)⟩) 0 rfl rfl [0, 1, 2, 3, 4, 5, 6, 7, 8, 9] rfl (by decide) rfl rfl (Nat.le_of_ble_eq_true rfl) dX5_rub_21 ⟨(Nat.le_of_ble_eq_true rfl), (Nat.le_of_ble_eq_true rfl)⟩) [0, 1, 2, 3, 4, 5, 6, 7, 8, 9] rfl rfl rfl rfl (fun u => [.int u]) (fun u => rfl) (fun r3 hf => ?_)
  refine g_istore_n (pc := 24) (lv' := [(3, .int r3), (0, .ref (aM 0)), (1, .int p1), (2, .int p2)]) C dX5_rub_24 (by decide) rfl ?_
  refine g_iload_n (pc := 25) (x := r3) C dX5_rub_25 rfl ?_
  refine g_iconst (pc := 26) (v := (-1)) C dX5_rub_26 (by decide) ?_
  refine g_icmp_eq (pc := 27) (tgt := 68) (x := r3) (y := (-1)) hf C dX5_rub_27 (by decide) (fun hf => ?_) (fun hf => ?_)
  · obtain rfl := Option.some.inj hf
    exact g_vret C E dX5_rub_68 (Nat.le_of_ble_eq_true rfl) (Nat.le_of_ble_eq_true rfl) ⟨rfl, rfl⟩
  · refine g_aload_n (pc := 30) (x := (aM 0)) C dX5_rub_30 rfl ?_
    refine g_iload_n (pc := 31) (x := r3) C dX5_rub_31 rfl ?_
    refine g_iconst (pc := 32) (v := 2) C dX5_rub_32 (by decide) ?_
    refine g_aload_n (pc := 33) (x := (aM 0)) C dX5_rub_33 rfl ?_
    refine g_iload_n (pc := 34) (x := r3) C dX5_rub_34 rfl ?_
    refine g_iconst (pc := 35) (v := 2) C dX5_rub_35 (by decide) ?_
    refine g_callR (pc' := 39) (cs' := 0) (sl' := 0) hf C (fun u => some (.int u)) (fun u hu => gr_V (rest := [.int 2, .int r3, .ref (aM 0)]) C (cX5_of_ (kL k) C.tr (kD k) N aM r1 r3 2 u hu) (fun ht => cwV 2 ht gX5_rub_X5_of rfl rfl rfl hdX5_of ⟨(Nat.le_of_ble_eq_true rfl), (Nat.le_of_ble_eq_true rfl)⟩) 0 rfl rfl [0, 1, 2, 3, 4, 5, 6, 7, 8, 9] rfl (by decide) rfl rfl (Nat.le_of_ble_eq_true rfl) dX5_rub_36 ⟨(Nat.le_of_ble_eq_true rfl), (Nat.le_of_ble_eq_true rfl)⟩) [0, 1, 2, 3, 4, 5, 6, 7, 8, 9] rfl rfl rfl rfl (fun u => [.int u, .int 2, .int r3, .ref (aM 0)]) (fun u => rfl) (fun r4 hf => ?_)
    refine g_aload_n (pc := 39) (x := (aM 0)) C dX5_rub_39 rfl ?_
    refine g_getf (pc := 40) C 0 rfl rfl inX5_rub_X5 0 (by decide) lkX5_rub_7 rfl rfl dX5_rub_40 ?_
    refine g_iconst (pc := 43) (v := 2) C dX5_rub_43 (by decide) ?_
    refine g_iald (pc := 44) (i := 2) hf C 1 rfl dX5_rub_44 (fun hf => ?_)
    refine g_iadd (pc := 45) (x := r4) (y := ((mRow r1) (Int32.toNatClampNeg 2))) C dX5_rub_45 ?_
    refine g_callW (wr := []) (pc' := 49) (cs' := 0) (sl' := 0) hf C (fun u => none) (fun u => (wM (kD k) aM u)) (fun u hu => gr_V (rest := []) C (cX5_put_ (kL k) C.tr (kD k) N aM r1 r3 2 (r4 + ((mRow r1) (Int32.toNatClampNeg 2))) u hu) (fun ht => cwV 3 ht gX5_rub_X5_put rfl rfl rfl hdX5_put ⟨(Nat.le_of_ble_eq_true rfl), (Nat.le_of_ble_eq_true rfl)⟩) 0 rfl rfl [0, 1, 2, 3, 4, 5, 6, 7, 8, 9] rfl (by decide) rfl rfl (Nat.le_of_ble_eq_true rfl) dX5_rub_46 ⟨(Nat.le_of_ble_eq_true rfl), (Nat.le_of_ble_eq_true rfl)⟩) [0, 1, 2, 3, 4, 5, 6, 7, 8, 9] [] rfl rfl (by decide) (by decide) [0, 1, 2, 3, 4, 5, 6, 7, 8, 9] (by decide) (ws' := fun u => (wM (kD k) aM u)) (fun u => rfl) rfl rfl rfl (fun u => []) (fun u => rfl) (fun r5 hf => ?_)
    refine g_aload_n (pc := 49) (x := (aM 0)) C dX5_rub_49 rfl ?_
    refine g_iload_n (pc := 50) (x := p2) C dX5_rub_50 rfl ?_
    refine g_iconst (pc := 51) (v := 2) C dX5_rub_51 (by decide) ?_
    refine g_aload_n (pc := 52) (x := (aM 0)) C dX5_rub_52 rfl ?_
    refine g_iload_n (pc := 53) (x := p2) C dX5_rub_53 rfl ?_
    refine g_iconst (pc := 54) (v := 2) C dX5_rub_54 (by decide) ?_
    refine g_callR (pc' := 58) (cs' := 0) (sl' := 0) hf C (fun u => some (.int u)) (fun u hu => gr_V (rest := [.int 2, .int p2, .ref (aM 0)]) C (cX5_of_ (kL k) C.tr (kD k) N aM r5 p2 2 u hu) (fun ht => cwV 2 ht gX5_rub_X5_of rfl rfl rfl hdX5_of ⟨(Nat.le_of_ble_eq_true rfl), (Nat.le_of_ble_eq_true rfl)⟩) 0 rfl rfl [0, 1, 2, 3, 4, 5, 6, 7, 8, 9] rfl (by decide) rfl rfl (Nat.le_of_ble_eq_true rfl) dX5_rub_55 ⟨(Nat.le_of_ble_eq_true rfl), (Nat.le_of_ble_eq_true rfl)⟩) [0, 1, 2, 3, 4, 5, 6, 7, 8, 9] rfl rfl rfl rfl (fun u => [.int u, .int 2, .int p2, .ref (aM 0)]) (fun u => rfl) (fun r6 hf => ?_)
    refine g_aload_n (pc := 58) (x := (aM 0)) C dX5_rub_58 rfl ?_
    refine g_getf (pc := 59) C 0 rfl rfl inX5_rub_X5 0 (by decide) lkX5_rub_7 rfl rfl dX5_rub_59 ?_
    refine g_iconst (pc := 62) (v := 2) C dX5_rub_62 (by decide) ?_
    refine g_iald (pc := 63) (i := 2) hf C 1 rfl dX5_rub_63 (fun hf => ?_)
    refine g_iadd (pc := 64) (x := r6) (y := ((mRow r5) (Int32.toNatClampNeg 2))) C dX5_rub_64 ?_
    refine g_callW (wr := []) (pc' := 68) (cs' := 0) (sl' := 0) hf C (fun u => none) (fun u => (wM (kD k) aM u)) (fun u hu => gr_V (rest := []) C (cX5_put_ (kL k) C.tr (kD k) N aM r5 p2 2 (r6 + ((mRow r5) (Int32.toNatClampNeg 2))) u hu) (fun ht => cwV 3 ht gX5_rub_X5_put rfl rfl rfl hdX5_put ⟨(Nat.le_of_ble_eq_true rfl), (Nat.le_of_ble_eq_true rfl)⟩) 0 rfl rfl [0, 1, 2, 3, 4, 5, 6, 7, 8, 9] rfl (by decide) rfl rfl (Nat.le_of_ble_eq_true rfl) dX5_rub_65 ⟨(Nat.le_of_ble_eq_true rfl), (Nat.le_of_ble_eq_true rfl)⟩) [0, 1, 2, 3, 4, 5, 6, 7, 8, 9] [] rfl rfl (by decide) (by decide) [0, 1, 2, 3, 4, 5, 6, 7, 8, 9] (by decide) (ws' := fun u => (wM (kD k) aM u)) (fun u => rfl) rfl rfl rfl (fun u => []) (fun u => rfl) (fun r7 hf => ?_)
    obtain rfl := Option.some.inj hf
    exact g_vret C E dX5_rub_68 (Nat.le_of_ble_eq_true rfl) (Nat.le_of_ble_eq_true rfl) ⟨rfl, rfl⟩
set_option maxRecDepth 100000 in
set_option maxHeartbeats 4000000 in
theorem cX5_rub_ (l : Launch) (htr : l.stackTraces = false) (D : va_G) (N : Nat) (aM : Nat → Nat) (v : VM) (p1 : Int32) (p2 : Int32) (r : VM) (hf : fX5_rub N v p1 p2 = some r) : Tc l D yX5_rub wsX5_rub rmX5_rub [.ref (aM 0), .int p1, .int p2] (wM D aM v) (fun rv w => rv = none ∧ w = (wM D aM r)) (fun _ _ => False) 0 0 := Tc_of htr (by decide +kernel) rfl (Nat.le_of_ble_eq_true rfl) (fun k C E hl hD => by subst hD; exact wkX5_rub C N aM v p1 p2 r hf E)
abbrev rmX5_wringNow : Room := { frames := 4, cells := 0, slots := 0, locals := 87 }
theorem inX5_wringNow_X5 : ∀ w ∈ wsX50, w ∈ wsX5_wringNow := by decide +kernel
theorem lkX5_wringNow_7 : Cond.fieldLink RX5 7 "GaugeBlocksModel" (TX5 0).2.1 (TX5 0).2.2.1 ∈ wsX5_wringNow := by decide +kernel
theorem hdX5_wringNow : yX5_wringNow.cls = RX5 ∧ yX5_wringNow.cls ≠ "java/lang/invoke/MethodHandle" ∧ yX5_wringNow.cls ≠ "java/lang/invoke/VarHandle" ∧ (parseMethodDescriptor yX5_wringNow.desc).map (fun d => d.parameters.length) = some 2 := by decide +kernel
def fX5_wringNow (N : Nat) (v : VM) (p1 : Int32) (p2 : Int32) : Option (VM × Int32) := ((fX5_reason N v p1 p2).bind fun r1 => (if r1 ≤ (0 : Int32) then ((fX5_height N v p1).bind fun r2 => ((fX5_put N v p2 5 r2).bind fun r3 => ((fX5_put N r3 p2 4 p1).bind fun r4 => ((fX5_rub N r4 p1 p2).bind fun r5 => ((fX5_of N r5 p2 6).bind fun r6 => ((fX5_put N r5 p2 6 (r6 + 1)).bind fun r7 => ck 5 149 (ck 5 149 (some (((upd (mRow r7) (Int32.toNatClampNeg 5) (((mRow r7) (Int32.toNatClampNeg 5)) + 1)), (mSav r7), (mSvn r7), (mSnp r7), (mKep r7), (mThr r7), (mFre r7), (mFrn r7), (mBuf r7), (mLen r7), (mSpt r7), (mNum r7), (mOrd r7), (mLet r7), (mFst r7), (mSnd r7), (mTok r7), (mLft r7)), 0))))))))) else ck 7 149 (ck 7 149 (some (((upd (mRow v) (Int32.toNatClampNeg 7) (((mRow v) (Int32.toNatClampNeg 7)) + 1)), (mSav v), (mSvn v), (mSnp v), (mKep v), (mThr v), (mFre v), (mFrn v), (mBuf v), (mLen v), (mSpt v), (mNum v), (mOrd v), (mLet v), (mFst v), (mSnd v), (mTok v), (mLft v)), r1)))))
set_option maxRecDepth 100000 in
set_option maxHeartbeats 4000000 in
theorem wkX5_wringNow {k : Kt} (C : gC k cX5_wringNow 4 RX5 wsX5_wringNow rmX5_wringNow "wringNow") (N : Nat) (aM : Nat → Nat) (v : VM) (p1 : Int32) (p2 : Int32) (r : VM × Int32) (hf : fX5_wringNow N v p1 p2 = some r) (E : gE k (wM (kD k) aM v) (fun rv w => rv = some (.int r.2) ∧ w = (wM (kD k) aM r.1)) (fun _ _ => False) 0 0 (some .int) []) : gG k (wM (kD k) aM v) [(0, .ref (aM 0)), (1, .int p1), (2, .int p2)] 0 0 0 [] := by
  unfold fX5_wringNow at hf
  refine g_aload_n (pc := 0) (x := (aM 0)) C dX5_wringNow_0 rfl ?_
  refine g_iload_n (pc := 1) (x := p1) C dX5_wringNow_1 rfl ?_
  refine g_iload_n (pc := 2) (x := p2) C dX5_wringNow_2 rfl ?_
  refine g_callR (pc' := 6) (cs' := 0) (sl' := 0) hf C (fun u => some (.int u)) (fun u hu => gr_V (rest := []) C (cX5_reason_ (kL k) C.tr (kD k) N aM v p1 p2 u hu) (fun ht => cwV 2 ht gX5_wringNow_X5_reason rfl rfl rfl hdX5_reason ⟨(Nat.le_of_ble_eq_true rfl), (Nat.le_of_ble_eq_true rfl)⟩) 0 rfl rfl [0, 1, 2, 3, 4, 5, 6, 7, 8, 9] rfl (by decide) rfl rfl (Nat.le_of_ble_eq_true rfl) dX5_wringNow_3 ⟨(Nat.le_of_ble_eq_true rfl), (Nat.le_of_ble_eq_true rfl)⟩) [0, 1, 2, 3, 4, 5, 6, 7, 8, 9] rfl rfl rfl rfl (fun u => [.int u]) (fun u => rfl) (fun r1 hf => ?_)
  refine g_istore_n (pc := 6) (lv' := [(3, .int r1), (0, .ref (aM 0)), (1, .int p1), (2, .int p2)]) C dX5_wringNow_6 (by decide) rfl ?_
  refine g_iload_n (pc := 7) (x := r1) C dX5_wringNow_7 rfl ?_
  refine g_if_le (pc := 8) (tgt := 24) (x := r1) hf C dX5_wringNow_8 (by decide) (fun hf => ?_) (fun hf => ?_)
  · refine g_aload_n (pc := 24) (x := (aM 0)) C dX5_wringNow_24 rfl ?_
    refine g_iload_n (pc := 25) (x := p2) C dX5_wringNow_25 rfl ?_
    refine g_iconst (pc := 26) (v := 5) C dX5_wringNow_26 (by decide) ?_
    refine g_aload_n (pc := 27) (x := (aM 0)) C dX5_wringNow_27 rfl ?_
    refine g_iload_n (pc := 28) (x := p1) C dX5_wringNow_28 rfl ?_
    refine g_callR (pc' := 32) (cs' := 0) (sl' := 0) hf C (fun u => some (.int u)) (fun u hu => gr_V (rest := [.int 5, .int p2, .ref (aM 0)]) C (cX5_height_ (kL k) C.tr (kD k) N aM v p1 u hu) (fun ht => cwV 1 ht gX5_wringNow_X5_height rfl rfl rfl hdX5_height ⟨(Nat.le_of_ble_eq_true rfl), (Nat.le_of_ble_eq_true rfl)⟩) 0 rfl rfl [0, 1, 2, 3, 4, 5, 6, 7, 8, 9] rfl (by decide) rfl rfl (Nat.le_of_ble_eq_true rfl) dX5_wringNow_29 ⟨(Nat.le_of_ble_eq_true rfl), (Nat.le_of_ble_eq_true rfl)⟩) [0, 1, 2, 3, 4, 5, 6, 7, 8, 9] rfl rfl rfl rfl (fun u => [.int u, .int 5, .int p2, .ref (aM 0)]) (fun u => rfl) (fun r2 hf => ?_)
    refine g_callW (wr := []) (pc' := 35) (cs' := 0) (sl' := 0) hf C (fun u => none) (fun u => (wM (kD k) aM u)) (fun u hu => gr_V (rest := []) C (cX5_put_ (kL k) C.tr (kD k) N aM v p2 5 r2 u hu) (fun ht => cwV 3 ht gX5_wringNow_X5_put rfl rfl rfl hdX5_put ⟨(Nat.le_of_ble_eq_true rfl), (Nat.le_of_ble_eq_true rfl)⟩) 0 rfl rfl [0, 1, 2, 3, 4, 5, 6, 7, 8, 9] rfl (by decide) rfl rfl (Nat.le_of_ble_eq_true rfl) dX5_wringNow_32 ⟨(Nat.le_of_ble_eq_true rfl), (Nat.le_of_ble_eq_true rfl)⟩) [0, 1, 2, 3, 4, 5, 6, 7, 8, 9] [] rfl rfl (by decide) (by decide) [0, 1, 2, 3, 4, 5, 6, 7, 8, 9] (by decide) (ws' := fun u => (wM (kD k) aM u)) (fun u => rfl) rfl rfl rfl (fun u => []) (fun u => rfl) (fun r3 hf => ?_)
    refine g_aload_n (pc := 35) (x := (aM 0)) C dX5_wringNow_35 rfl ?_
    refine g_iload_n (pc := 36) (x := p2) C dX5_wringNow_36 rfl ?_
    refine g_iconst (pc := 37) (v := 4) C dX5_wringNow_37 (by decide) ?_
    refine g_iload_n (pc := 38) (x := p1) C dX5_wringNow_38 rfl ?_
    refine g_callW (wr := []) (pc' := 42) (cs' := 0) (sl' := 0) hf C (fun u => none) (fun u => (wM (kD k) aM u)) (fun u hu => gr_V (rest := []) C (cX5_put_ (kL k) C.tr (kD k) N aM r3 p2 4 p1 u hu) (fun ht => cwV 3 ht gX5_wringNow_X5_put rfl rfl rfl hdX5_put ⟨(Nat.le_of_ble_eq_true rfl), (Nat.le_of_ble_eq_true rfl)⟩) 0 rfl rfl [0, 1, 2, 3, 4, 5, 6, 7, 8, 9] rfl (by decide) rfl rfl (Nat.le_of_ble_eq_true rfl) dX5_wringNow_39 ⟨(Nat.le_of_ble_eq_true rfl), (Nat.le_of_ble_eq_true rfl)⟩) [0, 1, 2, 3, 4, 5, 6, 7, 8, 9] [] rfl rfl (by decide) (by decide) [0, 1, 2, 3, 4, 5, 6, 7, 8, 9] (by decide) (ws' := fun u => (wM (kD k) aM u)) (fun u => rfl) rfl rfl rfl (fun u => []) (fun u => rfl) (fun r4 hf => ?_)
    refine g_aload_n (pc := 42) (x := (aM 0)) C dX5_wringNow_42 rfl ?_
    refine g_iload_n (pc := 43) (x := p1) C dX5_wringNow_43 rfl ?_
    refine g_iload_n (pc := 44) (x := p2) C dX5_wringNow_44 rfl ?_
    refine g_callW (wr := []) (pc' := 48) (cs' := 0) (sl' := 0) hf C (fun u => none) (fun u => (wM (kD k) aM u)) (fun u hu => gr_V (rest := []) C (cX5_rub_ (kL k) C.tr (kD k) N aM r4 p1 p2 u hu) (fun ht => cwV 2 ht gX5_wringNow_X5_rub rfl rfl rfl hdX5_rub ⟨(Nat.le_of_ble_eq_true rfl), (Nat.le_of_ble_eq_true rfl)⟩) 0 rfl rfl [0, 1, 2, 3, 4, 5, 6, 7, 8, 9] rfl (by decide) rfl rfl (Nat.le_of_ble_eq_true rfl) dX5_wringNow_45 ⟨(Nat.le_of_ble_eq_true rfl), (Nat.le_of_ble_eq_true rfl)⟩) [0, 1, 2, 3, 4, 5, 6, 7, 8, 9] [] rfl rfl (by decide) (by decide) [0, 1, 2, 3, 4, 5, 6, 7, 8, 9] (by decide) (ws' := fun u => (wM (kD k) aM u)) (fun u => rfl) rfl rfl rfl (fun u => []) (fun u => rfl) (fun r5 hf => ?_)
    refine g_aload_n (pc := 48) (x := (aM 0)) C dX5_wringNow_48 rfl ?_
    refine g_iload_n (pc := 49) (x := p2) C dX5_wringNow_49 rfl ?_
    refine g_bipush (pc := 50) (v := 6) C dX5_wringNow_50 (by decide) ?_
    refine g_aload_n (pc := 52) (x := (aM 0)) C dX5_wringNow_52 rfl ?_
    refine g_iload_n (pc := 53) (x := p2) C dX5_wringNow_53 rfl ?_
    refine g_bipush (pc := 54) (v := 6) C dX5_wringNow_54 (by decide) ?_
    refine g_callR (pc' := 59) (cs' := 0) (sl' := 0) hf C (fun u => some (.int u)) (fun u hu => gr_V (rest := [.int 6, .int p2, .ref (aM 0)]) C (cX5_of_ (kL k) C.tr (kD k) N aM r5 p2 6 u hu) (fun ht => cwV 2 ht gX5_wringNow_X5_of rfl rfl rfl hdX5_of ⟨(Nat.le_of_ble_eq_true rfl), (Nat.le_of_ble_eq_true rfl)⟩) 0 rfl rfl [0, 1, 2, 3, 4, 5, 6, 7, 8, 9] rfl (by decide) rfl rfl (Nat.le_of_ble_eq_true rfl) dX5_wringNow_56 ⟨(Nat.le_of_ble_eq_true rfl), (Nat.le_of_ble_eq_true rfl)⟩) [0, 1, 2, 3, 4, 5, 6, 7, 8, 9] rfl rfl rfl rfl (fun u => [.int u, .int 6, .int p2, .ref (aM 0)]) (fun u => rfl) (fun r6 hf => ?_)
    refine g_iconst (pc := 59) (v := 1) C dX5_wringNow_59 (by decide) ?_
    refine g_iadd (pc := 60) (x := r6) (y := 1) C dX5_wringNow_60 ?_
    refine g_callW (wr := []) (pc' := 64) (cs' := 0) (sl' := 0) hf C (fun u => none) (fun u => (wM (kD k) aM u)) (fun u hu => gr_V (rest := []) C (cX5_put_ (kL k) C.tr (kD k) N aM r5 p2 6 (r6 + 1) u hu) (fun ht => cwV 3 ht gX5_wringNow_X5_put rfl rfl rfl hdX5_put ⟨(Nat.le_of_ble_eq_true rfl), (Nat.le_of_ble_eq_true rfl)⟩) 0 rfl rfl [0, 1, 2, 3, 4, 5, 6, 7, 8, 9] rfl (by decide) rfl rfl (Nat.le_of_ble_eq_true rfl) dX5_wringNow_61 ⟨(Nat.le_of_ble_eq_true rfl), (Nat.le_of_ble_eq_true rfl)⟩) [0, 1, 2, 3, 4, 5, 6, 7, 8, 9] [] rfl rfl (by decide) (by decide) [0, 1, 2, 3, 4, 5, 6, 7, 8, 9] (by decide) (ws' := fun u => (wM (kD k) aM u)) (fun u => rfl) rfl rfl rfl (fun u => []) (fun u => rfl) (fun r7 hf => ?_)
    refine g_aload_n (pc := 64) (x := (aM 0)) C dX5_wringNow_64 rfl ?_
    refine g_getf (pc := 65) C 0 rfl rfl inX5_wringNow_X5 0 (by decide) lkX5_wringNow_7 rfl rfl dX5_wringNow_65 ?_
    refine g_iconst (pc := 68) (v := 5) C dX5_wringNow_68 (by decide) ?_
    refine g_dup2 (pc := 69) C dX5_wringNow_69 rfl rfl ?_
    refine g_iald (pc := 70) (i := 5) hf C 1 rfl dX5_wringNow_70 (fun hf => ?_)
    refine g_iconst (pc := 71) (v := 1) C dX5_wringNow_71 (by decide) ?_
    refine g_iadd (pc := 72) (x := ((mRow r7) (Int32.toNatClampNeg 5))) (y := 1) C dX5_wringNow_72 ?_
    refine g_iast (pc := 73) (i := 5) (x := (((mRow r7) (Int32.toNatClampNeg 5)) + 1)) hf C 1 rfl dX5_wringNow_73 (ws' := (wM (kD k) aM ((upd (mRow r7) (Int32.toNatClampNeg 5) (((mRow r7) (Int32.toNatClampNeg 5)) + 1)), (mSav r7), (mSvn r7), (mSnp r7), (mKep r7), (mThr r7), (mFre r7), (mFrn r7), (mBuf r7), (mLen r7), (mSpt r7), (mNum r7), (mOrd r7), (mLet r7), (mFst r7), (mSnd r7), (mTok r7), (mLft r7)))) rfl (fun hf => ?_)
    refine g_iconst (pc := 74) (v := 0) C dX5_wringNow_74 (by decide) ?_
    obtain rfl := Option.some.inj hf
    exact g_iret (v := 0) C E dX5_wringNow_75 (Nat.le_of_ble_eq_true rfl) (Nat.le_of_ble_eq_true rfl) ⟨rfl, rfl⟩
  · refine g_aload_n (pc := 11) (x := (aM 0)) C dX5_wringNow_11 rfl ?_
    refine g_getf (pc := 12) C 0 rfl rfl inX5_wringNow_X5 0 (by decide) lkX5_wringNow_7 rfl rfl dX5_wringNow_12 ?_
    refine g_bipush (pc := 15) (v := 7) C dX5_wringNow_15 (by decide) ?_
    refine g_dup2 (pc := 17) C dX5_wringNow_17 rfl rfl ?_
    refine g_iald (pc := 18) (i := 7) hf C 1 rfl dX5_wringNow_18 (fun hf => ?_)
    refine g_iconst (pc := 19) (v := 1) C dX5_wringNow_19 (by decide) ?_
    refine g_iadd (pc := 20) (x := ((mRow v) (Int32.toNatClampNeg 7))) (y := 1) C dX5_wringNow_20 ?_
    refine g_iast (pc := 21) (i := 7) (x := (((mRow v) (Int32.toNatClampNeg 7)) + 1)) hf C 1 rfl dX5_wringNow_21 (ws' := (wM (kD k) aM ((upd (mRow v) (Int32.toNatClampNeg 7) (((mRow v) (Int32.toNatClampNeg 7)) + 1)), (mSav v), (mSvn v), (mSnp v), (mKep v), (mThr v), (mFre v), (mFrn v), (mBuf v), (mLen v), (mSpt v), (mNum v), (mOrd v), (mLet v), (mFst v), (mSnd v), (mTok v), (mLft v)))) rfl (fun hf => ?_)
    refine g_iload_n (pc := 22) (x := r1) C dX5_wringNow_22 rfl ?_
    obtain rfl := Option.some.inj hf
    exact g_iret (v := r1) C E dX5_wringNow_23 (Nat.le_of_ble_eq_true rfl) (Nat.le_of_ble_eq_true rfl) ⟨rfl, rfl⟩
set_option maxRecDepth 100000 in
set_option maxHeartbeats 4000000 in
theorem cX5_wringNow_ (l : Launch) (htr : l.stackTraces = false) (D : va_G) (N : Nat) (aM : Nat → Nat) (v : VM) (p1 : Int32) (p2 : Int32) (r : VM × Int32) (hf : fX5_wringNow N v p1 p2 = some r) : Tc l D yX5_wringNow wsX5_wringNow rmX5_wringNow [.ref (aM 0), .int p1, .int p2] (wM D aM v) (fun rv w => rv = some (.int r.2) ∧ w = (wM D aM r.1)) (fun _ _ => False) 0 0 := Tc_of htr (by decide +kernel) rfl (Nat.le_of_ble_eq_true rfl) (fun k C E hl hD => by subst hD; exact wkX5_wringNow C N aM v p1 p2 r hf E)
abbrev rmX5_takeNow : Room := { frames := 3, cells := 0, slots := 0, locals := 69 }
theorem inX5_takeNow_X5 : ∀ w ∈ wsX50, w ∈ wsX5_takeNow := by decide +kernel
theorem lkX5_takeNow_7 : Cond.fieldLink RX5 7 "GaugeBlocksModel" (TX5 0).2.1 (TX5 0).2.2.1 ∈ wsX5_takeNow := by decide +kernel
theorem hdX5_takeNow : yX5_takeNow.cls = RX5 ∧ yX5_takeNow.cls ≠ "java/lang/invoke/MethodHandle" ∧ yX5_takeNow.cls ≠ "java/lang/invoke/VarHandle" ∧ (parseMethodDescriptor yX5_takeNow.desc).map (fun d => d.parameters.length) = some 1 := by decide +kernel
def fX5_takeNow (N : Nat) (v : VM) (p1 : Int32) : Option (VM × Int32) := ((fX5_height N v p1).bind fun r1 => ((fX5_blockAt N v p1 (r1 - 1)).bind fun r2 => ((fX5_rub N v p1 r2).bind fun r3 => ((fX5_put N r3 r2 4 (-1)).bind fun r4 => ((fX5_put N r4 r2 5 (-1)).bind fun r5 => ck 6 149 (ck 6 149 (some (((upd (mRow r5) (Int32.toNatClampNeg 6) (((mRow r5) (Int32.toNatClampNeg 6)) + 1)), (mSav r5), (mSvn r5), (mSnp r5), (mKep r5), (mThr r5), (mFre r5), (mFrn r5), (mBuf r5), (mLen r5), (mSpt r5), (mNum r5), (mOrd r5), (mLet r5), (mFst r5), (mSnd r5), (mTok r5), (mLft r5)), r2))))))))
set_option maxRecDepth 100000 in
set_option maxHeartbeats 4000000 in
theorem wkX5_takeNow {k : Kt} (C : gC k cX5_takeNow 3 RX5 wsX5_takeNow rmX5_takeNow "takeNow") (N : Nat) (aM : Nat → Nat) (v : VM) (p1 : Int32) (r : VM × Int32) (hf : fX5_takeNow N v p1 = some r) (E : gE k (wM (kD k) aM v) (fun rv w => rv = some (.int r.2) ∧ w = (wM (kD k) aM r.1)) (fun _ _ => False) 0 0 (some .int) []) : gG k (wM (kD k) aM v) [(0, .ref (aM 0)), (1, .int p1)] 0 0 0 [] := by
  unfold fX5_takeNow at hf
  refine g_aload_n (pc := 0) (x := (aM 0)) C dX5_takeNow_0 rfl ?_
  refine g_iload_n (pc := 1) (x := p1) C dX5_takeNow_1 rfl ?_
  refine g_aload_n (pc := 2) (x := (aM 0)) C dX5_takeNow_2 rfl ?_
  refine g_iload_n (pc := 3) (x := p1) C dX5_takeNow_3 rfl ?_
  refine g_callR (pc' := 7) (cs' := 0) (sl' := 0) hf C (fun u => some (.int u)) (fun u hu => gr_V (rest := [.int p1, .ref (aM 0)]) C (cX5_height_ (kL k) C.tr (kD k) N aM v p1 u hu) (fun ht => cwV 1 ht gX5_takeNow_X5_height rfl rfl rfl hdX5_height ⟨(Nat.le_of_ble_eq_true rfl), (Nat.le_of_ble_eq_true rfl)⟩) 0 rfl rfl [0, 1, 2, 3, 4, 5, 6, 7, 8, 9] rfl (by decide) rfl rfl (Nat.le_of_ble_eq_true rfl) dX5_takeNow_4 ⟨(Nat.le_of_ble_eq_true rfl), (Nat.le_of_ble_eq_true rfl)⟩) [0, 1, 2, 3, 4, 5, 6, 7, 8, 9] rfl rfl rfl rfl (fun u => [.int u, .int p1, .ref (aM 0)]) (fun u => rfl) (fun r1 hf => ?_)
  refine g_iconst (pc := 7) (v := 1) C dX5_takeNow_7 (by decide) ?_
  refine g_isub (pc := 8) (x := r1) (y := 1) C dX5_takeNow_8 ?_
  refine g_callR (pc' := 12) (cs' := 0) (sl' := 0) hf C (fun u => some (.int u)) (fun u hu => gr_V (rest := []) C (cX5_blockAt_ (kL k) C.tr (kD k) N aM v p1 (r1 - 1) u hu) (fun ht => cwV 2 ht gX5_takeNow_X5_blockAt rfl rfl rfl hdX5_blockAt ⟨(Nat.le_of_ble_eq_true rfl), (Nat.le_of_ble_eq_true rfl)⟩) 0 rfl rfl [0, 1, 2, 3, 4, 5, 6, 7, 8, 9] rfl (by decide) rfl rfl (Nat.le_of_ble_eq_true rfl) dX5_takeNow_9 ⟨(Nat.le_of_ble_eq_true rfl), (Nat.le_of_ble_eq_true rfl)⟩) [0, 1, 2, 3, 4, 5, 6, 7, 8, 9] rfl rfl rfl rfl (fun u => [.int u]) (fun u => rfl) (fun r2 hf => ?_)
  refine g_istore_n (pc := 12) (lv' := [(2, .int r2), (0, .ref (aM 0)), (1, .int p1)]) C dX5_takeNow_12 (by decide) rfl ?_
  refine g_aload_n (pc := 13) (x := (aM 0)) C dX5_takeNow_13 rfl ?_
  refine g_iload_n (pc := 14) (x := p1) C dX5_takeNow_14 rfl ?_
  refine g_iload_n (pc := 15) (x := r2) C dX5_takeNow_15 rfl ?_
  refine g_callW (wr := []) (pc' := 19) (cs' := 0) (sl' := 0) hf C (fun u => none) (fun u => (wM (kD k) aM u)) (fun u hu => gr_V (rest := []) C (cX5_rub_ (kL k) C.tr (kD k) N aM v p1 r2 u hu) (fun ht => cwV 2 ht gX5_takeNow_X5_rub rfl rfl rfl hdX5_rub ⟨(Nat.le_of_ble_eq_true rfl), (Nat.le_of_ble_eq_true rfl)⟩) 0 rfl rfl [0, 1, 2, 3, 4, 5, 6, 7, 8, 9] rfl (by decide) rfl rfl (Nat.le_of_ble_eq_true rfl) dX5_takeNow_16 ⟨(Nat.le_of_ble_eq_true rfl), (Nat.le_of_ble_eq_true rfl)⟩) [0, 1, 2, 3, 4, 5, 6, 7, 8, 9] [] rfl rfl (by decide) (by decide) [0, 1, 2, 3, 4, 5, 6, 7, 8, 9] (by decide) (ws' := fun u => (wM (kD k) aM u)) (fun u => rfl) rfl rfl rfl (fun u => []) (fun u => rfl) (fun r3 hf => ?_)
  refine g_aload_n (pc := 19) (x := (aM 0)) C dX5_takeNow_19 rfl ?_
  refine g_iload_n (pc := 20) (x := r2) C dX5_takeNow_20 rfl ?_
  refine g_iconst (pc := 21) (v := 4) C dX5_takeNow_21 (by decide) ?_
  refine g_iconst (pc := 22) (v := (-1)) C dX5_takeNow_22 (by decide) ?_
  refine g_callW (wr := []) (pc' := 26) (cs' := 0) (sl' := 0) hf C (fun u => none) (fun u => (wM (kD k) aM u)) (fun u hu => gr_V (rest := []) C (cX5_put_ (kL k) C.tr (kD k) N aM r3 r2 4 (-1) u hu) (fun ht => cwV 3 ht gX5_takeNow_X5_put rfl rfl rfl hdX5_put ⟨(Nat.le_of_ble_eq_true rfl), (Nat.le_of_ble_eq_true rfl)⟩) 0 rfl rfl [0, 1, 2, 3, 4, 5, 6, 7, 8, 9] rfl (by decide) rfl rfl (Nat.le_of_ble_eq_true rfl) dX5_takeNow_23 ⟨(Nat.le_of_ble_eq_true rfl), (Nat.le_of_ble_eq_true rfl)⟩) [0, 1, 2, 3, 4, 5, 6, 7, 8, 9] [] rfl rfl (by decide) (by decide) [0, 1, 2, 3, 4, 5, 6, 7, 8, 9] (by decide) (ws' := fun u => (wM (kD k) aM u)) (fun u => rfl) rfl rfl rfl (fun u => []) (fun u => rfl) (fun r4 hf => ?_)
  refine g_aload_n (pc := 26) (x := (aM 0)) C dX5_takeNow_26 rfl ?_
  refine g_iload_n (pc := 27) (x := r2) C dX5_takeNow_27 rfl ?_
  refine g_iconst (pc := 28) (v := 5) C dX5_takeNow_28 (by decide) ?_
  refine g_iconst (pc := 29) (v := (-1)) C dX5_takeNow_29 (by decide) ?_
  refine g_callW (wr := []) (pc' := 33) (cs' := 0) (sl' := 0) hf C (fun u => none) (fun u => (wM (kD k) aM u)) (fun u hu => gr_V (rest := []) C (cX5_put_ (kL k) C.tr (kD k) N aM r4 r2 5 (-1) u hu) (fun ht => cwV 3 ht gX5_takeNow_X5_put rfl rfl rfl hdX5_put ⟨(Nat.le_of_ble_eq_true rfl), (Nat.le_of_ble_eq_true rfl)⟩) 0 rfl rfl [0, 1, 2, 3, 4, 5, 6, 7, 8, 9] rfl (by decide) rfl rfl (Nat.le_of_ble_eq_true rfl) dX5_takeNow_30 ⟨(Nat.le_of_ble_eq_true rfl), (Nat.le_of_ble_eq_true rfl)⟩) [0, 1, 2, 3, 4, 5, 6, 7, 8, 9] [] rfl rfl (by decide) (by decide) [0, 1, 2, 3, 4, 5, 6, 7, 8, 9] (by decide) (ws' := fun u => (wM (kD k) aM u)) (fun u => rfl) rfl rfl rfl (fun u => []) (fun u => rfl) (fun r5 hf => ?_)
  refine g_aload_n (pc := 33) (x := (aM 0)) C dX5_takeNow_33 rfl ?_
  refine g_getf (pc := 34) C 0 rfl rfl inX5_takeNow_X5 0 (by decide) lkX5_takeNow_7 rfl rfl dX5_takeNow_34 ?_
  refine g_bipush (pc := 37) (v := 6) C dX5_takeNow_37 (by decide) ?_
  refine g_dup2 (pc := 39) C dX5_takeNow_39 rfl rfl ?_
  refine g_iald (pc := 40) (i := 6) hf C 1 rfl dX5_takeNow_40 (fun hf => ?_)
  refine g_iconst (pc := 41) (v := 1) C dX5_takeNow_41 (by decide) ?_
  refine g_iadd (pc := 42) (x := ((mRow r5) (Int32.toNatClampNeg 6))) (y := 1) C dX5_takeNow_42 ?_
  refine g_iast (pc := 43) (i := 6) (x := (((mRow r5) (Int32.toNatClampNeg 6)) + 1)) hf C 1 rfl dX5_takeNow_43 (ws' := (wM (kD k) aM ((upd (mRow r5) (Int32.toNatClampNeg 6) (((mRow r5) (Int32.toNatClampNeg 6)) + 1)), (mSav r5), (mSvn r5), (mSnp r5), (mKep r5), (mThr r5), (mFre r5), (mFrn r5), (mBuf r5), (mLen r5), (mSpt r5), (mNum r5), (mOrd r5), (mLet r5), (mFst r5), (mSnd r5), (mTok r5), (mLft r5)))) rfl (fun hf => ?_)
  refine g_iload_n (pc := 44) (x := r2) C dX5_takeNow_44 rfl ?_
  obtain rfl := Option.some.inj hf
  exact g_iret (v := r2) C E dX5_takeNow_45 (Nat.le_of_ble_eq_true rfl) (Nat.le_of_ble_eq_true rfl) ⟨rfl, rfl⟩
set_option maxRecDepth 100000 in
set_option maxHeartbeats 4000000 in
theorem cX5_takeNow_ (l : Launch) (htr : l.stackTraces = false) (D : va_G) (N : Nat) (aM : Nat → Nat) (v : VM) (p1 : Int32) (r : VM × Int32) (hf : fX5_takeNow N v p1 = some r) : Tc l D yX5_takeNow wsX5_takeNow rmX5_takeNow [.ref (aM 0), .int p1] (wM D aM v) (fun rv w => rv = some (.int r.2) ∧ w = (wM D aM r.1)) (fun _ _ => False) 0 0 := Tc_of htr (by decide +kernel) rfl (Nat.le_of_ble_eq_true rfl) (fun k C E hl hD => by subst hD; exact wkX5_takeNow C N aM v p1 r hf E)
abbrev rmX5_lookForFree : Room := { frames := 2, cells := 0, slots := 0, locals := 43 }
theorem inX5_lookForFree_X5 : ∀ w ∈ wsX50, w ∈ wsX5_lookForFree := by decide +kernel
theorem lkX5_lookForFree_97 : Cond.fieldLink RX5 97 "GaugeBlocksModel" (TX5 7).2.1 (TX5 7).2.2.1 ∈ wsX5_lookForFree := by decide +kernel
theorem lkX5_lookForFree_7 : Cond.fieldLink RX5 7 "GaugeBlocksModel" (TX5 0).2.1 (TX5 0).2.2.1 ∈ wsX5_lookForFree := by decide +kernel
theorem lkX5_lookForFree_23 : Cond.fieldLink RX5 23 "GaugeBlocksModel" (TX5 6).2.1 (TX5 6).2.2.1 ∈ wsX5_lookForFree := by decide +kernel
theorem hdX5_lookForFree : yX5_lookForFree.cls = RX5 ∧ yX5_lookForFree.cls ≠ "java/lang/invoke/MethodHandle" ∧ yX5_lookForFree.cls ≠ "java/lang/invoke/VarHandle" ∧ (parseMethodDescriptor yX5_lookForFree.desc).map (fun d => d.parameters.length) = some 0 := by decide +kernel
def lX5_lookForFree_7 (N : Nat)  : Nat → VM → Int32 → Option ((VM))
  | 0, _, _ => none
  | n + 1, v, l1 => ck 8 149 ((if ((mRow v) (Int32.toNatClampNeg 8)) ≤ l1 then some v else ((fX5_isFree N v l1).bind fun r1 => (if r1 = true then ck (mFrn v) 20 ((lX5_lookForFree_7 N n ((mRow v), (mSav v), (mSvn v), (mSnp v), (mKep v), (mThr v), (upd (mFre v) (Int32.toNatClampNeg (mFrn v)) l1), ((mFrn v) + 1), (mBuf v), (mLen v), (mSpt v), (mNum v), (mOrd v), (mLet v), (mFst v), (mSnd v), (mTok v), (mLft v)) (l1 + 1))) else (lX5_lookForFree_7 N n v (l1 + 1))))))
set_option maxRecDepth 100000 in
set_option maxHeartbeats 4000000 in
theorem wlX5_lookForFree_7 {k : Kt} (C : gC k cX5_lookForFree 2 RX5 wsX5_lookForFree rmX5_lookForFree "lookForFree") (N : Nat) (aM : Nat → Nat) : ∀ (n : Nat) (v : VM) (l1 : Int32) (u : (VM)) (hf : lX5_lookForFree_7 N n v l1 = some u) (hk0 : gG k (wM (kD k) aM u) [] 0 0 52 []), gG k (wM (kD k) aM v) [(0, .ref (aM 0)), (1, .int l1)] 0 0 7 [] := by
  intro n
  induction n with
  | zero => intro v l1 u hf hk0; rw [lX5_lookForFree_7] at hf; cases hf
  | succ n ih =>
    intro v l1 u hf hk0
    rw [lX5_lookForFree_7] at hf
    refine g_iload_n (pc := 7) (x := l1) C dX5_lookForFree_7 rfl ?_
    refine g_aload_n (pc := 8) (x := (aM 0)) C dX5_lookForFree_8 rfl ?_
    refine g_getf (pc := 9) C 0 rfl rfl inX5_lookForFree_X5 0 (by decide) lkX5_lookForFree_7 rfl rfl dX5_lookForFree_9 ?_
    refine g_bipush (pc := 12) (v := 8) C dX5_lookForFree_12 (by decide) ?_
    refine g_iald (pc := 14) (i := 8) hf C 1 rfl dX5_lookForFree_14 (fun hf => ?_)
    refine g_icmp_ge (pc := 15) (tgt := 52) (x := l1) (y := ((mRow v) (Int32.toNatClampNeg 8))) hf C dX5_lookForFree_15 (by decide) (fun hf => ?_) (fun hf => ?_)
    · obtain rfl := Option.some.inj hf
      refine g_lv [] (lv' := []) rfl ?_
      exact hk0
    · refine g_aload_n (pc := 18) (x := (aM 0)) C dX5_lookForFree_18 rfl ?_
      refine g_iload_n (pc := 19) (x := l1) C dX5_lookForFree_19 rfl ?_
      refine g_callR (pc' := 23) (cs' := 0) (sl' := 0) hf C (fun u => some (.int (b2i u))) (fun u hu => gr_V (rest := []) C (cX5_isFree_ (kL k) C.tr (kD k) N aM v l1 u hu) (fun ht => cwV 1 ht gX5_lookForFree_X5_isFree rfl rfl rfl hdX5_isFree ⟨(Nat.le_of_ble_eq_true rfl), (Nat.le_of_ble_eq_true rfl)⟩) 0 rfl rfl [0, 1, 2, 3, 4, 5, 6, 7, 8, 9] rfl (by decide) rfl rfl (Nat.le_of_ble_eq_true rfl) dX5_lookForFree_20 ⟨(Nat.le_of_ble_eq_true rfl), (Nat.le_of_ble_eq_true rfl)⟩) [0, 1, 2, 3, 4, 5, 6, 7, 8, 9] rfl rfl rfl rfl (fun u => [.int (b2i u)]) (fun u => rfl) (fun r1 hf => ?_)
      refine g_ifB_eq (pc := 23) (tgt := 46) (b := r1) hf C dX5_lookForFree_23 (by decide) (fun hf => ?_) (fun hf => ?_)
      · refine g_iinc (pc := 46) (x := l1) (v := (l1 + 1)) (lv' := [(1, .int (l1 + 1)), (0, .ref (aM 0))]) C dX5_lookForFree_46 rfl rfl (by decide) rfl ?_
        refine g_goto (pc := 49) (tgt := 7) C dX5_lookForFree_49 (by decide) ?_
        refine g_lv [1, 0] (lv' := [(0, .ref (aM 0)), (1, .int (l1 + 1))]) rfl ?_
        exact ih v (l1 + 1) u hf hk0
      · refine g_aload_n (pc := 26) (x := (aM 0)) C dX5_lookForFree_26 rfl ?_
        refine g_getf (pc := 27) C 0 rfl rfl inX5_lookForFree_X5 6 (by decide) lkX5_lookForFree_23 rfl rfl dX5_lookForFree_27 ?_
        refine g_aload_n (pc := 30) (x := (aM 0)) C dX5_lookForFree_30 rfl ?_
        refine g_getf (pc := 31) C 0 rfl rfl inX5_lookForFree_X5 7 (by decide) lkX5_lookForFree_97 rfl rfl dX5_lookForFree_31 ?_
        refine g_iload_n (pc := 34) (x := l1) C dX5_lookForFree_34 rfl ?_
        refine g_iast (pc := 35) (i := (mFrn v)) (x := l1) hf C 5 rfl dX5_lookForFree_35 (ws' := (wM (kD k) aM ((mRow v), (mSav v), (mSvn v), (mSnp v), (mKep v), (mThr v), (upd (mFre v) (Int32.toNatClampNeg (mFrn v)) l1), (mFrn v), (mBuf v), (mLen v), (mSpt v), (mNum v), (mOrd v), (mLet v), (mFst v), (mSnd v), (mTok v), (mLft v)))) rfl (fun hf => ?_)
        refine g_aload_n (pc := 36) (x := (aM 0)) C dX5_lookForFree_36 rfl ?_
        refine g_dup (pc := 37) C dX5_lookForFree_37 rfl ?_
        refine g_getf (pc := 38) C 0 rfl rfl inX5_lookForFree_X5 7 (by decide) lkX5_lookForFree_97 rfl rfl dX5_lookForFree_38 ?_
        refine g_iconst (pc := 41) (v := 1) C dX5_lookForFree_41 (by decide) ?_
        refine g_iadd (pc := 42) (x := (mFrn v)) (y := 1) C dX5_lookForFree_42 ?_
        refine g_putf (pc := 43) C 0 rfl rfl inX5_lookForFree_X5 tyX5 tyX5_ok nmX5 7 (by decide) lkX5_lookForFree_97 rfl rfl pfX5_7 rfl rfl (Nat.le_of_ble_eq_true rfl) dX5_lookForFree_43 (ws' := (wM (kD k) aM ((mRow v), (mSav v), (mSvn v), (mSnp v), (mKep v), (mThr v), (upd (mFre v) (Int32.toNatClampNeg (mFrn v)) l1), ((mFrn v) + 1), (mBuf v), (mLen v), (mSpt v), (mNum v), (mOrd v), (mLet v), (mFst v), (mSnd v), (mTok v), (mLft v)))) rfl ?_
        refine g_iinc (pc := 46) (x := l1) (v := (l1 + 1)) (lv' := [(1, .int (l1 + 1)), (0, .ref (aM 0))]) C dX5_lookForFree_46 rfl rfl (by decide) rfl ?_
        refine g_goto (pc := 49) (tgt := 7) C dX5_lookForFree_49 (by decide) ?_
        refine g_lv [1, 0] (lv' := [(0, .ref (aM 0)), (1, .int (l1 + 1))]) rfl ?_
        exact ih ((mRow v), (mSav v), (mSvn v), (mSnp v), (mKep v), (mThr v), (upd (mFre v) (Int32.toNatClampNeg (mFrn v)) l1), ((mFrn v) + 1), (mBuf v), (mLen v), (mSpt v), (mNum v), (mOrd v), (mLet v), (mFst v), (mSnd v), (mTok v), (mLft v)) (l1 + 1) u hf hk0
def fX5_lookForFree (N : Nat) (v : VM) : Option (VM) := ((lX5_lookForFree_7 N N ((mRow v), (mSav v), (mSvn v), (mSnp v), (mKep v), (mThr v), (mFre v), 0, (mBuf v), (mLen v), (mSpt v), (mNum v), (mOrd v), (mLet v), (mFst v), (mSnd v), (mTok v), (mLft v)) 0).bind fun r1 => some r1)
set_option maxRecDepth 100000 in
set_option maxHeartbeats 4000000 in
theorem wkX5_lookForFree {k : Kt} (C : gC k cX5_lookForFree 2 RX5 wsX5_lookForFree rmX5_lookForFree "lookForFree") (N : Nat) (aM : Nat → Nat) (v : VM) (r : VM) (hf : fX5_lookForFree N v = some r) (E : gE k (wM (kD k) aM v) (fun rv w => rv = none ∧ w = (wM (kD k) aM r)) (fun _ _ => False) 0 0 none []) : gG k (wM (kD k) aM v) [(0, .ref (aM 0))] 0 0 0 [] := by
  unfold fX5_lookForFree at hf
  refine g_aload_n (pc := 0) (x := (aM 0)) C dX5_lookForFree_0 rfl ?_
  refine g_iconst (pc := 1) (v := 0) C dX5_lookForFree_1 (by decide) ?_
  refine g_putf (pc := 2) C 0 rfl rfl inX5_lookForFree_X5 tyX5 tyX5_ok nmX5 7 (by decide) lkX5_lookForFree_97 rfl rfl pfX5_7 rfl rfl (Nat.le_of_ble_eq_true rfl) dX5_lookForFree_2 (ws' := (wM (kD k) aM ((mRow v), (mSav v), (mSvn v), (mSnp v), (mKep v), (mThr v), (mFre v), 0, (mBuf v), (mLen v), (mSpt v), (mNum v), (mOrd v), (mLet v), (mFst v), (mSnd v), (mTok v), (mLft v)))) rfl ?_
  refine g_iconst (pc := 5) (v := 0) C dX5_lookForFree_5 (by decide) ?_
  refine g_istore_n (pc := 6) (lv' := [(1, .int 0), (0, .ref (aM 0))]) C dX5_lookForFree_6 (by decide) rfl ?_
  obtain ⟨r1, h1, hf⟩ := bd_e hf
  refine g_lv [1, 0] (lv' := [(0, .ref (aM 0)), (1, .int 0)]) rfl ?_
  refine wlX5_lookForFree_7 C N aM N ((mRow v), (mSav v), (mSvn v), (mSnp v), (mKep v), (mThr v), (mFre v), 0, (mBuf v), (mLen v), (mSpt v), (mNum v), (mOrd v), (mLet v), (mFst v), (mSnd v), (mTok v), (mLft v)) 0 r1 h1 ?_
  obtain rfl := Option.some.inj hf
  exact g_vret C E dX5_lookForFree_52 (Nat.le_of_ble_eq_true rfl) (Nat.le_of_ble_eq_true rfl) ⟨rfl, rfl⟩
set_option maxRecDepth 100000 in
set_option maxHeartbeats 4000000 in
theorem cX5_lookForFree_ (l : Launch) (htr : l.stackTraces = false) (D : va_G) (N : Nat) (aM : Nat → Nat) (v : VM) (r : VM) (hf : fX5_lookForFree N v = some r) : Tc l D yX5_lookForFree wsX5_lookForFree rmX5_lookForFree [.ref (aM 0)] (wM D aM v) (fun rv w => rv = none ∧ w = (wM D aM r)) (fun _ _ => False) 0 0 := Tc_of htr (by decide +kernel) rfl (Nat.le_of_ble_eq_true rfl) (fun k C E hl hD => by subst hD; exact wkX5_lookForFree C N aM v r hf E)
abbrev rmX5_sumOf : Room := { frames := 1, cells := 0, slots := 0, locals := 22 }
theorem inX5_sumOf_X5 : ∀ w ∈ wsX50, w ∈ wsX5_sumOf := by decide +kernel
theorem lkX5_sumOf_97 : Cond.fieldLink RX5 97 "GaugeBlocksModel" (TX5 7).2.1 (TX5 7).2.2.1 ∈ wsX5_sumOf := by decide +kernel
theorem lkX5_sumOf_23 : Cond.fieldLink RX5 23 "GaugeBlocksModel" (TX5 6).2.1 (TX5 6).2.2.1 ∈ wsX5_sumOf := by decide +kernel
theorem hdX5_sumOf : yX5_sumOf.cls = RX5 ∧ yX5_sumOf.cls ≠ "java/lang/invoke/MethodHandle" ∧ yX5_sumOf.cls ≠ "java/lang/invoke/VarHandle" ∧ (parseMethodDescriptor yX5_sumOf.desc).map (fun d => d.parameters.length) = some 1 := by decide +kernel
def lX5_sumOf_4 (N : Nat) (v : VM) (l1 : Int32) : Nat → Int32 → Int32 → Option ((Int32))
  | 0, _, _ => none
  | n + 1, l2, l3 => (if (mFrn v) ≤ l3 then some l2 else (if ((l1 >>> (l3 &&& 31)) &&& 1) = (1 : Int32) then ck l3 20 (((fX5_of N v ((mFre v) (Int32.toNatClampNeg l3)) 0).bind fun r1 => (lX5_sumOf_4 N v l1 n (l2 + r1) (l3 + 1)))) else (lX5_sumOf_4 N v l1 n (l2 + 0) (l3 + 1))))
set_option maxRecDepth 100000 in
set_option maxHeartbeats 4000000 in
theorem wlX5_sumOf_4 {k : Kt} (C : gC k cX5_sumOf 4 RX5 wsX5_sumOf rmX5_sumOf "sumOf") (N : Nat) (aM : Nat → Nat) (v : VM) (l1 : Int32) : ∀ (n : Nat) (l2 : Int32) (l3 : Int32) (u : (Int32)) (hf : lX5_sumOf_4 N v l1 n l2 l3 = some u) (hk0 : gG k (wM (kD k) aM v) [(2, .int u)] 0 0 45 []), gG k (wM (kD k) aM v) [(0, .ref (aM 0)), (1, .int l1), (2, .int l2), (3, .int l3)] 0 0 4 [] := by
  intro n
  induction n with
  | zero => intro l2 l3 u hf hk0; rw [lX5_sumOf_4] at hf; cases hf
  | succ n ih =>
    intro l2 l3 u hf hk0
    rw [lX5_sumOf_4] at hf
    refine g_iload_n (pc := 4) (x := l3) C dX5_sumOf_4 rfl ?_
    refine g_aload_n (pc := 5) (x := (aM 0)) C dX5_sumOf_5 rfl ?_
    refine g_getf (pc := 6) C 0 rfl rfl inX5_sumOf_X5 7 (by decide) lkX5_sumOf_97 rfl rfl dX5_sumOf_6 ?_
    refine g_icmp_ge (pc := 9) (tgt := 45) (x := l3) (y := (mFrn v)) hf C dX5_sumOf_9 (by decide) (fun hf => ?_) (fun hf => ?_)
    · obtain rfl := Option.some.inj hf
      refine g_lv [2] (lv' := [(2, .int l2)]) rfl ?_
      exact hk0
    · refine g_iload_n (pc := 12) (x := l2) C dX5_sumOf_12 rfl ?_
      refine g_iload_n (pc := 13) (x := l1) C dX5_sumOf_13 rfl ?_
      refine g_iload_n (pc := 14) (x := l3) C dX5_sumOf_14 rfl ?_
      refine g_ishr (pc := 15) (x := l1) (y := l3) C dX5_sumOf_15 ?_
      refine g_iconst (pc := 16) (v := 1) C dX5_sumOf_16 (by decide) ?_
      refine g_iand (pc := 17) (x := (l1 >>> (l3 &&& 31))) (y := 1) C dX5_sumOf_17 ?_
      refine g_iconst (pc := 18) (v := 1) C dX5_sumOf_18 (by decide) ?_
      refine g_icmp_ne (pc := 19) (tgt := 36) (x := ((l1 >>> (l3 &&& 31)) &&& 1)) (y := 1) hf C dX5_sumOf_19 (by decide) (fun hf => ?_) (fun hf => ?_)
      · refine g_iconst (pc := 36) (v := 0) C dX5_sumOf_36 (by decide) ?_
        refine g_iadd (pc := 37) (x := l2) (y := 0) C dX5_sumOf_37 ?_
        refine g_istore_n (pc := 38) (lv' := [(2, .int (l2 + 0)), (0, .ref (aM 0)), (1, .int l1), (3, .int l3)]) C dX5_sumOf_38 (by decide) rfl ?_
        refine g_iinc (pc := 39) (x := l3) (v := (l3 + 1)) (lv' := [(3, .int (l3 + 1)), (2, .int (l2 + 0)), (0, .ref (aM 0)), (1, .int l1)]) C dX5_sumOf_39 rfl rfl (by decide) rfl ?_
        refine g_goto (pc := 42) (tgt := 4) C dX5_sumOf_42 (by decide) ?_
        refine g_lv [2, 3, 1, 0] (lv' := [(0, .ref (aM 0)), (1, .int l1), (2, .int (l2 + 0)), (3, .int (l3 + 1))]) rfl ?_
        exact ih (l2 + 0) (l3 + 1) u hf hk0
      · refine g_aload_n (pc := 22) (x := (aM 0)) C dX5_sumOf_22 rfl ?_
        refine g_aload_n (pc := 23) (x := (aM 0)) C dX5_sumOf_23 rfl ?_
        refine g_getf (pc := 24) C 0 rfl rfl inX5_sumOf_X5 6 (by decide) lkX5_sumOf_23 rfl rfl dX5_sumOf_24 ?_
        refine g_iload_n (pc := 27) (x := l3) C dX5_sumOf_27 rfl ?_
        refine g_iald (pc := 28) (i := l3) hf C 5 rfl dX5_sumOf_28 (fun hf => ?_)
        refine g_iconst (pc := 29) (v := 0) C dX5_sumOf_29 (by decide) ?_
        refine g_callR (pc' := 33) (cs' := 0) (sl' := 0) hf C (fun u => some (.int u)) (fun u hu => gr_V (rest := [.int l2]) C (cX5_of_ (kL k) C.tr (kD k) N aM v ((mFre v) (Int32.toNatClampNeg l3)) 0 u hu) (fun ht => cwV 2 ht gX5_sumOf_X5_of rfl rfl rfl hdX5_of ⟨(Nat.le_of_ble_eq_true rfl), (Nat.le_of_ble_eq_true rfl)⟩) 0 rfl rfl [0, 1, 2, 3, 4, 5, 6, 7, 8, 9] rfl (by decide) rfl rfl (Nat.le_of_ble_eq_true rfl) dX5_sumOf_30 ⟨(Nat.le_of_ble_eq_true rfl), (Nat.le_of_ble_eq_true rfl)⟩) [0, 1, 2, 3, 4, 5, 6, 7, 8, 9] rfl rfl rfl rfl (fun u => [.int u, .int l2]) (fun u => rfl) (fun r1 hf => ?_)
        refine g_goto (pc := 33) (tgt := 37) C dX5_sumOf_33 (by decide) ?_
        refine g_iadd (pc := 37) (x := l2) (y := r1) C dX5_sumOf_37 ?_
        refine g_istore_n (pc := 38) (lv' := [(2, .int (l2 + r1)), (0, .ref (aM 0)), (1, .int l1), (3, .int l3)]) C dX5_sumOf_38 (by decide) rfl ?_
        refine g_iinc (pc := 39) (x := l3) (v := (l3 + 1)) (lv' := [(3, .int (l3 + 1)), (2, .int (l2 + r1)), (0, .ref (aM 0)), (1, .int l1)]) C dX5_sumOf_39 rfl rfl (by decide) rfl ?_
        refine g_goto (pc := 42) (tgt := 4) C dX5_sumOf_42 (by decide) ?_
        refine g_lv [2, 3, 1, 0] (lv' := [(0, .ref (aM 0)), (1, .int l1), (2, .int (l2 + r1)), (3, .int (l3 + 1))]) rfl ?_
        exact ih (l2 + r1) (l3 + 1) u hf hk0
def fX5_sumOf (N : Nat) (v : VM) (p1 : Int32) : Option (Int32) := ((lX5_sumOf_4 N v p1 N 0 0).bind fun r1 => some r1)
set_option maxRecDepth 100000 in
set_option maxHeartbeats 4000000 in
theorem wkX5_sumOf {k : Kt} (C : gC k cX5_sumOf 4 RX5 wsX5_sumOf rmX5_sumOf "sumOf") (N : Nat) (aM : Nat → Nat) (v : VM) (p1 : Int32) (r : Int32) (hf : fX5_sumOf N v p1 = some r) (E : gE k (wM (kD k) aM v) (fun rv w => rv = some (.int r) ∧ w = (wM (kD k) aM v)) (fun _ _ => False) 0 0 (some .int) []) : gG k (wM (kD k) aM v) [(0, .ref (aM 0)), (1, .int p1)] 0 0 0 [] := by
  unfold fX5_sumOf at hf
  refine g_iconst (pc := 0) (v := 0) C dX5_sumOf_0 (by decide) ?_
  refine g_istore_n (pc := 1) (lv' := [(2, .int 0), (0, .ref (aM 0)), (1, .int p1)]) C dX5_sumOf_1 (by decide) rfl ?_
  refine g_iconst (pc := 2) (v := 0) C dX5_sumOf_2 (by decide) ?_
  refine g_istore_n (pc := 3) (lv' := [(3, .int 0), (2, .int 0), (0, .ref (aM 0)), (1, .int p1)]) C dX5_sumOf_3 (by decide) rfl ?_
  obtain ⟨r1, h1, hf⟩ := bd_e hf
  refine g_lv [2, 3, 1, 0] (lv' := [(0, .ref (aM 0)), (1, .int p1), (2, .int 0), (3, .int 0)]) rfl ?_
  refine wlX5_sumOf_4 C N aM v p1 N 0 0 r1 h1 ?_
  refine g_iload_n (pc := 45) (x := r1) C dX5_sumOf_45 rfl ?_
  obtain rfl := Option.some.inj hf
  exact g_iret (v := r1) C E dX5_sumOf_46 (Nat.le_of_ble_eq_true rfl) (Nat.le_of_ble_eq_true rfl) ⟨rfl, rfl⟩
set_option maxRecDepth 100000 in
set_option maxHeartbeats 4000000 in
theorem cX5_sumOf_ (l : Launch) (htr : l.stackTraces = false) (D : va_G) (N : Nat) (aM : Nat → Nat) (v : VM) (p1 : Int32) (r : Int32) (hf : fX5_sumOf N v p1 = some r) : Tc l D yX5_sumOf wsX5_sumOf rmX5_sumOf [.ref (aM 0), .int p1] (wM D aM v) (fun rv w => rv = some (.int r) ∧ w = (wM D aM v)) (fun _ _ => False) 0 0 := Tc_of htr (by decide +kernel) rfl (Nat.le_of_ble_eq_true rfl) (fun k C E hl hD => by subst hD; exact wkX5_sumOf C N aM v p1 r hf E)
abbrev rmX5_nextSet : Room := { frames := 0, cells := 0, slots := 0, locals := 0 }
theorem hsX5_nextSet : yX5_nextSet.cls ≠ "java/lang/invoke/MethodHandle" ∧ yX5_nextSet.cls ≠ "java/lang/invoke/VarHandle" ∧ (parseMethodDescriptor yX5_nextSet.desc).map (fun d => d.parameters.length) = some 1 := by decide +kernel
def fX5_nextSet (N : Nat) (p0 : Int32) : Option (Int32) := cz (p0 &&& (-p0)) (some ((((p0 ^^^ (p0 + (p0 &&& (-p0)))) >>> (2 &&& 31)) / (p0 &&& (-p0))) ||| (p0 + (p0 &&& (-p0)))))
set_option maxRecDepth 100000 in
set_option maxHeartbeats 4000000 in
theorem wkX5_nextSet {k : Kt} (C : gC k cX5_nextSet 3 RX5 wsX5_nextSet rmX5_nextSet "nextSet") (N : Nat) (p0 : Int32) (r : Int32) (hf : fX5_nextSet N p0 = some r) (E : gE k [] (fun rv w => rv = some (.int r) ∧ w = []) (fun _ _ => False) 0 0 (some .int) []) : gG k [] [(0, .int p0)] 0 0 0 [] := by
  unfold fX5_nextSet at hf
  refine g_iload_n (pc := 0) (x := p0) C dX5_nextSet_0 rfl ?_
  refine g_iload_n (pc := 1) (x := p0) C dX5_nextSet_1 rfl ?_
  refine g_ineg (pc := 2) C dX5_nextSet_2 ?_
  refine g_iand (pc := 3) (x := p0) (y := (-p0)) C dX5_nextSet_3 ?_
  refine g_istore_n (pc := 4) (lv' := [(1, .int (p0 &&& (-p0))), (0, .int p0)]) C dX5_nextSet_4 (by decide) rfl ?_
  refine g_iload_n (pc := 5) (x := p0) C dX5_nextSet_5 rfl ?_
  refine g_iload_n (pc := 6) (x := (p0 &&& (-p0))) C dX5_nextSet_6 rfl ?_
  refine g_iadd (pc := 7) (x := p0) (y := (p0 &&& (-p0))) C dX5_nextSet_7 ?_
  refine g_istore_n (pc := 8) (lv' := [(2, .int (p0 + (p0 &&& (-p0)))), (1, .int (p0 &&& (-p0))), (0, .int p0)]) C dX5_nextSet_8 (by decide) rfl ?_
  refine g_iload_n (pc := 9) (x := p0) C dX5_nextSet_9 rfl ?_
  refine g_iload_n (pc := 10) (x := (p0 + (p0 &&& (-p0)))) C dX5_nextSet_10 rfl ?_
  refine g_ixor (pc := 11) (x := p0) (y := (p0 + (p0 &&& (-p0)))) C dX5_nextSet_11 ?_
  refine g_iconst (pc := 12) (v := 2) C dX5_nextSet_12 (by decide) ?_
  refine g_ishr (pc := 13) (x := (p0 ^^^ (p0 + (p0 &&& (-p0))))) (y := 2) C dX5_nextSet_13 ?_
  refine g_iload_n (pc := 14) (x := (p0 &&& (-p0))) C dX5_nextSet_14 rfl ?_
  refine g_idivz (pc := 15) (x := ((p0 ^^^ (p0 + (p0 &&& (-p0)))) >>> (2 &&& 31))) (y := (p0 &&& (-p0))) hf C dX5_nextSet_15 (fun hf => ?_)
  refine g_iload_n (pc := 16) (x := (p0 + (p0 &&& (-p0)))) C dX5_nextSet_16 rfl ?_
  refine g_ior (pc := 17) (x := (((p0 ^^^ (p0 + (p0 &&& (-p0)))) >>> (2 &&& 31)) / (p0 &&& (-p0)))) (y := (p0 + (p0 &&& (-p0)))) C dX5_nextSet_17 ?_
  obtain rfl := Option.some.inj hf
  exact g_iret (v := ((((p0 ^^^ (p0 + (p0 &&& (-p0)))) >>> (2 &&& 31)) / (p0 &&& (-p0))) ||| (p0 + (p0 &&& (-p0))))) C E dX5_nextSet_18 (Nat.le_of_ble_eq_true rfl) (Nat.le_of_ble_eq_true rfl) ⟨rfl, rfl⟩
set_option maxRecDepth 100000 in
set_option maxHeartbeats 4000000 in
theorem cX5_nextSet_ (l : Launch) (htr : l.stackTraces = false) (D : va_G) (N : Nat) (p0 : Int32) (r : Int32) (hf : fX5_nextSet N p0 = some r) : Tc l D yX5_nextSet wsX5_nextSet rmX5_nextSet [.int p0] [] (fun rv w => rv = some (.int r) ∧ w = []) (fun _ _ => False) 0 0 := Tc_of htr (by decide +kernel) rfl (Nat.le_of_ble_eq_true rfl) (fun k C E hl hD => by subst hD; exact wkX5_nextSet C N p0 r hf E)
abbrev rmX5_byNumbers : Room := { frames := 0, cells := 0, slots := 0, locals := 0 }
theorem inX5_byNumbers_X5 : ∀ w ∈ wsX50, w ∈ wsX5_byNumbers := by decide +kernel
theorem lkX5_byNumbers_97 : Cond.fieldLink RX5 97 "GaugeBlocksModel" (TX5 7).2.1 (TX5 7).2.2.1 ∈ wsX5_byNumbers := by decide +kernel
theorem lkX5_byNumbers_23 : Cond.fieldLink RX5 23 "GaugeBlocksModel" (TX5 6).2.1 (TX5 6).2.2.1 ∈ wsX5_byNumbers := by decide +kernel
theorem hdX5_byNumbers : yX5_byNumbers.cls = RX5 ∧ yX5_byNumbers.cls ≠ "java/lang/invoke/MethodHandle" ∧ yX5_byNumbers.cls ≠ "java/lang/invoke/VarHandle" ∧ (parseMethodDescriptor yX5_byNumbers.desc).map (fun d => d.parameters.length) = some 1 := by decide +kernel
def lX5_byNumbers_4 (N : Nat) (v : VM) (l1 : Int32) : Nat → Int32 → Int32 → Option ((Int32))
  | 0, _, _ => none
  | n + 1, l2, l3 => (if (mFrn v) ≤ l3 then some l2 else ck l3 20 ((lX5_byNumbers_4 N v l1 n (l2 ||| (((l1 >>> (l3 &&& 31)) &&& 1) <<< (((mFre v) (Int32.toNatClampNeg l3)) &&& 31))) (l3 + 1))))
set_option maxRecDepth 100000 in
set_option maxHeartbeats 4000000 in
theorem wlX5_byNumbers_4 {k : Kt} (C : gC k cX5_byNumbers 4 RX5 wsX5_byNumbers rmX5_byNumbers "byNumbers") (N : Nat) (aM : Nat → Nat) (v : VM) (l1 : Int32) : ∀ (n : Nat) (l2 : Int32) (l3 : Int32) (u : (Int32)) (hf : lX5_byNumbers_4 N v l1 n l2 l3 = some u) (hk0 : gG k (wM (kD k) aM v) [(2, .int u)] 0 0 33 []), gG k (wM (kD k) aM v) [(0, .ref (aM 0)), (1, .int l1), (2, .int l2), (3, .int l3)] 0 0 4 [] := by
  intro n
  induction n with
  | zero => intro l2 l3 u hf hk0; rw [lX5_byNumbers_4] at hf; cases hf
  | succ n ih =>
    intro l2 l3 u hf hk0
    rw [lX5_byNumbers_4] at hf
    refine g_iload_n (pc := 4) (x := l3) C dX5_byNumbers_4 rfl ?_
    refine g_aload_n (pc := 5) (x := (aM 0)) C dX5_byNumbers_5 rfl ?_
    refine g_getf (pc := 6) C 0 rfl rfl inX5_byNumbers_X5 7 (by decide) lkX5_byNumbers_97 rfl rfl dX5_byNumbers_6 ?_
    refine g_icmp_ge (pc := 9) (tgt := 33) (x := l3) (y := (mFrn v)) hf C dX5_byNumbers_9 (by decide) (fun hf => ?_) (fun hf => ?_)
    · obtain rfl := Option.some.inj hf
      refine g_lv [2] (lv' := [(2, .int l2)]) rfl ?_
      exact hk0
    · refine g_iload_n (pc := 12) (x := l2) C dX5_byNumbers_12 rfl ?_
      refine g_iload_n (pc := 13) (x := l1) C dX5_byNumbers_13 rfl ?_
      refine g_iload_n (pc := 14) (x := l3) C dX5_byNumbers_14 rfl ?_
      refine g_ishr (pc := 15) (x := l1) (y := l3) C dX5_byNumbers_15 ?_
      refine g_iconst (pc := 16) (v := 1) C dX5_byNumbers_16 (by decide) ?_
      refine g_iand (pc := 17) (x := (l1 >>> (l3 &&& 31))) (y := 1) C dX5_byNumbers_17 ?_
      refine g_aload_n (pc := 18) (x := (aM 0)) C dX5_byNumbers_18 rfl ?_
      refine g_getf (pc := 19) C 0 rfl rfl inX5_byNumbers_X5 6 (by decide) lkX5_byNumbers_23 rfl rfl dX5_byNumbers_19 ?_
      refine g_iload_n (pc := 22) (x := l3) C dX5_byNumbers_22 rfl ?_
      refine g_iald (pc := 23) (i := l3) hf C 5 rfl dX5_byNumbers_23 (fun hf => ?_)
      refine g_ishl (pc := 24) (x := ((l1 >>> (l3 &&& 31)) &&& 1)) (y := ((mFre v) (Int32.toNatClampNeg l3))) C dX5_byNumbers_24 ?_
      refine g_ior (pc := 25) (x := l2) (y := (((l1 >>> (l3 &&& 31)) &&& 1) <<< (((mFre v) (Int32.toNatClampNeg l3)) &&& 31))) C dX5_byNumbers_25 ?_
      refine g_istore_n (pc := 26) (lv' := [(2, .int (l2 ||| (((l1 >>> (l3 &&& 31)) &&& 1) <<< (((mFre v) (Int32.toNatClampNeg l3)) &&& 31)))), (0, .ref (aM 0)), (1, .int l1), (3, .int l3)]) C dX5_byNumbers_26 (by decide) rfl ?_
      refine g_iinc (pc := 27) (x := l3) (v := (l3 + 1)) (lv' := [(3, .int (l3 + 1)), (2, .int (l2 ||| (((l1 >>> (l3 &&& 31)) &&& 1) <<< (((mFre v) (Int32.toNatClampNeg l3)) &&& 31)))), (0, .ref (aM 0)), (1, .int l1)]) C dX5_byNumbers_27 rfl rfl (by decide) rfl ?_
      refine g_goto (pc := 30) (tgt := 4) C dX5_byNumbers_30 (by decide) ?_
      refine g_lv [2, 3, 1, 0] (lv' := [(0, .ref (aM 0)), (1, .int l1), (2, .int (l2 ||| (((l1 >>> (l3 &&& 31)) &&& 1) <<< (((mFre v) (Int32.toNatClampNeg l3)) &&& 31)))), (3, .int (l3 + 1))]) rfl ?_
      exact ih (l2 ||| (((l1 >>> (l3 &&& 31)) &&& 1) <<< (((mFre v) (Int32.toNatClampNeg l3)) &&& 31))) (l3 + 1) u hf hk0
def fX5_byNumbers (N : Nat) (v : VM) (p1 : Int32) : Option (Int32) := ((lX5_byNumbers_4 N v p1 N 0 0).bind fun r1 => some r1)
set_option maxRecDepth 100000 in
set_option maxHeartbeats 4000000 in
theorem wkX5_byNumbers {k : Kt} (C : gC k cX5_byNumbers 4 RX5 wsX5_byNumbers rmX5_byNumbers "byNumbers") (N : Nat) (aM : Nat → Nat) (v : VM) (p1 : Int32) (r : Int32) (hf : fX5_byNumbers N v p1 = some r) (E : gE k (wM (kD k) aM v) (fun rv w => rv = some (.int r) ∧ w = (wM (kD k) aM v)) (fun _ _ => False) 0 0 (some .int) []) : gG k (wM (kD k) aM v) [(0, .ref (aM 0)), (1, .int p1)] 0 0 0 [] := by
  unfold fX5_byNumbers at hf
  refine g_iconst (pc := 0) (v := 0) C dX5_byNumbers_0 (by decide) ?_
  refine g_istore_n (pc := 1) (lv' := [(2, .int 0), (0, .ref (aM 0)), (1, .int p1)]) C dX5_byNumbers_1 (by decide) rfl ?_
  refine g_iconst (pc := 2) (v := 0) C dX5_byNumbers_2 (by decide) ?_
  refine g_istore_n (pc := 3) (lv' := [(3, .int 0), (2, .int 0), (0, .ref (aM 0)), (1, .int p1)]) C dX5_byNumbers_3 (by decide) rfl ?_
  obtain ⟨r1, h1, hf⟩ := bd_e hf
  refine g_lv [2, 3, 1, 0] (lv' := [(0, .ref (aM 0)), (1, .int p1), (2, .int 0), (3, .int 0)]) rfl ?_
  refine wlX5_byNumbers_4 C N aM v p1 N 0 0 r1 h1 ?_
  refine g_iload_n (pc := 33) (x := r1) C dX5_byNumbers_33 rfl ?_
  obtain rfl := Option.some.inj hf
  exact g_iret (v := r1) C E dX5_byNumbers_34 (Nat.le_of_ble_eq_true rfl) (Nat.le_of_ble_eq_true rfl) ⟨rfl, rfl⟩
set_option maxRecDepth 100000 in
set_option maxHeartbeats 4000000 in
theorem cX5_byNumbers_ (l : Launch) (htr : l.stackTraces = false) (D : va_G) (N : Nat) (aM : Nat → Nat) (v : VM) (p1 : Int32) (r : Int32) (hf : fX5_byNumbers N v p1 = some r) : Tc l D yX5_byNumbers wsX5_byNumbers rmX5_byNumbers [.ref (aM 0), .int p1] (wM D aM v) (fun rv w => rv = some (.int r) ∧ w = (wM D aM v)) (fun _ _ => False) 0 0 := Tc_of htr (by decide +kernel) rfl (Nat.le_of_ble_eq_true rfl) (fun k C E hl hD => by subst hD; exact wkX5_byNumbers C N aM v p1 r hf E)
