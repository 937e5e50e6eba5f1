abbrev rmX5_lengths : Room := { frames := 4, cells := 0, slots := 0, locals := 90 }
theorem inX5_lengths_X5 : ∀ w ∈ wsX50, w ∈ wsX5_lengths := by decide +kernel
theorem lkX5_lengths_38 : Cond.fieldLink RX5 38 "GaugeBlocksModel" (TX5 5).2.1 (TX5 5).2.2.1 ∈ wsX5_lengths := by decide +kernel
theorem hdX5_lengths : yX5_lengths.cls = RX5 ∧ yX5_lengths.cls ≠ "java/lang/invoke/MethodHandle" ∧ yX5_lengths.cls ≠ "java/lang/invoke/VarHandle" ∧ (parseMethodDescriptor yX5_lengths.desc).map (fun d => d.parameters.length) = some 1 := by decide +kernel
def fX5_lengths (N : Nat) (v : VM) (p1 : Int32) : Option (VM × Int32) := (if ((-1) : Int32) ≤ p1 then ((fX5_lengthOfRank N ((mRow v), (mSav v), (mSvn v), (mSnp v), (mKep v), 0, (mFre v), (mFrn v), (mBuf v), (mLen v), (mSpt v), (mNum v), (mOrd v), (mLet v), (mFst v), (mSnd v), (mTok v), (mLft v)) p1).bind fun r1 => some (((mRow v), (mSav v), (mSvn v), (mSnp v), (mKep v), 0, (mFre v), (mFrn v), (mBuf v), (mLen v), (mSpt v), (mNum v), (mOrd v), (mLet v), (mFst v), (mSnd v), (mTok v), (mLft v)), r1)) else ((fX5_fails N ((mRow v), (mSav v), (mSvn v), (mSnp v), (mKep v), 0, (mFre v), (mFrn v), (mBuf v), (mLen v), (mSpt v), (mNum v), (mOrd v), (mLet v), (mFst v), (mSnd v), (mTok v), (mLft v)) 1).bind fun r2 => some (r2.1, r2.2)))
set_option maxRecDepth 100000 in
set_option maxHeartbeats 4000000 in
theorem wkX5_lengths {k : Kt} (C : gC k cX5_lengths 2 RX5 wsX5_lengths rmX5_lengths "lengths") (N : Nat) (aM : Nat → Nat) (v : VM) (p1 : Int32) (r : VM × Int32) (hf : fX5_lengths N v p1 = some r) (E : gE k (wM (kD k) aM v) (fun rv w => rv = some (.int r.2) ∧ w = (wM (kD k) aM r.1)) (fun _ _ => False) 0 0 (some .int) []) : gG k (wM (kD k) aM v) [(0, .ref (aM 0)), (1, .int p1)] 0 0 0 [] := by
  unfold fX5_lengths at hf
  refine g_aload_n (pc := 0) (x := (aM 0)) C dX5_lengths_0 rfl ?_
  refine g_iconst (pc := 1) (v := 0) C dX5_lengths_1 (by decide) ?_
  refine g_putf (pc := 2) C 0 rfl rfl inX5_lengths_X5 tyX5 tyX5_ok nmX5 5 (by decide) lkX5_lengths_38 rfl rfl pfX5_5 rfl rfl (Nat.le_of_ble_eq_true rfl) dX5_lengths_2 (ws' := (wM (kD k) aM ((mRow v), (mSav v), (mSvn v), (mSnp v), (mKep v), 0, (mFre v), (mFrn v), (mBuf v), (mLen v), (mSpt v), (mNum v), (mOrd v), (mLet v), (mFst v), (mSnd v), (mTok v), (mLft v)))) rfl ?_
  refine g_iload_n (pc := 5) (x := p1) C dX5_lengths_5 rfl ?_
  refine g_iconst (pc := 6) (v := (-1)) C dX5_lengths_6 (by decide) ?_
  refine g_icmp_ge (pc := 7) (tgt := 18) (x := p1) (y := (-1)) hf C dX5_lengths_7 (by decide) (fun hf => ?_) (fun hf => ?_)
  · refine g_aload_n (pc := 18) (x := (aM 0)) C dX5_lengths_18 rfl ?_
    refine g_iload_n (pc := 19) (x := p1) C dX5_lengths_19 rfl ?_
    refine g_callR (pc' := 23) (cs' := 0) (sl' := 0) hf C (fun u => some (.int u)) (fun u hu => gr_V (rest := []) C (cX5_lengthOfRank_ (kL k) C.tr (kD k) N aM ((mRow v), (mSav v), (mSvn v), (mSnp v), (mKep v), 0, (mFre v), (mFrn v), (mBuf v), (mLen v), (mSpt v), (mNum v), (mOrd v), (mLet v), (mFst v), (mSnd v), (mTok v), (mLft v)) p1 u hu) (fun ht => cwV 1 ht gX5_lengths_X5_lengthOfRank rfl rfl rfl hdX5_lengthOfRank ⟨(Nat.le_of_ble_eq_true rfl), (Nat.le_of_ble_eq_true rfl)⟩) 0 rfl rfl [0, 1, 2, 3, 4, 5, 6, 7, 8, 9] rfl (by decide) rfl rfl (Nat.le_of_ble_eq_true rfl) dX5_lengths_20 ⟨(Nat.le_of_ble_eq_true rfl), (Nat.le_of_ble_eq_true rfl)⟩) [0, 1, 2, 3, 4, 5, 6, 7, 8, 9] rfl rfl rfl rfl (fun u => [.int u]) (fun u => rfl) (fun r1 hf => ?_)
    obtain rfl := Option.some.inj hf
    exact g_iret (v := r1) C E dX5_lengths_23 (Nat.le_of_ble_eq_true rfl) (Nat.le_of_ble_eq_true rfl) ⟨rfl, rfl⟩
  · refine g_aload_n (pc := 10) (x := (aM 0)) C dX5_lengths_10 rfl ?_
    refine g_iconst (pc := 11) (v := 1) C dX5_lengths_11 (by decide) ?_
    refine g_callW (wr := []) (pc' := 15) (cs' := 0) (sl' := 0) hf C (fun u => some (.int u.2)) (fun u => (wM (kD k) aM u.1)) (fun u hu => gr_V (rest := []) C (cX5_fails_ (kL k) C.tr (kD k) N aM ((mRow v), (mSav v), (mSvn v), (mSnp v), (mKep v), 0, (mFre v), (mFrn v), (mBuf v), (mLen v), (mSpt v), (mNum v), (mOrd v), (mLet v), (mFst v), (mSnd v), (mTok v), (mLft v)) 1 u hu) (fun ht => cwV 1 ht gX5_lengths_X5_fails rfl rfl rfl hdX5_fails ⟨(Nat.le_of_ble_eq_true rfl), (Nat.le_of_ble_eq_true rfl)⟩) 0 rfl rfl [0, 1, 2, 3, 4, 5, 6, 7, 8, 9] rfl (by decide) rfl rfl (Nat.le_of_ble_eq_true rfl) dX5_lengths_12 ⟨(Nat.le_of_ble_eq_true rfl), (Nat.le_of_ble_eq_true rfl)⟩) [0, 1, 2, 3, 4, 5, 6, 7, 8, 9] [] rfl rfl (by decide) (by decide) [0, 1, 2, 3, 4, 5, 6, 7, 8, 9] (by decide) (ws' := fun u => (wM (kD k) aM u.1)) (fun u => rfl) rfl rfl rfl (fun u => [.int u.2]) (fun u => rfl) (fun r2 hf => ?_)
    refine g_goto (pc := 15) (tgt := 23) C dX5_lengths_15 (by decide) ?_
    obtain rfl := Option.some.inj hf
    exact g_iret (v := r2.2) C E dX5_lengths_23 (Nat.le_of_ble_eq_true rfl) (Nat.le_of_ble_eq_true rfl) ⟨rfl, rfl⟩
set_option maxRecDepth 100000 in
set_option maxHeartbeats 4000000 in
theorem cX5_lengths_ (l : Launch) (htr : l.stackTraces = false) (D : va_G) (N : Nat) (aM : Nat → Nat) (v : VM) (p1 : Int32) (r : VM × Int32) (hf : fX5_lengths N v p1 = some r) : Tc l D yX5_lengths wsX5_lengths rmX5_lengths [.ref (aM 0), .int p1] (wM D aM v) (fun rv w => rv = some (.int r.2) ∧ w = (wM D aM r.1)) (fun _ _ => False) 0 0 := Tc_of htr (by decide +kernel) rfl (Nat.le_of_ble_eq_true rfl) (fun k C E hl hD => by subst hD; exact wkX5_lengths C N aM v p1 r hf E)
abbrev rmX5_freeSet : Room := { frames := 3, cells := 0, slots := 0, locals := 64 }
theorem inX5_freeSet_X5 : ∀ w ∈ wsX50, w ∈ wsX5_freeSet := by decide +kernel
theorem lkX5_freeSet_97 : Cond.fieldLink RX5 97 "GaugeBlocksModel" (TX5 7).2.1 (TX5 7).2.2.1 ∈ wsX5_freeSet := by decide +kernel
theorem hdX5_freeSet : yX5_freeSet.cls = RX5 ∧ yX5_freeSet.cls ≠ "java/lang/invoke/MethodHandle" ∧ yX5_freeSet.cls ≠ "java/lang/invoke/VarHandle" ∧ (parseMethodDescriptor yX5_freeSet.desc).map (fun d => d.parameters.length) = some 0 := by decide +kernel
def fX5_freeSet (N : Nat) (v : VM) : Option (VM × Int32) := ((fX5_lookForFree N v).bind fun r1 => ((fX5_byNumbers N r1 (((1 : Int32) <<< ((mFrn r1) &&& 31)) - 1)).bind fun r2 => some (r1, r2)))
set_option maxRecDepth 100000 in
set_option maxHeartbeats 4000000 in
theorem wkX5_freeSet {k : Kt} (C : gC k cX5_freeSet 1 RX5 wsX5_freeSet rmX5_freeSet "freeSet") (N : Nat) (aM : Nat → Nat) (v : VM) (r : VM × Int32) (hf : fX5_freeSet N v = some r) (E : gE k (wM (kD k) aM v) (fun rv w => rv = some (.int r.2) ∧ w = (wM (kD k) aM r.1)) (fun _ _ => False) 0 0 (some .int) []) : gG k (wM (kD k) aM v) [(0, .ref (aM 0))] 0 0 0 [] := by
  unfold fX5_freeSet at hf
  refine g_aload_n (pc := 0) (x := (aM 0)) C dX5_freeSet_0 rfl ?_
  refine g_callW (wr := []) (pc' := 4) (cs' := 0) (sl' := 0) hf C (fun u => none) (fun u => (wM (kD k) aM u)) (fun u hu => gr_V (rest := []) C (cX5_lookForFree_ (kL k) C.tr (kD k) N aM v u hu) (fun ht => cwV 0 ht gX5_freeSet_X5_lookForFree rfl rfl rfl hdX5_lookForFree ⟨(Nat.le_of_ble_eq_true rfl), (Nat.le_of_ble_eq_true rfl)⟩) 0 rfl rfl [0, 1, 2, 3, 4, 5, 6, 7, 8, 9] rfl (by decide) rfl rfl (Nat.le_of_ble_eq_true rfl) dX5_freeSet_1 ⟨(Nat.le_of_ble_eq_true rfl), (Nat.le_of_ble_eq_true rfl)⟩) [0, 1, 2, 3, 4, 5, 6, 7, 8, 9] [] rfl rfl (by decide) (by decide) [0, 1, 2, 3, 4, 5, 6, 7, 8, 9] (by decide) (ws' := fun u => (wM (kD k) aM u)) (fun u => rfl) rfl rfl rfl (fun u => []) (fun u => rfl) (fun r1 hf => ?_)
  refine g_aload_n (pc := 4) (x := (aM 0)) C dX5_freeSet_4 rfl ?_
  refine g_iconst (pc := 5) (v := 1) C dX5_freeSet_5 (by decide) ?_
  refine g_aload_n (pc := 6) (x := (aM 0)) C dX5_freeSet_6 rfl ?_
  refine g_getf (pc := 7) C 0 rfl rfl inX5_freeSet_X5 7 (by decide) lkX5_freeSet_97 rfl rfl dX5_freeSet_7 ?_
  refine g_ishl (pc := 10) (x := (1 : Int32)) (y := (mFrn r1)) C dX5_freeSet_10 ?_
  refine g_iconst (pc := 11) (v := 1) C dX5_freeSet_11 (by decide) ?_
  refine g_isub (pc := 12) (x := ((1 : Int32) <<< ((mFrn r1) &&& 31))) (y := 1) C dX5_freeSet_12 ?_
  refine g_callR (pc' := 16) (cs' := 0) (sl' := 0) hf C (fun u => some (.int u)) (fun u hu => gr_V (rest := []) C (cX5_byNumbers_ (kL k) C.tr (kD k) N aM r1 (((1 : Int32) <<< ((mFrn r1) &&& 31)) - 1) u hu) (fun ht => cwV 1 ht gX5_freeSet_X5_byNumbers rfl rfl rfl hdX5_byNumbers ⟨(Nat.le_of_ble_eq_true rfl), (Nat.le_of_ble_eq_true rfl)⟩) 0 rfl rfl [0, 1, 2, 3, 4, 5, 6, 7, 8, 9] rfl (by decide) rfl rfl (Nat.le_of_ble_eq_true rfl) dX5_freeSet_13 ⟨(Nat.le_of_ble_eq_true rfl), (Nat.le_of_ble_eq_true rfl)⟩) [0, 1, 2, 3, 4, 5, 6, 7, 8, 9] rfl rfl rfl rfl (fun u => [.int u]) (fun u => rfl) (fun r2 hf => ?_)
  obtain rfl := Option.some.inj hf
  exact g_iret (v := r2) C E dX5_freeSet_16 (Nat.le_of_ble_eq_true rfl) (Nat.le_of_ble_eq_true rfl) ⟨rfl, rfl⟩
set_option maxRecDepth 100000 in
set_option maxHeartbeats 4000000 in
theorem cX5_freeSet_ (l : Launch) (htr : l.stackTraces = false) (D : va_G) (N : Nat) (aM : Nat → Nat) (v : VM) (r : VM × Int32) (hf : fX5_freeSet N v = some r) : Tc l D yX5_freeSet wsX5_freeSet rmX5_freeSet [.ref (aM 0)] (wM D aM v) (fun rv w => rv = some (.int r.2) ∧ w = (wM D aM r.1)) (fun _ _ => False) 0 0 := Tc_of htr (by decide +kernel) rfl (Nat.le_of_ble_eq_true rfl) (fun k C E hl hD => by subst hD; exact wkX5_freeSet C N aM v r hf E)
abbrev rmX5_wearOfAll : Room := { frames := 1, cells := 0, slots := 0, locals := 22 }
theorem inX5_wearOfAll_X5 : ∀ w ∈ wsX50, w ∈ wsX5_wearOfAll := by decide +kernel
theorem lkX5_wearOfAll_7 : Cond.fieldLink RX5 7 "GaugeBlocksModel" (TX5 0).2.1 (TX5 0).2.2.1 ∈ wsX5_wearOfAll := by decide +kernel
theorem hdX5_wearOfAll : yX5_wearOfAll.cls = RX5 ∧ yX5_wearOfAll.cls ≠ "java/lang/invoke/MethodHandle" ∧ yX5_wearOfAll.cls ≠ "java/lang/invoke/VarHandle" ∧ (parseMethodDescriptor yX5_wearOfAll.desc).map (fun d => d.parameters.length) = some 0 := by decide +kernel
def lX5_wearOfAll_4 (N : Nat) (v : VM) : Nat → Int32 → Int32 → Option ((Int32))
  | 0, _, _ => none
  | n + 1, l1, l2 => ck 8 149 ((if ((mRow v) (Int32.toNatClampNeg 8)) ≤ l2 then some l1 else ((fX5_of N v l2 2).bind fun r1 => (lX5_wearOfAll_4 N v n (l1 + r1) (l2 + 1)))))
set_option maxRecDepth 100000 in
set_option maxHeartbeats 4000000 in
theorem wlX5_wearOfAll_4 {k : Kt} (C : gC k cX5_wearOfAll 3 RX5 wsX5_wearOfAll rmX5_wearOfAll "wearOfAll") (N : Nat) (aM : Nat → Nat) (v : VM) : ∀ (n : Nat) (l1 : Int32) (l2 : Int32) (u : (Int32)) (hf : lX5_wearOfAll_4 N v n l1 l2 = some u) (hk0 : gG k (wM (kD k) aM v) [(1, .int u)] 0 0 30 []), gG k (wM (kD k) aM v) [(0, .ref (aM 0)), (1, .int l1), (2, .int l2)] 0 0 4 [] := by
  intro n
  induction n with
  | zero => intro l1 l2 u hf hk0; rw [lX5_wearOfAll_4] at hf; cases hf
  | succ n ih =>
    intro l1 l2 u hf hk0
    rw [lX5_wearOfAll_4] at hf
    refine g_iload_n (pc := 4) (x := l2) C dX5_wearOfAll_4 rfl ?_
    refine g_aload_n (pc := 5) (x := (aM 0)) C dX5_wearOfAll_5 rfl ?_
    refine g_getf (pc := 6) C 0 rfl rfl inX5_wearOfAll_X5 0 (by decide) lkX5_wearOfAll_7 rfl rfl dX5_wearOfAll_6 ?_
    refine g_bipush (pc := 9) (v := 8) C dX5_wearOfAll_9 (by decide) ?_
    refine g_iald (pc := 11) (i := 8) hf C 1 rfl dX5_wearOfAll_11 (fun hf => ?_)
    refine g_icmp_ge (pc := 12) (tgt := 30) (x := l2) (y := ((mRow v) (Int32.toNatClampNeg 8))) hf C dX5_wearOfAll_12 (by decide) (fun hf => ?_) (fun hf => ?_)
    · obtain rfl := Option.some.inj hf
      refine g_lv [1] (lv' := [(1, .int l1)]) rfl ?_
      exact hk0
    · refine g_iload_n (pc := 15) (x := l1) C dX5_wearOfAll_15 rfl ?_
      refine g_aload_n (pc := 16) (x := (aM 0)) C dX5_wearOfAll_16 rfl ?_
      refine g_iload_n (pc := 17) (x := l2) C dX5_wearOfAll_17 rfl ?_
      refine g_iconst (pc := 18) (v := 2) C dX5_wearOfAll_18 (by decide) ?_
      refine g_callR (pc' := 22) (cs' := 0) (sl' := 0) hf C (fun u => some (.int u)) (fun u hu => gr_V (rest := [.int l1]) C (cX5_of_ (kL k) C.tr (kD k) N aM v l2 2 u hu) (fun ht => cwV 2 ht gX5_wearOfAll_X5_of rfl rfl rfl hdX5_of ⟨(Nat.le_of_ble_eq_true rfl), (Nat.le_of_ble_eq_true rfl)⟩) 0 rfl rfl [0, 1, 2, 3, 4, 5, 6, 7, 8, 9] rfl (by decide) rfl rfl (Nat.le_of_ble_eq_true rfl) dX5_wearOfAll_19 ⟨(Nat.le_of_ble_eq_true rfl), (Nat.le_of_ble_eq_true rfl)⟩) [0, 1, 2, 3, 4, 5, 6, 7, 8, 9] rfl rfl rfl rfl (fun u => [.int u, .int l1]) (fun u => rfl) (fun r1 hf => ?_)
      refine g_iadd (pc := 22) (x := l1) (y := r1) C dX5_wearOfAll_22 ?_
      refine g_istore_n (pc := 23) (lv' := [(1, .int (l1 + r1)), (0, .ref (aM 0)), (2, .int l2)]) C dX5_wearOfAll_23 (by decide) rfl ?_
      refine g_iinc (pc := 24) (x := l2) (v := (l2 + 1)) (lv' := [(2, .int (l2 + 1)), (1, .int (l1 + r1)), (0, .ref (aM 0))]) C dX5_wearOfAll_24 rfl rfl (by decide) rfl ?_
      refine g_goto (pc := 27) (tgt := 4) C dX5_wearOfAll_27 (by decide) ?_
      refine g_lv [2, 1, 0] (lv' := [(0, .ref (aM 0)), (1, .int (l1 + r1)), (2, .int (l2 + 1))]) rfl ?_
      exact ih (l1 + r1) (l2 + 1) u hf hk0
def fX5_wearOfAll (N : Nat) (v : VM) : Option (Int32) := ((lX5_wearOfAll_4 N v N 0 0).bind fun r1 => some r1)
set_option maxRecDepth 100000 in
set_option maxHeartbeats 4000000 in
theorem wkX5_wearOfAll {k : Kt} (C : gC k cX5_wearOfAll 3 RX5 wsX5_wearOfAll rmX5_wearOfAll "wearOfAll") (N : Nat) (aM : Nat → Nat) (v : VM) (r : Int32) (hf : fX5_wearOfAll N v = some r) (E : gE k (wM (kD k) aM v) (fun rv w => rv = some (.int r) ∧ w = (wM (kD k) aM v)) (fun _ _ => False) 0 0 (some .int) []) : gG k (wM (kD k) aM v) [(0, .ref (aM 0))] 0 0 0 [] := by
  unfold fX5_wearOfAll at hf
  refine g_iconst (pc := 0) (v := 0) C dX5_wearOfAll_0 (by decide) ?_
  refine g_istore_n (pc := 1) (lv' := [(1, .int 0), (0, .ref (aM 0))]) C dX5_wearOfAll_1 (by decide) rfl ?_
  refine g_iconst (pc := 2) (v := 0) C dX5_wearOfAll_2 (by decide) ?_
  refine g_istore_n (pc := 3) (lv' := [(2, .int 0), (1, .int 0), (0, .ref (aM 0))]) C dX5_wearOfAll_3 (by decide) rfl ?_
  obtain ⟨r1, h1, hf⟩ := bd_e hf
  refine g_lv [2, 1, 0] (lv' := [(0, .ref (aM 0)), (1, .int 0), (2, .int 0)]) rfl ?_
  refine wlX5_wearOfAll_4 C N aM v N 0 0 r1 h1 ?_
  refine g_iload_n (pc := 30) (x := r1) C dX5_wearOfAll_30 rfl ?_
  obtain rfl := Option.some.inj hf
  exact g_iret (v := r1) C E dX5_wearOfAll_31 (Nat.le_of_ble_eq_true rfl) (Nat.le_of_ble_eq_true rfl) ⟨rfl, rfl⟩
set_option maxRecDepth 100000 in
set_option maxHeartbeats 4000000 in
theorem cX5_wearOfAll_ (l : Launch) (htr : l.stackTraces = false) (D : va_G) (N : Nat) (aM : Nat → Nat) (v : VM) (r : Int32) (hf : fX5_wearOfAll N v = some r) : Tc l D yX5_wearOfAll wsX5_wearOfAll rmX5_wearOfAll [.ref (aM 0)] (wM D aM v) (fun rv w => rv = some (.int r) ∧ w = (wM D aM v)) (fun _ _ => False) 0 0 := Tc_of htr (by decide +kernel) rfl (Nat.le_of_ble_eq_true rfl) (fun k C E hl hD => by subst hD; exact wkX5_wearOfAll C N aM v r hf E)
abbrev rmX5_worstSet : Room := { frames := 3, cells := 0, slots := 0, locals := 65 }
theorem inX5_worstSet_X5 : ∀ w ∈ wsX50, w ∈ wsX5_worstSet := by decide +kernel
theorem lkX5_worstSet_7 : Cond.fieldLink RX5 7 "GaugeBlocksModel" (TX5 0).2.1 (TX5 0).2.2.1 ∈ wsX5_worstSet := by decide +kernel
theorem hdX5_worstSet : yX5_worstSet.cls = RX5 ∧ yX5_worstSet.cls ≠ "java/lang/invoke/MethodHandle" ∧ yX5_worstSet.cls ≠ "java/lang/invoke/VarHandle" ∧ (parseMethodDescriptor yX5_worstSet.desc).map (fun d => d.parameters.length) = some 0 := by decide +kernel
def lX5_worstSet_4 (N : Nat) (v : VM) : Nat → Int32 → Int32 → Option ((Int32))
  | 0, _, _ => none
  | n + 1, l1, l2 => ck 8 149 ((if ((mRow v) (Int32.toNatClampNeg 8)) ≤ l2 then some l1 else ((fX5_grade N v l2).bind fun r1 => (if r1 = (3 : Int32) then (lX5_worstSet_4 N v n (l1 ||| ((1 : Int32) <<< (l2 &&& 31))) (l2 + 1)) else (lX5_worstSet_4 N v n (l1 ||| 0) (l2 + 1))))))
set_option maxRecDepth 100000 in
set_option maxHeartbeats 4000000 in
theorem wlX5_worstSet_4 {k : Kt} (C : gC k cX5_worstSet 3 RX5 wsX5_worstSet rmX5_worstSet "worstSet") (N : Nat) (aM : Nat → Nat) (v : VM) : ∀ (n : Nat) (l1 : Int32) (l2 : Int32) (u : (Int32)) (hf : lX5_worstSet_4 N v n l1 l2 = some u) (hk0 : gG k (wM (kD k) aM v) [(1, .int u)] 0 0 40 []), gG k (wM (kD k) aM v) [(0, .ref (aM 0)), (1, .int l1), (2, .int l2)] 0 0 4 [] := by
  intro n
  induction n with
  | zero => intro l1 l2 u hf hk0; rw [lX5_worstSet_4] at hf; cases hf
  | succ n ih =>
    intro l1 l2 u hf hk0
    rw [lX5_worstSet_4] at hf
    refine g_iload_n (pc := 4) (x := l2) C dX5_worstSet_4 rfl ?_
    refine g_aload_n (pc := 5) (x := (aM 0)) C dX5_worstSet_5 rfl ?_
    refine g_getf (pc := 6) C 0 rfl rfl inX5_worstSet_X5 0 (by decide) lkX5_worstSet_7 rfl rfl dX5_worstSet_6 ?_
    refine g_bipush (pc := 9) (v := 8) C dX5_worstSet_9 (by decide) ?_
    refine g_iald (pc := 11) (i := 8) hf C 1 rfl dX5_worstSet_11 (fun hf => ?_)
    refine g_icmp_ge (pc := 12) (tgt := 40) (x := l2) (y := ((mRow v) (Int32.toNatClampNeg 8))) hf C dX5_worstSet_12 (by decide) (fun hf => ?_) (fun hf => ?_)
    · obtain rfl := Option.some.inj hf
      refine g_lv [1] (lv' := [(1, .int l1)]) rfl ?_
      exact hk0
    · refine g_iload_n (pc := 15) (x := l1) C dX5_worstSet_15 rfl ?_
      refine g_aload_n (pc := 16) (x := (aM 0)) C dX5_worstSet_16 rfl ?_
      refine g_iload_n (pc := 17) (x := l2) C dX5_worstSet_17 rfl ?_
      refine g_callR (pc' := 21) (cs' := 0) (sl' := 0) hf C (fun u => some (.int u)) (fun u hu => gr_V (rest := [.int l1]) C (cX5_grade_ (kL k) C.tr (kD k) N aM v l2 u hu) (fun ht => cwV 1 ht gX5_worstSet_X5_grade rfl rfl rfl hdX5_grade ⟨(Nat.le_of_ble_eq_true rfl), (Nat.le_of_ble_eq_true rfl)⟩) 0 rfl rfl [0, 1, 2, 3, 4, 5, 6, 7, 8, 9] rfl (by decide) rfl rfl (Nat.le_of_ble_eq_true rfl) dX5_worstSet_18 ⟨(Nat.le_of_ble_eq_true rfl), (Nat.le_of_ble_eq_true rfl)⟩) [0, 1, 2, 3, 4, 5, 6, 7, 8, 9] rfl rfl rfl rfl (fun u => [.int u, .int l1]) (fun u => rfl) (fun r1 hf => ?_)
      refine g_iconst (pc := 21) (v := 3) C dX5_worstSet_21 (by decide) ?_
      refine g_icmp_ne (pc := 22) (tgt := 31) (x := r1) (y := 3) hf C dX5_worstSet_22 (by decide) (fun hf => ?_) (fun hf => ?_)
      · refine g_iconst (pc := 31) (v := 0) C dX5_worstSet_31 (by decide) ?_
        refine g_ior (pc := 32) (x := l1) (y := 0) C dX5_worstSet_32 ?_
        refine g_istore_n (pc := 33) (lv' := [(1, .int (l1 ||| 0)), (0, .ref (aM 0)), (2, .int l2)]) C dX5_worstSet_33 (by decide) rfl ?_
        refine g_iinc (pc := 34) (x := l2) (v := (l2 + 1)) (lv' := [(2, .int (l2 + 1)), (1, .int (l1 ||| 0)), (0, .ref (aM 0))]) C dX5_worstSet_34 rfl rfl (by decide) rfl ?_
        refine g_goto (pc := 37) (tgt := 4) C dX5_worstSet_37 (by decide) ?_
        refine g_lv [2, 1, 0] (lv' := [(0, .ref (aM 0)), (1, .int (l1 ||| 0)), (2, .int (l2 + 1))]) rfl ?_
        exact ih (l1 ||| 0) (l2 + 1) u hf hk0
      · refine g_iconst (pc := 25) (v := 1) C dX5_worstSet_25 (by decide) ?_
        refine g_iload_n (pc := 26) (x := l2) C dX5_worstSet_26 rfl ?_
        refine g_ishl (pc := 27) (x := (1 : Int32)) (y := l2) C dX5_worstSet_27 ?_
        refine g_goto (pc := 28) (tgt := 32) C dX5_worstSet_28 (by decide) ?_
        refine g_ior (pc := 32) (x := l1) (y := ((1 : Int32) <<< (l2 &&& 31))) C dX5_worstSet_32 ?_
        refine g_istore_n (pc := 33) (lv' := [(1, .int (l1 ||| ((1 : Int32) <<< (l2 &&& 31)))), (0, .ref (aM 0)), (2, .int l2)]) C dX5_worstSet_33 (by decide) rfl ?_
        refine g_iinc (pc := 34) (x := l2) (v := (l2 + 1)) (lv' := [(2, .int (l2 + 1)), (1, .int (l1 ||| ((1 : Int32) <<< (l2 &&& 31)))), (0, .ref (aM 0))]) C dX5_worstSet_34 rfl rfl (by decide) rfl ?_
        refine g_goto (pc := 37) (tgt := 4) C dX5_worstSet_37 (by decide) ?_
        refine g_lv [2, 1, 0] (lv' := [(0, .ref (aM 0)), (1, .int (l1 ||| ((1 : Int32) <<< (l2 &&& 31)))), (2, .int (l2 + 1))]) rfl ?_
        exact ih (l1 ||| ((1 : Int32) <<< (l2 &&& 31))) (l2 + 1) u hf hk0
def fX5_worstSet (N : Nat) (v : VM) : Option (Int32) := ((lX5_worstSet_4 N v N 0 0).bind fun r1 => some r1)
set_option maxRecDepth 100000 in
set_option maxHeartbeats 4000000 in
theorem wkX5_worstSet {k : Kt} (C : gC k cX5_worstSet 3 RX5 wsX5_worstSet rmX5_worstSet "worstSet") (N : Nat) (aM : Nat → Nat) (v : VM) (r : Int32) (hf : fX5_worstSet N v = some r) (E : gE k (wM (kD k) aM v) (fun rv w => rv = some (.int r) ∧ w = (wM (kD k) aM v)) (fun _ _ => False) 0 0 (some .int) []) : gG k (wM (kD k) aM v) [(0, .ref (aM 0))] 0 0 0 [] := by
  unfold fX5_worstSet at hf
  refine g_iconst (pc := 0) (v := 0) C dX5_worstSet_0 (by decide) ?_
  refine g_istore_n (pc := 1) (lv' := [(1, .int 0), (0, .ref (aM 0))]) C dX5_worstSet_1 (by decide) rfl ?_
  refine g_iconst (pc := 2) (v := 0) C dX5_worstSet_2 (by decide) ?_
  refine g_istore_n (pc := 3) (lv' := [(2, .int 0), (1, .int 0), (0, .ref (aM 0))]) C dX5_worstSet_3 (by decide) rfl ?_
  obtain ⟨r1, h1, hf⟩ := bd_e hf
  refine g_lv [2, 1, 0] (lv' := [(0, .ref (aM 0)), (1, .int 0), (2, .int 0)]) rfl ?_
  refine wlX5_worstSet_4 C N aM v N 0 0 r1 h1 ?_
  refine g_iload_n (pc := 40) (x := r1) C dX5_worstSet_40 rfl ?_
  obtain rfl := Option.some.inj hf
  exact g_iret (v := r1) C E dX5_worstSet_41 (Nat.le_of_ble_eq_true rfl) (Nat.le_of_ble_eq_true rfl) ⟨rfl, rfl⟩
set_option maxRecDepth 100000 in
set_option maxHeartbeats 4000000 in
theorem cX5_worstSet_ (l : Launch) (htr : l.stackTraces = false) (D : va_G) (N : Nat) (aM : Nat → Nat) (v : VM) (r : Int32) (hf : fX5_worstSet N v = some r) : Tc l D yX5_worstSet wsX5_worstSet rmX5_worstSet [.ref (aM 0)] (wM D aM v) (fun rv w => rv = some (.int r) ∧ w = (wM D aM v)) (fun _ _ => False) 0 0 := Tc_of htr (by decide +kernel) rfl (Nat.le_of_ble_eq_true rfl) (fun k C E hl hD => by subst hD; exact wkX5_worstSet C N aM v r hf E)
abbrev rmX5_numberOf : Room := { frames := 4, cells := 0, slots := 0, locals := 87 }
theorem inX5_numberOf_X5 : ∀ w ∈ wsX50, w ∈ wsX5_numberOf := by decide +kernel
theorem lkX5_numberOf_7 : Cond.fieldLink RX5 7 "GaugeBlocksModel" (TX5 0).2.1 (TX5 0).2.2.1 ∈ wsX5_numberOf := by decide +kernel
theorem lkX5_numberOf_47 : Cond.fieldLink RX5 47 "GaugeBlocksModel" (TX5 2).2.1 (TX5 2).2.2.1 ∈ wsX5_numberOf := by decide +kernel
theorem lkX5_numberOf_147 : Cond.fieldLink RX5 147 "GaugeBlocksModel" (TX5 9).2.1 (TX5 9).2.2.1 ∈ wsX5_numberOf := by decide +kernel
theorem hdX5_numberOf : yX5_numberOf.cls = RX5 ∧ yX5_numberOf.cls ≠ "java/lang/invoke/MethodHandle" ∧ yX5_numberOf.cls ≠ "java/lang/invoke/VarHandle" ∧ (parseMethodDescriptor yX5_numberOf.desc).map (fun d => d.parameters.length) = some 1 := by decide +kernel
def fX5_numberOf (N : Nat) (v : VM) (p1 : Int32) : Option (VM × Int32) := (if p1 = 0 then ck 8 149 (some (v, ((mRow v) (Int32.toNatClampNeg 8)))) else (if p1 = 1 then ((fX5_freeSet N v).bind fun r1 => some (r1.1, r1.2)) else (if p1 = 2 then ck 4 149 (some (v, ((mRow v) (Int32.toNatClampNeg 4)))) else (if p1 = 3 then ck 5 149 (some (v, ((mRow v) (Int32.toNatClampNeg 5)))) else (if p1 = 4 then ck 6 149 (some (v, ((mRow v) (Int32.toNatClampNeg 6)))) else (if p1 = 5 then ((fX5_wearOfAll N v).bind fun r2 => some (v, r2)) else (if p1 = 6 then ck 7 149 (some (v, ((mRow v) (Int32.toNatClampNeg 7)))) else (if p1 = 7 then ((fX5_worstSet N v).bind fun r3 => some (v, r3)) else (if p1 = 8 then some (v, (mSvn v)) else some (v, (mLen v)))))))))))
set_option maxRecDepth 100000 in
set_option maxHeartbeats 4000000 in
theorem wkX5_numberOf {k : Kt} (C : gC k cX5_numberOf 2 RX5 wsX5_numberOf rmX5_numberOf "numberOf") (N : Nat) (aM : Nat → Nat) (v : VM) (p1 : Int32) (r : VM × Int32) (hf : fX5_numberOf N v p1 = some r) (E : gE k (wM (kD k) aM v) (fun rv w => rv = some (.int r.2) ∧ w = (wM (kD k) aM r.1)) (fun _ _ => False) 0 0 (some .int) []) : gG k (wM (kD k) aM v) [(0, .ref (aM 0)), (1, .int p1)] 0 0 0 [] := by
  unfold fX5_numberOf at hf
  refine g_iload_n (pc := 0) (x := p1) C dX5_numberOf_0 rfl ?_
  refine g_split hf (fun e hf => ?_) (fun n1_0 hf => ?_)
  · refine g_tsw (pc := 1) (tgt := 52) C dX5_numberOf_1 e (by decide) (by decide) rfl (by decide) ?_
    refine g_aload_n (pc := 52) (x := (aM 0)) C dX5_numberOf_52 rfl ?_
    refine g_getf (pc := 53) C 0 rfl rfl inX5_numberOf_X5 0 (by decide) lkX5_numberOf_7 rfl rfl dX5_numberOf_53 ?_
    refine g_bipush (pc := 56) (v := 8) C dX5_numberOf_56 (by decide) ?_
    refine g_iald (pc := 58) (i := 8) hf C 1 rfl dX5_numberOf_58 (fun hf => ?_)
    obtain rfl := Option.some.inj hf
    exact g_iret (v := ((mRow v) (Int32.toNatClampNeg 8))) C E dX5_numberOf_59 (Nat.le_of_ble_eq_true rfl) (Nat.le_of_ble_eq_true rfl) ⟨rfl, rfl⟩
  refine g_split hf (fun e hf => ?_) (fun n1_1 hf => ?_)
  · refine g_tsw (pc := 1) (tgt := 60) C dX5_numberOf_1 e (by decide) (by decide) rfl (by decide) ?_
    refine g_aload_n (pc := 60) (x := (aM 0)) C dX5_numberOf_60 rfl ?_
    refine g_callW (wr := []) (pc' := 64) (cs' := 0) (sl' := 0) hf C (fun u => some (.int u.2)) (fun u => (wM (kD k) aM u.1)) (fun u hu => gr_V (rest := []) C (cX5_freeSet_ (kL k) C.tr (kD k) N aM v u hu) (fun ht => cwV 0 ht gX5_numberOf_X5_freeSet rfl rfl rfl hdX5_freeSet ⟨(Nat.le_of_ble_eq_true rfl), (Nat.le_of_ble_eq_true rfl)⟩) 0 rfl rfl [0, 1, 2, 3, 4, 5, 6, 7, 8, 9] rfl (by decide) rfl rfl (Nat.le_of_ble_eq_true rfl) dX5_numberOf_61 ⟨(Nat.le_of_ble_eq_true rfl), (Nat.le_of_ble_eq_true rfl)⟩) [0, 1, 2, 3, 4, 5, 6, 7, 8, 9] [] rfl rfl (by decide) (by decide) [0, 1, 2, 3, 4, 5, 6, 7, 8, 9] (by decide) (ws' := fun u => (wM (kD k) aM u.1)) (fun u => rfl) rfl rfl rfl (fun u => [.int u.2]) (fun u => rfl) (fun r1 hf => ?_)
    obtain rfl := Option.some.inj hf
    exact g_iret (v := r1.2) C E dX5_numberOf_64 (Nat.le_of_ble_eq_true rfl) (Nat.le_of_ble_eq_true rfl) ⟨rfl, rfl⟩
  refine g_split hf (fun e hf => ?_) (fun n1_2 hf => ?_)
  · refine g_tsw (pc := 1) (tgt := 65) C dX5_numberOf_1 e (by decide) (by decide) rfl (by decide) ?_
    refine g_aload_n (pc := 65) (x := (aM 0)) C dX5_numberOf_65 rfl ?_
    refine g_getf (pc := 66) C 0 rfl rfl inX5_numberOf_X5 0 (by decide) lkX5_numberOf_7 rfl rfl dX5_numberOf_66 ?_
    refine g_iconst (pc := 69) (v := 4) C dX5_numberOf_69 (by decide) ?_
    refine g_iald (pc := 70) (i := 4) hf C 1 rfl dX5_numberOf_70 (fun hf => ?_)
    obtain rfl := Option.some.inj hf
    exact g_iret (v := ((mRow v) (Int32.toNatClampNeg 4))) C E dX5_numberOf_71 (Nat.le_of_ble_eq_true rfl) (Nat.le_of_ble_eq_true rfl) ⟨rfl, rfl⟩
  refine g_split hf (fun e hf => ?_) (fun n1_3 hf => ?_)
  · refine g_tsw (pc := 1) (tgt := 72) C dX5_numberOf_1 e (by decide) (by decide) rfl (by decide) ?_
    refine g_aload_n (pc := 72) (x := (aM 0)) C dX5_numberOf_72 rfl ?_
    refine g_getf (pc := 73) C 0 rfl rfl inX5_numberOf_X5 0 (by decide) lkX5_numberOf_7 rfl rfl dX5_numberOf_73 ?_
    refine g_iconst (pc := 76) (v := 5) C dX5_numberOf_76 (by decide) ?_
    refine g_iald (pc := 77) (i := 5) hf C 1 rfl dX5_numberOf_77 (fun hf => ?_)
    obtain rfl := Option.some.inj hf
    exact g_iret (v := ((mRow v) (Int32.toNatClampNeg 5))) C E dX5_numberOf_78 (Nat.le_of_ble_eq_true rfl) (Nat.le_of_ble_eq_true rfl) ⟨rfl, rfl⟩
  refine g_split hf (fun e hf => ?_) (fun n1_4 hf => ?_)
  · refine g_tsw (pc := 1) (tgt := 79) C dX5_numberOf_1 e (by decide) (by decide) rfl (by decide) ?_
    refine g_aload_n (pc := 79) (x := (aM 0)) C dX5_numberOf_79 rfl ?_
    refine g_getf (pc := 80) C 0 rfl rfl inX5_numberOf_X5 0 (by decide) lkX5_numberOf_7 rfl rfl dX5_numberOf_80 ?_
    refine g_bipush (pc := 83) (v := 6) C dX5_numberOf_83 (by decide) ?_
    refine g_iald (pc := 85) (i := 6) hf C 1 rfl dX5_numberOf_85 (fun hf => ?_)
    obtain rfl := Option.some.inj hf
    exact g_iret (v := ((mRow v) (Int32.toNatClampNeg 6))) C E dX5_numberOf_86 (Nat.le_of_ble_eq_true rfl) (Nat.le_of_ble_eq_true rfl) ⟨rfl, rfl⟩
  refine g_split hf (fun e hf => ?_) (fun n1_5 hf => ?_)
  · refine g_tsw (pc := 1) (tgt := 87) C dX5_numberOf_1 e (by decide) (by decide) rfl (by decide) ?_
    refine g_aload_n (pc := 87) (x := (aM 0)) C dX5_numberOf_87 rfl ?_
    refine g_callR (pc' := 91) (cs' := 0) (sl' := 0) hf C (fun u => some (.int u)) (fun u hu => gr_V (rest := []) C (cX5_wearOfAll_ (kL k) C.tr (kD k) N aM v u hu) (fun ht => cwV 0 ht gX5_numberOf_X5_wearOfAll rfl rfl rfl hdX5_wearOfAll ⟨(Nat.le_of_ble_eq_true rfl), (Nat.le_of_ble_eq_true rfl)⟩) 0 rfl rfl [0, 1, 2, 3, 4, 5, 6, 7, 8, 9] rfl (by decide) rfl rfl (Nat.le_of_ble_eq_true rfl) dX5_numberOf_88 ⟨(Nat.le_of_ble_eq_true rfl), (Nat.le_of_ble_eq_true rfl)⟩) [0, 1, 2, 3, 4, 5, 6, 7, 8, 9] rfl rfl rfl rfl (fun u => [.int u]) (fun u => rfl) (fun r2 hf => ?_)
    obtain rfl := Option.some.inj hf
    exact g_iret (v := r2) C E dX5_numberOf_91 (Nat.le_of_ble_eq_true rfl) (Nat.le_of_ble_eq_true rfl) ⟨rfl, rfl⟩
  refine g_split hf (fun e hf => ?_) (fun n1_6 hf => ?_)
  · refine g_tsw (pc := 1) (tgt := 92) C dX5_numberOf_1 e (by decide) (by decide) rfl (by decide) ?_
    refine g_aload_n (pc := 92) (x := (aM 0)) C dX5_numberOf_92 rfl ?_
    refine g_getf (pc := 93) C 0 rfl rfl inX5_numberOf_X5 0 (by decide) lkX5_numberOf_7 rfl rfl dX5_numberOf_93 ?_
    refine g_bipush (pc := 96) (v := 7) C dX5_numberOf_96 (by decide) ?_
    refine g_iald (pc := 98) (i := 7) hf C 1 rfl dX5_numberOf_98 (fun hf => ?_)
    obtain rfl := Option.some.inj hf
    exact g_iret (v := ((mRow v) (Int32.toNatClampNeg 7))) C E dX5_numberOf_99 (Nat.le_of_ble_eq_true rfl) (Nat.le_of_ble_eq_true rfl) ⟨rfl, rfl⟩
  refine g_split hf (fun e hf => ?_) (fun n1_7 hf => ?_)
  · refine g_tsw (pc := 1) (tgt := 100) C dX5_numberOf_1 e (by decide) (by decide) rfl (by decide) ?_
    refine g_aload_n (pc := 100) (x := (aM 0)) C dX5_numberOf_100 rfl ?_
    refine g_callR (pc' := 104) (cs' := 0) (sl' := 0) hf C (fun u => some (.int u)) (fun u hu => gr_V (rest := []) C (cX5_worstSet_ (kL k) C.tr (kD k) N aM v u hu) (fun ht => cwV 0 ht gX5_numberOf_X5_worstSet rfl rfl rfl hdX5_worstSet ⟨(Nat.le_of_ble_eq_true rfl), (Nat.le_of_ble_eq_true rfl)⟩) 0 rfl rfl [0, 1, 2, 3, 4, 5, 6, 7, 8, 9] rfl (by decide) rfl rfl (Nat.le_of_ble_eq_true rfl) dX5_numberOf_101 ⟨(Nat.le_of_ble_eq_true rfl), (Nat.le_of_ble_eq_true rfl)⟩) [0, 1, 2, 3, 4, 5, 6, 7, 8, 9] rfl rfl rfl rfl (fun u => [.int u]) (fun u => rfl) (fun r3 hf => ?_)
    obtain rfl := Option.some.inj hf
    exact g_iret (v := r3) C E dX5_numberOf_104 (Nat.le_of_ble_eq_true rfl) (Nat.le_of_ble_eq_true rfl) ⟨rfl, rfl⟩
  refine g_split hf (fun e hf => ?_) (fun n1_8 hf => ?_)
  · refine g_tsw (pc := 1) (tgt := 105) C dX5_numberOf_1 e (by decide) (by decide) rfl (by decide) ?_
    refine g_aload_n (pc := 105) (x := (aM 0)) C dX5_numberOf_105 rfl ?_
    refine g_getf (pc := 106) C 0 rfl rfl inX5_numberOf_X5 2 (by decide) lkX5_numberOf_47 rfl rfl dX5_numberOf_106 ?_
    obtain rfl := Option.some.inj hf
    exact g_iret (v := (mSvn v)) C E dX5_numberOf_109 (Nat.le_of_ble_eq_true rfl) (Nat.le_of_ble_eq_true rfl) ⟨rfl, rfl⟩
  refine g_tswd (pc := 1) (x := p1) (tgt := 110) C dX5_numberOf_1 (by have e1_0 : (p1).toInt ≠ 0 := fun h => n1_0 (Int32.toInt_inj.mp (h.trans (by decide))); have e1_1 : (p1).toInt ≠ 1 := fun h => n1_1 (Int32.toInt_inj.mp (h.trans (by decide))); have e1_2 : (p1).toInt ≠ 2 := fun h => n1_2 (Int32.toInt_inj.mp (h.trans (by decide))); have e1_3 : (p1).toInt ≠ 3 := fun h => n1_3 (Int32.toInt_inj.mp (h.trans (by decide))); have e1_4 : (p1).toInt ≠ 4 := fun h => n1_4 (Int32.toInt_inj.mp (h.trans (by decide))); have e1_5 : (p1).toInt ≠ 5 := fun h => n1_5 (Int32.toInt_inj.mp (h.trans (by decide))); have e1_6 : (p1).toInt ≠ 6 := fun h => n1_6 (Int32.toInt_inj.mp (h.trans (by decide))); have e1_7 : (p1).toInt ≠ 7 := fun h => n1_7 (Int32.toInt_inj.mp (h.trans (by decide))); have e1_8 : (p1).toInt ≠ 8 := fun h => n1_8 (Int32.toInt_inj.mp (h.trans (by decide))); omega) (by decide) ?_
  refine g_aload_n (pc := 110) (x := (aM 0)) C dX5_numberOf_110 rfl ?_
  refine g_getf (pc := 111) C 0 rfl rfl inX5_numberOf_X5 9 (by decide) lkX5_numberOf_147 rfl rfl dX5_numberOf_111 ?_
  obtain rfl := Option.some.inj hf
  exact g_iret (v := (mLen v)) C E dX5_numberOf_114 (Nat.le_of_ble_eq_true rfl) (Nat.le_of_ble_eq_true rfl) ⟨rfl, rfl⟩
set_option maxRecDepth 100000 in
set_option maxHeartbeats 4000000 in
theorem cX5_numberOf_ (l : Launch) (htr : l.stackTraces = false) (D : va_G) (N : Nat) (aM : Nat → Nat) (v : VM) (p1 : Int32) (r : VM × Int32) (hf : fX5_numberOf N v p1 = some r) : Tc l D yX5_numberOf wsX5_numberOf rmX5_numberOf [.ref (aM 0), .int p1] (wM D aM v) (fun rv w => rv = some (.int r.2) ∧ w = (wM D aM r.1)) (fun _ _ => False) 0 0 := Tc_of htr (by decide +kernel) rfl (Nat.le_of_ble_eq_true rfl) (fun k C E hl hD => by subst hD; exact wkX5_numberOf C N aM v p1 r hf E)
abbrev rmX5_count : Room := { frames := 5, cells := 0, slots := 0, locals := 108 }
theorem inX5_count_X5 : ∀ w ∈ wsX50, w ∈ wsX5_count := by decide +kernel
theorem lkX5_count_38 : Cond.fieldLink RX5 38 "GaugeBlocksModel" (TX5 5).2.1 (TX5 5).2.2.1 ∈ wsX5_count := by decide +kernel
theorem hdX5_count : yX5_count.cls = RX5 ∧ yX5_count.cls ≠ "java/lang/invoke/MethodHandle" ∧ yX5_count.cls ≠ "java/lang/invoke/VarHandle" ∧ (parseMethodDescriptor yX5_count.desc).map (fun d => d.parameters.length) = some 1 := by decide +kernel
def fX5_count (N : Nat) (v : VM) (p1 : Int32) : Option (VM × Int32) := ((fX5_in N p1 0 9).bind fun r1 => (if r1 = true then ((fX5_numberOf N ((mRow v), (mSav v), (mSvn v), (mSnp v), (mKep v), 0, (mFre v), (mFrn v), (mBuf v), (mLen v), (mSpt v), (mNum v), (mOrd v), (mLet v), (mFst v), (mSnd v), (mTok v), (mLft v)) p1).bind fun r3 => some (r3.1, r3.2)) else ((fX5_fails N ((mRow v), (mSav v), (mSvn v), (mSnp v), (mKep v), 0, (mFre v), (mFrn v), (mBuf v), (mLen v), (mSpt v), (mNum v), (mOrd v), (mLet v), (mFst v), (mSnd v), (mTok v), (mLft v)) 1).bind fun r2 => some (r2.1, r2.2))))
set_option maxRecDepth 100000 in
set_option maxHeartbeats 4000000 in
theorem wkX5_count {k : Kt} (C : gC k cX5_count 2 RX5 wsX5_count rmX5_count "count") (N : Nat) (aM : Nat → Nat) (v : VM) (p1 : Int32) (r : VM × Int32) (hf : fX5_count N v p1 = some r) (E : gE k (wM (kD k) aM v) (fun rv w => rv = some (.int r.2) ∧ w = (wM (kD k) aM r.1)) (fun _ _ => False) 0 0 (some .int) []) : gG k (wM (kD k) aM v) [(0, .ref (aM 0)), (1, .int p1)] 0 0 0 [] := by
  unfold fX5_count at hf
  refine g_aload_n (pc := 0) (x := (aM 0)) C dX5_count_0 rfl ?_
  refine g_iconst (pc := 1) (v := 0) C dX5_count_1 (by decide) ?_
  refine g_putf (pc := 2) C 0 rfl rfl inX5_count_X5 tyX5 tyX5_ok nmX5 5 (by decide) lkX5_count_38 rfl rfl pfX5_5 rfl rfl (Nat.le_of_ble_eq_true rfl) dX5_count_2 (ws' := (wM (kD k) aM ((mRow v), (mSav v), (mSvn v), (mSnp v), (mKep v), 0, (mFre v), (mFrn v), (mBuf v), (mLen v), (mSpt v), (mNum v), (mOrd v), (mLet v), (mFst v), (mSnd v), (mTok v), (mLft v)))) rfl ?_
  refine g_iload_n (pc := 5) (x := p1) C dX5_count_5 rfl ?_
  refine g_iconst (pc := 6) (v := 0) C dX5_count_6 (by decide) ?_
  refine g_bipush (pc := 7) (v := 9) C dX5_count_7 (by decide) ?_
  refine g_callR (pc' := 12) (cs' := 0) (sl' := 0) hf C (fun u => some (.int (b2i u))) (fun u hu => gr_S (rest := []) C (cX5_in_ (kL k) C.tr (kD k) N p1 0 9 u hu) (fun ht => va_cwS 3 ht gX5_count_X5_in rfl rfl rfl hsX5_in ⟨(Nat.le_of_ble_eq_true rfl), (Nat.le_of_ble_eq_true rfl)⟩) [] rfl (by decide) rfl rfl (Nat.le_of_ble_eq_true rfl) dX5_count_9 ⟨(Nat.le_of_ble_eq_true rfl), (Nat.le_of_ble_eq_true rfl)⟩) [] rfl rfl rfl rfl (fun u => [.int (b2i u)]) (fun u => rfl) (fun r1 hf => ?_)
  refine g_ifB_eq (pc := 12) (tgt := 23) (b := r1) hf C dX5_count_12 (by decide) (fun hf => ?_) (fun hf => ?_)
  · refine g_aload_n (pc := 23) (x := (aM 0)) C dX5_count_23 rfl ?_
    refine g_iconst (pc := 24) (v := 1) C dX5_count_24 (by decide) ?_
    refine g_callW (wr := []) (pc' := 28) (cs' := 0) (sl' := 0) hf C (fun u => some (.int u.2)) (fun u => (wM (kD k) aM u.1)) (fun u hu => gr_V (rest := []) C (cX5_fails_ (kL k) C.tr (kD k) N aM ((mRow v), (mSav v), (mSvn v), (mSnp v), (mKep v), 0, (mFre v), (mFrn v), (mBuf v), (mLen v), (mSpt v), (mNum v), (mOrd v), (mLet v), (mFst v), (mSnd v), (mTok v), (mLft v)) 1 u hu) (fun ht => cwV 1 ht gX5_count_X5_fails rfl rfl rfl hdX5_fails ⟨(Nat.le_of_ble_eq_true rfl), (Nat.le_of_ble_eq_true rfl)⟩) 0 rfl rfl [0, 1, 2, 3, 4, 5, 6, 7, 8, 9] rfl (by decide) rfl rfl (Nat.le_of_ble_eq_true rfl) dX5_count_25 ⟨(Nat.le_of_ble_eq_true rfl), (Nat.le_of_ble_eq_true rfl)⟩) [0, 1, 2, 3, 4, 5, 6, 7, 8, 9] [] rfl rfl (by decide) (by decide) [0, 1, 2, 3, 4, 5, 6, 7, 8, 9] (by decide) (ws' := fun u => (wM (kD k) aM u.1)) (fun u => rfl) rfl rfl rfl (fun u => [.int u.2]) (fun u => rfl) (fun r2 hf => ?_)
    obtain rfl := Option.some.inj hf
    exact g_iret (v := r2.2) C E dX5_count_28 (Nat.le_of_ble_eq_true rfl) (Nat.le_of_ble_eq_true rfl) ⟨rfl, rfl⟩
  · refine g_aload_n (pc := 15) (x := (aM 0)) C dX5_count_15 rfl ?_
    refine g_iload_n (pc := 16) (x := p1) C dX5_count_16 rfl ?_
    refine g_callW (wr := []) (pc' := 20) (cs' := 0) (sl' := 0) hf C (fun u => some (.int u.2)) (fun u => (wM (kD k) aM u.1)) (fun u hu => gr_V (rest := []) C (cX5_numberOf_ (kL k) C.tr (kD k) N aM ((mRow v), (mSav v), (mSvn v), (mSnp v), (mKep v), 0, (mFre v), (mFrn v), (mBuf v), (mLen v), (mSpt v), (mNum v), (mOrd v), (mLet v), (mFst v), (mSnd v), (mTok v), (mLft v)) p1 u hu) (fun ht => cwV 1 ht gX5_count_X5_numberOf rfl rfl rfl hdX5_numberOf ⟨(Nat.le_of_ble_eq_true rfl), (Nat.le_of_ble_eq_true rfl)⟩) 0 rfl rfl [0, 1, 2, 3, 4, 5, 6, 7, 8, 9] rfl (by decide) rfl rfl (Nat.le_of_ble_eq_true rfl) dX5_count_17 ⟨(Nat.le_of_ble_eq_true rfl), (Nat.le_of_ble_eq_true rfl)⟩) [0, 1, 2, 3, 4, 5, 6, 7, 8, 9] [] rfl rfl (by decide) (by decide) [0, 1, 2, 3, 4, 5, 6, 7, 8, 9] (by decide) (ws' := fun u => (wM (kD k) aM u.1)) (fun u => rfl) rfl rfl rfl (fun u => [.int u.2]) (fun u => rfl) (fun r3 hf => ?_)
    refine g_goto (pc := 20) (tgt := 28) C dX5_count_20 (by decide) ?_
    obtain rfl := Option.some.inj hf
    exact g_iret (v := r3.2) C E dX5_count_28 (Nat.le_of_ble_eq_true rfl) (Nat.le_of_ble_eq_true rfl) ⟨rfl, rfl⟩
set_option maxRecDepth 100000 in
set_option maxHeartbeats 4000000 in
theorem cX5_count_ (l : Launch) (htr : l.stackTraces = false) (D : va_G) (N : Nat) (aM : Nat → Nat) (v : VM) (p1 : Int32) (r : VM × Int32) (hf : fX5_count N v p1 = some r) : Tc l D yX5_count wsX5_count rmX5_count [.ref (aM 0), .int p1] (wM D aM v) (fun rv w => rv = some (.int r.2) ∧ w = (wM D aM r.1)) (fun _ _ => False) 0 0 := Tc_of htr (by decide +kernel) rfl (Nat.le_of_ble_eq_true rfl) (fun k C E hl hD => by subst hD; exact wkX5_count C N aM v p1 r hf E)
abbrev rmX5_setting : Room := { frames := 1, cells := 0, slots := 0, locals := 22 }
theorem inX5_setting_X5 : ∀ w ∈ wsX50, w ∈ wsX5_setting := by decide +kernel
theorem lkX5_setting_38 : Cond.fieldLink RX5 38 "GaugeBlocksModel" (TX5 5).2.1 (TX5 5).2.2.1 ∈ wsX5_setting := by decide +kernel
theorem lkX5_setting_7 : Cond.fieldLink RX5 7 "GaugeBlocksModel" (TX5 0).2.1 (TX5 0).2.2.1 ∈ wsX5_setting := by decide +kernel
theorem hdX5_setting : yX5_setting.cls = RX5 ∧ yX5_setting.cls ≠ "java/lang/invoke/MethodHandle" ∧ yX5_setting.cls ≠ "java/lang/invoke/VarHandle" ∧ (parseMethodDescriptor yX5_setting.desc).map (fun d => d.parameters.length) = some 1 := by decide +kernel
def fX5_setting (N : Nat) (v : VM) (p1 : Int32) : Option (VM × Int32) := ((fX5_in N p1 0 3).bind fun r1 => (if r1 = true then ck p1 149 (some (((mRow v), (mSav v), (mSvn v), (mSnp v), (mKep v), 0, (mFre v), (mFrn v), (mBuf v), (mLen v), (mSpt v), (mNum v), (mOrd v), (mLet v), (mFst v), (mSnd v), (mTok v), (mLft v)), ((mRow v) (Int32.toNatClampNeg p1)))) else ((fX5_fails N ((mRow v), (mSav v), (mSvn v), (mSnp v), (mKep v), 0, (mFre v), (mFrn v), (mBuf v), (mLen v), (mSpt v), (mNum v), (mOrd v), (mLet v), (mFst v), (mSnd v), (mTok v), (mLft v)) 1).bind fun r2 => some (r2.1, r2.2))))
set_option maxRecDepth 100000 in
set_option maxHeartbeats 4000000 in
theorem wkX5_setting {k : Kt} (C : gC k cX5_setting 2 RX5 wsX5_setting rmX5_setting "setting") (N : Nat) (aM : Nat → Nat) (v : VM) (p1 : Int32) (r : VM × Int32) (hf : fX5_setting N v p1 = some r) (E : gE k (wM (kD k) aM v) (fun rv w => rv = some (.int r.2) ∧ w = (wM (kD k) aM r.1)) (fun _ _ => False) 0 0 (some .int) []) : gG k (wM (kD k) aM v) [(0, .ref (aM 0)), (1, .int p1)] 0 0 0 [] := by
  unfold fX5_setting at hf
  refine g_aload_n (pc := 0) (x := (aM 0)) C dX5_setting_0 rfl ?_
  refine g_iconst (pc := 1) (v := 0) C dX5_setting_1 (by decide) ?_
  refine g_putf (pc := 2) C 0 rfl rfl inX5_setting_X5 tyX5 tyX5_ok nmX5 5 (by decide) lkX5_setting_38 rfl rfl pfX5_5 rfl rfl (Nat.le_of_ble_eq_true rfl) dX5_setting_2 (ws' := (wM (kD k) aM ((mRow v), (mSav v), (mSvn v), (mSnp v), (mKep v), 0, (mFre v), (mFrn v), (mBuf v), (mLen v), (mSpt v), (mNum v), (mOrd v), (mLet v), (mFst v), (mSnd v), (mTok v), (mLft v)))) rfl ?_
  refine g_iload_n (pc := 5) (x := p1) C dX5_setting_5 rfl ?_
  refine g_iconst (pc := 6) (v := 0) C dX5_setting_6 (by decide) ?_
  refine g_iconst (pc := 7) (v := 3) C dX5_setting_7 (by decide) ?_
  refine g_callR (pc' := 11) (cs' := 0) (sl' := 0) hf C (fun u => some (.int (b2i u))) (fun u hu => gr_S (rest := []) C (cX5_in_ (kL k) C.tr (kD k) N p1 0 3 u hu) (fun ht => va_cwS 3 ht gX5_setting_X5_in rfl rfl rfl hsX5_in ⟨(Nat.le_of_ble_eq_true rfl), (Nat.le_of_ble_eq_true rfl)⟩) [] rfl (by decide) rfl rfl (Nat.le_of_ble_eq_true rfl) dX5_setting_8 ⟨(Nat.le_of_ble_eq_true rfl), (Nat.le_of_ble_eq_true rfl)⟩) [] rfl rfl rfl rfl (fun u => [.int (b2i u)]) (fun u => rfl) (fun r1 hf => ?_)
  refine g_ifB_eq (pc := 11) (tgt := 23) (b := r1) hf C dX5_setting_11 (by decide) (fun hf => ?_) (fun hf => ?_)
  · refine g_aload_n (pc := 23) (x := (aM 0)) C dX5_setting_23 rfl ?_
    refine g_iconst (pc := 24) (v := 1) C dX5_setting_24 (by decide) ?_
    refine g_callW (wr := []) (pc' := 28) (cs' := 0) (sl' := 0) hf C (fun u => some (.int u.2)) (fun u => (wM (kD k) aM u.1)) (fun u hu => gr_V (rest := []) C (cX5_fails_ (kL k) C.tr (kD k) N aM ((mRow v), (mSav v), (mSvn v), (mSnp v), (mKep v), 0, (mFre v), (mFrn v), (mBuf v), (mLen v), (mSpt v), (mNum v), (mOrd v), (mLet v), (mFst v), (mSnd v), (mTok v), (mLft v)) 1 u hu) (fun ht => cwV 1 ht gX5_setting_X5_fails rfl rfl rfl hdX5_fails ⟨(Nat.le_of_ble_eq_true rfl), (Nat.le_of_ble_eq_true rfl)⟩) 0 rfl rfl [0, 1, 2, 3, 4, 5, 6, 7, 8, 9] rfl (by decide) rfl rfl (Nat.le_of_ble_eq_true rfl) dX5_setting_25 ⟨(Nat.le_of_ble_eq_true rfl), (Nat.le_of_ble_eq_true rfl)⟩) [0, 1, 2, 3, 4, 5, 6, 7, 8, 9] [] rfl rfl (by decide) (by decide) [0, 1, 2, 3, 4, 5, 6, 7, 8, 9] (by decide) (ws' := fun u => (wM (kD k) aM u.1)) (fun u => rfl) rfl rfl rfl (fun u => [.int u.2]) (fun u => rfl) (fun r2 hf => ?_)
    obtain rfl := Option.some.inj hf
    exact g_iret (v := r2.2) C E dX5_setting_28 (Nat.le_of_ble_eq_true rfl) (Nat.le_of_ble_eq_true rfl) ⟨rfl, rfl⟩
  · refine g_aload_n (pc := 14) (x := (aM 0)) C dX5_setting_14 rfl ?_
    refine g_getf (pc := 15) C 0 rfl rfl inX5_setting_X5 0 (by decide) lkX5_setting_7 rfl rfl dX5_setting_15 ?_
    refine g_iload_n (pc := 18) (x := p1) C dX5_setting_18 rfl ?_
    refine g_iald (pc := 19) (i := p1) hf C 1 rfl dX5_setting_19 (fun hf => ?_)
    refine g_goto (pc := 20) (tgt := 28) C dX5_setting_20 (by decide) ?_
    obtain rfl := Option.some.inj hf
    exact g_iret (v := ((mRow v) (Int32.toNatClampNeg p1))) C E dX5_setting_28 (Nat.le_of_ble_eq_true rfl) (Nat.le_of_ble_eq_true rfl) ⟨rfl, rfl⟩
set_option maxRecDepth 100000 in
set_option maxHeartbeats 4000000 in
theorem cX5_setting_ (l : Launch) (htr : l.stackTraces = false) (D : va_G) (N : Nat) (aM : Nat → Nat) (v : VM) (p1 : Int32) (r : VM × Int32) (hf : fX5_setting N v p1 = some r) : Tc l D yX5_setting wsX5_setting rmX5_setting [.ref (aM 0), .int p1] (wM D aM v) (fun rv w => rv = some (.int r.2) ∧ w = (wM D aM r.1)) (fun _ _ => False) 0 0 := Tc_of htr (by decide +kernel) rfl (Nat.le_of_ble_eq_true rfl) (fun k C E hl hD => by subst hD; exact wkX5_setting C N aM v p1 r hf E)
abbrev rmX5_refusal : Room := { frames := 4, cells := 0, slots := 0, locals := 87 }
theorem inX5_refusal_X5 : ∀ w ∈ wsX50, w ∈ wsX5_refusal := by decide +kernel
theorem lkX5_refusal_38 : Cond.fieldLink RX5 38 "GaugeBlocksModel" (TX5 5).2.1 (TX5 5).2.2.1 ∈ wsX5_refusal := by decide +kernel
theorem hdX5_refusal : yX5_refusal.cls = RX5 ∧ yX5_refusal.cls ≠ "java/lang/invoke/MethodHandle" ∧ yX5_refusal.cls ≠ "java/lang/invoke/VarHandle" ∧ (parseMethodDescriptor yX5_refusal.desc).map (fun d => d.parameters.length) = some 2 := by decide +kernel
def fX5_refusal (N : Nat) (v : VM) (p1 : Int32) (p2 : Int32) : Option (VM × Int32) := ((fX5_isStack N p1).bind fun r1 => (if r1 = true then ((fX5_isBlock N ((mRow v), (mSav v), (mSvn v), (mSnp v), (mKep v), 0, (mFre v), (mFrn v), (mBuf v), (mLen v), (mSpt v), (mNum v), (mOrd v), (mLet v), (mFst v), (mSnd v), (mTok v), (mLft v)) p2).bind fun r3 => (if r3 = true then ((fX5_reason N ((mRow v), (mSav v), (mSvn v), (mSnp v), (mKep v), 0, (mFre v), (mFrn v), (mBuf v), (mLen v), (mSpt v), (mNum v), (mOrd v), (mLet v), (mFst v), (mSnd v), (mTok v), (mLft v)) p1 p2).bind fun r5 => some (((mRow v), (mSav v), (mSvn v), (mSnp v), (mKep v), 0, (mFre v), (mFrn v), (mBuf v), (mLen v), (mSpt v), (mNum v), (mOrd v), (mLet v), (mFst v), (mSnd v), (mTok v), (mLft v)), r5)) else ((fX5_fails N ((mRow v), (mSav v), (mSvn v), (mSnp v), (mKep v), 0, (mFre v), (mFrn v), (mBuf v), (mLen v), (mSpt v), (mNum v), (mOrd v), (mLet v), (mFst v), (mSnd v), (mTok v), (mLft v)) 1).bind fun r4 => some (r4.1, r4.2)))) else ((fX5_fails N ((mRow v), (mSav v), (mSvn v), (mSnp v), (mKep v), 0, (mFre v), (mFrn v), (mBuf v), (mLen v), (mSpt v), (mNum v), (mOrd v), (mLet v), (mFst v), (mSnd v), (mTok v), (mLft v)) 1).bind fun r2 => some (r2.1, r2.2))))
set_option maxRecDepth 100000 in
set_option maxHeartbeats 4000000 in
theorem wkX5_refusal {k : Kt} (C : gC k cX5_refusal 3 RX5 wsX5_refusal rmX5_refusal "refusal") (N : Nat) (aM : Nat → Nat) (v : VM) (p1 : Int32) (p2 : Int32) (r : VM × Int32) (hf : fX5_refusal N v p1 p2 = some r) (E : gE k (wM (kD k) aM v) (fun rv w => rv = some (.int r.2) ∧ w = (wM (kD k) aM r.1)) (fun _ _ => False) 0 0 (some .int) []) : gG k (wM (kD k) aM v) [(0, .ref (aM 0)), (1, .int p1), (2, .int p2)] 0 0 0 [] := by
  unfold fX5_refusal at hf
  refine g_aload_n (pc := 0) (x := (aM 0)) C dX5_refusal_0 rfl ?_
  refine g_iconst (pc := 1) (v := 0) C dX5_refusal_1 (by decide) ?_
  refine g_putf (pc := 2) C 0 rfl rfl inX5_refusal_X5 tyX5 tyX5_ok nmX5 5 (by decide) lkX5_refusal_38 rfl rfl pfX5_5 rfl rfl (Nat.le_of_ble_eq_true rfl) dX5_refusal_2 (ws' := (wM (kD k) aM ((mRow v), (mSav v), (mSvn v), (mSnp v), (mKep v), 0, (mFre v), (mFrn v), (mBuf v), (mLen v), (mSpt v), (mNum v), (mOrd v), (mLet v), (mFst v), (mSnd v), (mTok v), (mLft v)))) rfl ?_
  refine g_iload_n (pc := 5) (x := p1) C dX5_refusal_5 rfl ?_
  refine g_callR (pc' := 9) (cs' := 0) (sl' := 0) hf C (fun u => some (.int (b2i u))) (fun u hu => gr_S (rest := []) C (cX5_isStack_ (kL k) C.tr (kD k) N p1 u hu) (fun ht => va_cwS 1 ht gX5_refusal_X5_isStack rfl rfl rfl hsX5_isStack ⟨(Nat.le_of_ble_eq_true rfl), (Nat.le_of_ble_eq_true rfl)⟩) [] rfl (by decide) rfl rfl (Nat.le_of_ble_eq_true rfl) dX5_refusal_6 ⟨(Nat.le_of_ble_eq_true rfl), (Nat.le_of_ble_eq_true rfl)⟩) [] rfl rfl rfl rfl (fun u => [.int (b2i u)]) (fun u => rfl) (fun r1 hf => ?_)
  refine g_ifB_eq (pc := 9) (tgt := 29) (b := r1) hf C dX5_refusal_9 (by decide) (fun hf => ?_) (fun hf => ?_)
  · refine g_aload_n (pc := 29) (x := (aM 0)) C dX5_refusal_29 rfl ?_
    refine g_iconst (pc := 30) (v := 1) C dX5_refusal_30 (by decide) ?_
    refine g_callW (wr := []) (pc' := 34) (cs' := 0) (sl' := 0) hf C (fun u => some (.int u.2)) (fun u => (wM (kD k) aM u.1)) (fun u hu => gr_V (rest := []) C (cX5_fails_ (kL k) C.tr (kD k) N aM ((mRow v), (mSav v), (mSvn v), (mSnp v), (mKep v), 0, (mFre v), (mFrn v), (mBuf v), (mLen v), (mSpt v), (mNum v), (mOrd v), (mLet v), (mFst v), (mSnd v), (mTok v), (mLft v)) 1 u hu) (fun ht => cwV 1 ht gX5_refusal_X5_fails rfl rfl rfl hdX5_fails ⟨(Nat.le_of_ble_eq_true rfl), (Nat.le_of_ble_eq_true rfl)⟩) 0 rfl rfl [0, 1, 2, 3, 4, 5, 6, 7, 8, 9] rfl (by decide) rfl rfl (Nat.le_of_ble_eq_true rfl) dX5_refusal_31 ⟨(Nat.le_of_ble_eq_true rfl), (Nat.le_of_ble_eq_true rfl)⟩) [0, 1, 2, 3, 4, 5, 6, 7, 8, 9] [] rfl rfl (by decide) (by decide) [0, 1, 2, 3, 4, 5, 6, 7, 8, 9] (by decide) (ws' := fun u => (wM (kD k) aM u.1)) (fun u => rfl) rfl rfl rfl (fun u => [.int u.2]) (fun u => rfl) (fun r2 hf => ?_)
    obtain rfl := Option.some.inj hf
    exact g_iret (v := r2.2) C E dX5_refusal_34 (Nat.le_of_ble_eq_true rfl) (Nat.le_of_ble_eq_true rfl) ⟨rfl, rfl⟩
  · refine g_aload_n (pc := 12) (x := (aM 0)) C dX5_refusal_12 rfl ?_
    refine g_iload_n (pc := 13) (x := p2) C dX5_refusal_13 rfl ?_
    refine g_callR (pc' := 17) (cs' := 0) (sl' := 0) hf C (fun u => some (.int (b2i u))) (fun u hu => gr_V (rest := []) C (cX5_isBlock_ (kL k) C.tr (kD k) N aM ((mRow v), (mSav v), (mSvn v), (mSnp v), (mKep v), 0, (mFre v), (mFrn v), (mBuf v), (mLen v), (mSpt v), (mNum v), (mOrd v), (mLet v), (mFst v), (mSnd v), (mTok v), (mLft v)) p2 u hu) (fun ht => cwV 1 ht gX5_refusal_X5_isBlock rfl rfl rfl hdX5_isBlock ⟨(Nat.le_of_ble_eq_true rfl), (Nat.le_of_ble_eq_true rfl)⟩) 0 rfl rfl [0, 1, 2, 3, 4, 5, 6, 7, 8, 9] rfl (by decide) rfl rfl (Nat.le_of_ble_eq_true rfl) dX5_refusal_14 ⟨(Nat.le_of_ble_eq_true rfl), (Nat.le_of_ble_eq_true rfl)⟩) [0, 1, 2, 3, 4, 5, 6, 7, 8, 9] rfl rfl rfl rfl (fun u => [.int (b2i u)]) (fun u => rfl) (fun r3 hf => ?_)
    refine g_ifB_eq (pc := 17) (tgt := 29) (b := r3) hf C dX5_refusal_17 (by decide) (fun hf => ?_) (fun hf => ?_)
    · refine g_aload_n (pc := 29) (x := (aM 0)) C dX5_refusal_29 rfl ?_
      refine g_iconst (pc := 30) (v := 1) C dX5_refusal_30 (by decide) ?_
      refine g_callW (wr := []) (pc' := 34) (cs' := 0) (sl' := 0) hf C (fun u => some (.int u.2)) (fun u => (wM (kD k) aM u.1)) (fun u hu => gr_V (rest := []) C (cX5_fails_ (kL k) C.tr (kD k) N aM ((mRow v), (mSav v), (mSvn v), (mSnp v), (mKep v), 0, (mFre v), (mFrn v), (mBuf v), (mLen v), (mSpt v), (mNum v), (mOrd v), (mLet v), (mFst v), (mSnd v), (mTok v), (mLft v)) 1 u hu) (fun ht => cwV 1 ht gX5_refusal_X5_fails rfl rfl rfl hdX5_fails ⟨(Nat.le_of_ble_eq_true rfl), (Nat.le_of_ble_eq_true rfl)⟩) 0 rfl rfl [0, 1, 2, 3, 4, 5, 6, 7, 8, 9] rfl (by decide) rfl rfl (Nat.le_of_ble_eq_true rfl) dX5_refusal_31 ⟨(Nat.le_of_ble_eq_true rfl), (Nat.le_of_ble_eq_true rfl)⟩) [0, 1, 2, 3, 4, 5, 6, 7, 8, 9] [] rfl rfl (by decide) (by decide) [0, 1, 2, 3, 4, 5, 6, 7, 8, 9] (by decide) (ws' := fun u => (wM (kD k) aM u.1)) (fun u => rfl) rfl rfl rfl (fun u => [.int u.2]) (fun u => rfl) (fun r4 hf => ?_)
      obtain rfl := Option.some.inj hf
      exact g_iret (v := r4.2) C E dX5_refusal_34 (Nat.le_of_ble_eq_true rfl) (Nat.le_of_ble_eq_true rfl) ⟨rfl, rfl⟩
    · refine g_aload_n (pc := 20) (x := (aM 0)) C dX5_refusal_20 rfl ?_
      refine g_iload_n (pc := 21) (x := p1) C dX5_refusal_21 rfl ?_
      refine g_iload_n (pc := 22) (x := p2) C dX5_refusal_22 rfl ?_
      refine g_callR (pc' := 26) (cs' := 0) (sl' := 0) hf C (fun u => some (.int u)) (fun u hu => gr_V (rest := []) C (cX5_reason_ (kL k) C.tr (kD k) N aM ((mRow v), (mSav v), (mSvn v), (mSnp v), (mKep v), 0, (mFre v), (mFrn v), (mBuf v), (mLen v), (mSpt v), (mNum v), (mOrd v), (mLet v), (mFst v), (mSnd v), (mTok v), (mLft v)) p1 p2 u hu) (fun ht => cwV 2 ht gX5_refusal_X5_reason rfl rfl rfl hdX5_reason ⟨(Nat.le_of_ble_eq_true rfl), (Nat.le_of_ble_eq_true rfl)⟩) 0 rfl rfl [0, 1, 2, 3, 4, 5, 6, 7, 8, 9] rfl (by decide) rfl rfl (Nat.le_of_ble_eq_true rfl) dX5_refusal_23 ⟨(Nat.le_of_ble_eq_true rfl), (Nat.le_of_ble_eq_true rfl)⟩) [0, 1, 2, 3, 4, 5, 6, 7, 8, 9] rfl rfl rfl rfl (fun u => [.int u]) (fun u => rfl) (fun r5 hf => ?_)
      refine g_goto (pc := 26) (tgt := 34) C dX5_refusal_26 (by decide) ?_
      obtain rfl := Option.some.inj hf
      exact g_iret (v := r5) C E dX5_refusal_34 (Nat.le_of_ble_eq_true rfl) (Nat.le_of_ble_eq_true rfl) ⟨rfl, rfl⟩
set_option maxRecDepth 100000 in
set_option maxHeartbeats 4000000 in
theorem cX5_refusal_ (l : Launch) (htr : l.stackTraces = false) (D : va_G) (N : Nat) (aM : Nat → Nat) (v : VM) (p1 : Int32) (p2 : Int32) (r : VM × Int32) (hf : fX5_refusal N v p1 p2 = some r) : Tc l D yX5_refusal wsX5_refusal rmX5_refusal [.ref (aM 0), .int p1, .int p2] (wM D aM v) (fun rv w => rv = some (.int r.2) ∧ w = (wM D aM r.1)) (fun _ _ => False) 0 0 := Tc_of htr (by decide +kernel) rfl (Nat.le_of_ble_eq_true rfl) (fun k C E hl hD => by subst hD; exact wkX5_refusal C N aM v p1 p2 r hf E)
abbrev rmX5_fewestOf : Room := { frames := 4, cells := 0, slots := 0, locals := 87 }
theorem hdX5_fewestOf : yX5_fewestOf.cls = RX5 ∧ yX5_fewestOf.cls ≠ "java/lang/invoke/MethodHandle" ∧ yX5_fewestOf.cls ≠ "java/lang/invoke/VarHandle" ∧ (parseMethodDescriptor yX5_fewestOf.desc).map (fun d => d.parameters.length) = some 2 := by decide +kernel
def fX5_fewestOf (N : Nat) (v : VM) (p1 : Int32) (p2 : Int32) : Option (VM × Int32) := ((fX5_fewestFor N v p1).bind fun r1 => (if r1.2 = (0 : Int32) then some (r1.1, (-1)) else (if p2 = (0 : Int32) then ((fX5_ones N r1.2).bind fun r2 => some (r1.1, r2)) else some (r1.1, r1.2))))
set_option maxRecDepth 100000 in
set_option maxHeartbeats 4000000 in
theorem wkX5_fewestOf {k : Kt} (C : gC k cX5_fewestOf 4 RX5 wsX5_fewestOf rmX5_fewestOf "fewestOf") (N : Nat) (aM : Nat → Nat) (v : VM) (p1 : Int32) (p2 : Int32) (r : VM × Int32) (hf : fX5_fewestOf N v p1 p2 = some r) (E : gE k (wM (kD k) aM v) (fun rv w => rv = some (.int r.2) ∧ w = (wM (kD k) aM r.1)) (fun _ _ => False) 0 0 (some .int) []) : gG k (wM (kD k) aM v) [(0, .ref (aM 0)), (1, .int p1), (2, .int p2)] 0 0 0 [] := by
  unfold fX5_fewestOf at hf
  refine g_aload_n (pc := 0) (x := (aM 0)) C dX5_fewestOf_0 rfl ?_
  refine g_iload_n (pc := 1) (x := p1) C dX5_fewestOf_1 rfl ?_
  refine g_callW (wr := []) (pc' := 5) (cs' := 0) (sl' := 0) hf C (fun u => some (.int u.2)) (fun u => (wM (kD k) aM u.1)) (fun u hu => gr_V (rest := []) C (cX5_fewestFor_ (kL k) C.tr (kD k) N aM v p1 u hu) (fun ht => cwV 1 ht gX5_fewestOf_X5_fewestFor rfl rfl rfl hdX5_fewestFor ⟨(Nat.le_of_ble_eq_true rfl), (Nat.le_of_ble_eq_true rfl)⟩) 0 rfl rfl [0, 1, 2, 3, 4, 5, 6, 7, 8, 9] rfl (by decide) rfl rfl (Nat.le_of_ble_eq_true rfl) dX5_fewestOf_2 ⟨(Nat.le_of_ble_eq_true rfl), (Nat.le_of_ble_eq_true rfl)⟩) [0, 1, 2, 3, 4, 5, 6, 7, 8, 9] [] rfl rfl (by decide) (by decide) [0, 1, 2, 3, 4, 5, 6, 7, 8, 9] (by decide) (ws' := fun u => (wM (kD k) aM u.1)) (fun u => rfl) rfl rfl rfl (fun u => [.int u.2]) (fun u => rfl) (fun r1 hf => ?_)
  refine g_istore_n (pc := 5) (lv' := [(3, .int r1.2), (0, .ref (aM 0)), (1, .int p1), (2, .int p2)]) C dX5_fewestOf_5 (by decide) rfl ?_
  refine g_iload_n (pc := 6) (x := r1.2) C dX5_fewestOf_6 rfl ?_
  refine g_if_ne (pc := 7) (tgt := 14) (x := r1.2) hf C dX5_fewestOf_7 (by decide) (fun hf => ?_) (fun hf => ?_)
  · refine g_iload_n (pc := 14) (x := p2) C dX5_fewestOf_14 rfl ?_
    refine g_if_ne (pc := 15) (tgt := 25) (x := p2) hf C dX5_fewestOf_15 (by decide) (fun hf => ?_) (fun hf => ?_)
    · refine g_iload_n (pc := 25) (x := r1.2) C dX5_fewestOf_25 rfl ?_
      obtain rfl := Option.some.inj hf
      exact g_iret (v := r1.2) C E dX5_fewestOf_26 (Nat.le_of_ble_eq_true rfl) (Nat.le_of_ble_eq_true rfl) ⟨rfl, rfl⟩
    · refine g_iload_n (pc := 18) (x := r1.2) C dX5_fewestOf_18 rfl ?_
      refine g_callR (pc' := 22) (cs' := 0) (sl' := 0) hf C (fun u => some (.int u)) (fun u hu => gr_S (rest := []) C (cX5_ones_ (kL k) C.tr (kD k) N r1.2 u hu) (fun ht => va_cwS 1 ht gX5_fewestOf_X5_ones rfl rfl rfl hsX5_ones ⟨(Nat.le_of_ble_eq_true rfl), (Nat.le_of_ble_eq_true rfl)⟩) [] rfl (by decide) rfl rfl (Nat.le_of_ble_eq_true rfl) dX5_fewestOf_19 ⟨(Nat.le_of_ble_eq_true rfl), (Nat.le_of_ble_eq_true rfl)⟩) [] rfl rfl rfl rfl (fun u => [.int u]) (fun u => rfl) (fun r2 hf => ?_)
      refine g_goto (pc := 22) (tgt := 26) C dX5_fewestOf_22 (by decide) ?_
      obtain rfl := Option.some.inj hf
      exact g_iret (v := r2) C E dX5_fewestOf_26 (Nat.le_of_ble_eq_true rfl) (Nat.le_of_ble_eq_true rfl) ⟨rfl, rfl⟩
  · refine g_iconst (pc := 10) (v := (-1)) C dX5_fewestOf_10 (by decide) ?_
    refine g_goto (pc := 11) (tgt := 26) C dX5_fewestOf_11 (by decide) ?_
    obtain rfl := Option.some.inj hf
    exact g_iret (v := (-1)) C E dX5_fewestOf_26 (Nat.le_of_ble_eq_true rfl) (Nat.le_of_ble_eq_true rfl) ⟨rfl, rfl⟩
set_option maxRecDepth 100000 in
set_option maxHeartbeats 4000000 in
theorem cX5_fewestOf_ (l : Launch) (htr : l.stackTraces = false) (D : va_G) (N : Nat) (aM : Nat → Nat) (v : VM) (p1 : Int32) (p2 : Int32) (r : VM × Int32) (hf : fX5_fewestOf N v p1 p2 = some r) : Tc l D yX5_fewestOf wsX5_fewestOf rmX5_fewestOf [.ref (aM 0), .int p1, .int p2] (wM D aM v) (fun rv w => rv = some (.int r.2) ∧ w = (wM D aM r.1)) (fun _ _ => False) 0 0 := Tc_of htr (by decide +kernel) rfl (Nat.le_of_ble_eq_true rfl) (fun k C E hl hD => by subst hD; exact wkX5_fewestOf C N aM v p1 p2 r hf E)
abbrev rmX5_fewest : Room := { frames := 5, cells := 0, slots := 0, locals := 110 }
theorem inX5_fewest_X5 : ∀ w ∈ wsX50, w ∈ wsX5_fewest := by decide +kernel
theorem lkX5_fewest_38 : Cond.fieldLink RX5 38 "GaugeBlocksModel" (TX5 5).2.1 (TX5 5).2.2.1 ∈ wsX5_fewest := by decide +kernel
theorem hdX5_fewest : yX5_fewest.cls = RX5 ∧ yX5_fewest.cls ≠ "java/lang/invoke/MethodHandle" ∧ yX5_fewest.cls ≠ "java/lang/invoke/VarHandle" ∧ (parseMethodDescriptor yX5_fewest.desc).map (fun d => d.parameters.length) = some 2 := by decide +kernel
def fX5_fewest (N : Nat) (v : VM) (p1 : Int32) (p2 : Int32) : Option (VM × Int32) := ((fX5_isLength N p1).bind fun r1 => (if r1 = true then ((fX5_in N p2 0 1).bind fun r3 => (if r3 = true then ((fX5_fewestOf N ((mRow v), (mSav v), (mSvn v), (mSnp v), (mKep v), 0, (mFre v), (mFrn v), (mBuf v), (mLen v), (mSpt v), (mNum v), (mOrd v), (mLet v), (mFst v), (mSnd v), (mTok v), (mLft v)) p1 p2).bind fun r5 => some (r5.1, r5.2)) else ((fX5_fails N ((mRow v), (mSav v), (mSvn v), (mSnp v), (mKep v), 0, (mFre v), (mFrn v), (mBuf v), (mLen v), (mSpt v), (mNum v), (mOrd v), (mLet v), (mFst v), (mSnd v), (mTok v), (mLft v)) 1).bind fun r4 => some (r4.1, r4.2)))) else ((fX5_fails N ((mRow v), (mSav v), (mSvn v), (mSnp v), (mKep v), 0, (mFre v), (mFrn v), (mBuf v), (mLen v), (mSpt v), (mNum v), (mOrd v), (mLet v), (mFst v), (mSnd v), (mTok v), (mLft v)) 1).bind fun r2 => some (r2.1, r2.2))))
set_option maxRecDepth 100000 in
set_option maxHeartbeats 4000000 in
theorem wkX5_fewest {k : Kt} (C : gC k cX5_fewest 3 RX5 wsX5_fewest rmX5_fewest "fewest") (N : Nat) (aM : Nat → Nat) (v : VM) (p1 : Int32) (p2 : Int32) (r : VM × Int32) (hf : fX5_fewest N v p1 p2 = some r) (E : gE k (wM (kD k) aM v) (fun rv w => rv = some (.int r.2) ∧ w = (wM (kD k) aM r.1)) (fun _ _ => False) 0 0 (some .int) []) : gG k (wM (kD k) aM v) [(0, .ref (aM 0)), (1, .int p1), (2, .int p2)] 0 0 0 [] := by
  unfold fX5_fewest at hf
  refine g_aload_n (pc := 0) (x := (aM 0)) C dX5_fewest_0 rfl ?_
  refine g_iconst (pc := 1) (v := 0) C dX5_fewest_1 (by decide) ?_
  refine g_putf (pc := 2) C 0 rfl rfl inX5_fewest_X5 tyX5 tyX5_ok nmX5 5 (by decide) lkX5_fewest_38 rfl rfl pfX5_5 rfl rfl (Nat.le_of_ble_eq_true rfl) dX5_fewest_2 (ws' := (wM (kD k) aM ((mRow v), (mSav v), (mSvn v), (mSnp v), (mKep v), 0, (mFre v), (mFrn v), (mBuf v), (mLen v), (mSpt v), (mNum v), (mOrd v), (mLet v), (mFst v), (mSnd v), (mTok v), (mLft v)))) rfl ?_
  refine g_iload_n (pc := 5) (x := p1) C dX5_fewest_5 rfl ?_
  refine g_callR (pc' := 9) (cs' := 0) (sl' := 0) hf C (fun u => some (.int (b2i u))) (fun u hu => gr_S (rest := []) C (cX5_isLength_ (kL k) C.tr (kD k) N p1 u hu) (fun ht => va_cwS 1 ht gX5_fewest_X5_isLength rfl rfl rfl hsX5_isLength ⟨(Nat.le_of_ble_eq_true rfl), (Nat.le_of_ble_eq_true rfl)⟩) [] rfl (by decide) rfl rfl (Nat.le_of_ble_eq_true rfl) dX5_fewest_6 ⟨(Nat.le_of_ble_eq_true rfl), (Nat.le_of_ble_eq_true rfl)⟩) [] rfl rfl rfl rfl (fun u => [.int (b2i u)]) (fun u => rfl) (fun r1 hf => ?_)
  refine g_ifB_eq (pc := 9) (tgt := 30) (b := r1) hf C dX5_fewest_9 (by decide) (fun hf => ?_) (fun hf => ?_)
  · refine g_aload_n (pc := 30) (x := (aM 0)) C dX5_fewest_30 rfl ?_
    refine g_iconst (pc := 31) (v := 1) C dX5_fewest_31 (by decide) ?_
    refine g_callW (wr := []) (pc' := 35) (cs' := 0) (sl' := 0) hf C (fun u => some (.int u.2)) (fun u => (wM (kD k) aM u.1)) (fun u hu => gr_V (rest := []) C (cX5_fails_ (kL k) C.tr (kD k) N aM ((mRow v), (mSav v), (mSvn v), (mSnp v), (mKep v), 0, (mFre v), (mFrn v), (mBuf v), (mLen v), (mSpt v), (mNum v), (mOrd v), (mLet v), (mFst v), (mSnd v), (mTok v), (mLft v)) 1 u hu) (fun ht => cwV 1 ht gX5_fewest_X5_fails rfl rfl rfl hdX5_fails ⟨(Nat.le_of_ble_eq_true rfl), (Nat.le_of_ble_eq_true rfl)⟩) 0 rfl rfl [0, 1, 2, 3, 4, 5, 6, 7, 8, 9] rfl (by decide) rfl rfl (Nat.le_of_ble_eq_true rfl) dX5_fewest_32 ⟨(Nat.le_of_ble_eq_true rfl), (Nat.le_of_ble_eq_true rfl)⟩) [0, 1, 2, 3, 4, 5, 6, 7, 8, 9] [] rfl rfl (by decide) (by decide) [0, 1, 2, 3, 4, 5, 6, 7, 8, 9] (by decide) (ws' := fun u => (wM (kD k) aM u.1)) (fun u => rfl) rfl rfl rfl (fun u => [.int u.2]) (fun u => rfl) (fun r2 hf => ?_)
    obtain rfl := Option.some.inj hf
    exact g_iret (v := r2.2) C E dX5_fewest_35 (Nat.le_of_ble_eq_true rfl) (Nat.le_of_ble_eq_true rfl) ⟨rfl, rfl⟩
  · refine g_iload_n (pc := 12) (x := p2) C dX5_fewest_12 rfl ?_
    refine g_iconst (pc := 13) (v := 0) C dX5_fewest_13 (by decide) ?_
    refine g_iconst (pc := 14) (v := 1) C dX5_fewest_14 (by decide) ?_
    refine g_callR (pc' := 18) (cs' := 0) (sl' := 0) hf C (fun u => some (.int (b2i u))) (fun u hu => gr_S (rest := []) C (cX5_in_ (kL k) C.tr (kD k) N p2 0 1 u hu) (fun ht => va_cwS 3 ht gX5_fewest_X5_in rfl rfl rfl hsX5_in ⟨(Nat.le_of_ble_eq_true rfl), (Nat.le_of_ble_eq_true rfl)⟩) [] rfl (by decide) rfl rfl (Nat.le_of_ble_eq_true rfl) dX5_fewest_15 ⟨(Nat.le_of_ble_eq_true rfl), (Nat.le_of_ble_eq_true rfl)⟩) [] rfl rfl rfl rfl (fun u => [.int (b2i u)]) (fun u => rfl) (fun r3 hf => ?_)
    refine g_ifB_eq (pc := 18) (tgt := 30) (b := r3) hf C dX5_fewest_18 (by decide) (fun hf => ?_) (fun hf => ?_)
    · refine g_aload_n (pc := 30) (x := (aM 0)) C dX5_fewest_30 rfl ?_
      refine g_iconst (pc := 31) (v := 1) C dX5_fewest_31 (by decide) ?_
      refine g_callW (wr := []) (pc' := 35) (cs' := 0) (sl' := 0) hf C (fun u => some (.int u.2)) (fun u => (wM (kD k) aM u.1)) (fun u hu => gr_V (rest := []) C (cX5_fails_ (kL k) C.tr (kD k) N aM ((mRow v), (mSav v), (mSvn v), (mSnp v), (mKep v), 0, (mFre v), (mFrn v), (mBuf v), (mLen v), (mSpt v), (mNum v), (mOrd v), (mLet v), (mFst v), (mSnd v), (mTok v), (mLft v)) 1 u hu) (fun ht => cwV 1 ht gX5_fewest_X5_fails rfl rfl rfl hdX5_fails ⟨(Nat.le_of_ble_eq_true rfl), (Nat.le_of_ble_eq_true rfl)⟩) 0 rfl rfl [0, 1, 2, 3, 4, 5, 6, 7, 8, 9] rfl (by decide) rfl rfl (Nat.le_of_ble_eq_true rfl) dX5_fewest_32 ⟨(Nat.le_of_ble_eq_true rfl), (Nat.le_of_ble_eq_true rfl)⟩) [0, 1, 2, 3, 4, 5, 6, 7, 8, 9] [] rfl rfl (by decide) (by decide) [0, 1, 2, 3, 4, 5, 6, 7, 8, 9] (by decide) (ws' := fun u => (wM (kD k) aM u.1)) (fun u => rfl) rfl rfl rfl (fun u => [.int u.2]) (fun u => rfl) (fun r4 hf => ?_)
      obtain rfl := Option.some.inj hf
      exact g_iret (v := r4.2) C E dX5_fewest_35 (Nat.le_of_ble_eq_true rfl) (Nat.le_of_ble_eq_true rfl) ⟨rfl, rfl⟩
    · refine g_aload_n (pc := 21) (x := (aM 0)) C dX5_fewest_21 rfl ?_
      refine g_iload_n (pc := 22) (x := p1) C dX5_fewest_22 rfl ?_
      refine g_iload_n (pc := 23) (x := p2) C dX5_fewest_23 rfl ?_
      refine g_callW (wr := []) (pc' := 27) (cs' := 0) (sl' := 0) hf C (fun u => some (.int u.2)) (fun u => (wM (kD k) aM u.1)) (fun u hu => gr_V (rest := []) C (cX5_fewestOf_ (kL k) C.tr (kD k) N aM ((mRow v), (mSav v), (mSvn v), (mSnp v), (mKep v), 0, (mFre v), (mFrn v), (mBuf v), (mLen v), (mSpt v), (mNum v), (mOrd v), (mLet v), (mFst v), (mSnd v), (mTok v), (mLft v)) p1 p2 u hu) (fun ht => cwV 2 ht gX5_fewest_X5_fewestOf rfl rfl rfl hdX5_fewestOf ⟨(Nat.le_of_ble_eq_true rfl), (Nat.le_of_ble_eq_true rfl)⟩) 0 rfl rfl [0, 1, 2, 3, 4, 5, 6, 7, 8, 9] rfl (by decide) rfl rfl (Nat.le_of_ble_eq_true rfl) dX5_fewest_24 ⟨(Nat.le_of_ble_eq_true rfl), (Nat.le_of_ble_eq_true rfl)⟩) [0, 1, 2, 3, 4, 5, 6, 7, 8, 9] [] rfl rfl (by decide) (by decide) [0, 1, 2, 3, 4, 5, 6, 7, 8, 9] (by decide) (ws' := fun u => (wM (kD k) aM u.1)) (fun u => rfl) rfl rfl rfl (fun u => [.int u.2]) (fun u => rfl) (fun r5 hf => ?_)
      refine g_goto (pc := 27) (tgt := 35) C dX5_fewest_27 (by decide) ?_
      obtain rfl := Option.some.inj hf
      exact g_iret (v := r5.2) C E dX5_fewest_35 (Nat.le_of_ble_eq_true rfl) (Nat.le_of_ble_eq_true rfl) ⟨rfl, rfl⟩
set_option maxRecDepth 100000 in
set_option maxHeartbeats 4000000 in
theorem cX5_fewest_ (l : Launch) (htr : l.stackTraces = false) (D : va_G) (N : Nat) (aM : Nat → Nat) (v : VM) (p1 : Int32) (p2 : Int32) (r : VM × Int32) (hf : fX5_fewest N v p1 p2 = some r) : Tc l D yX5_fewest wsX5_fewest rmX5_fewest [.ref (aM 0), .int p1, .int p2] (wM D aM v) (fun rv w => rv = some (.int r.2) ∧ w = (wM D aM r.1)) (fun _ _ => False) 0 0 := Tc_of htr (by decide +kernel) rfl (Nat.le_of_ble_eq_true rfl) (fun k C E hl hD => by subst hD; exact wkX5_fewest C N aM v p1 p2 r hf E)
abbrev rmX5_nextOld : Room := { frames := 2, cells := 0, slots := 0, locals := 43 }
theorem inX5_nextOld_X5 : ∀ w ∈ wsX50, w ∈ wsX5_nextOld := by decide +kernel
theorem lkX5_nextOld_227 : Cond.fieldLink RX5 227 "GaugeBlocksModel" (TX5 17).2.1 (TX5 17).2.2.1 ∈ wsX5_nextOld := by decide +kernel
theorem lkX5_nextOld_7 : Cond.fieldLink RX5 7 "GaugeBlocksModel" (TX5 0).2.1 (TX5 0).2.2.1 ∈ wsX5_nextOld := by decide +kernel
theorem lkX5_nextOld_230 : Cond.fieldLink RX5 230 "GaugeBlocksModel" (TX5 16).2.1 (TX5 16).2.2.1 ∈ wsX5_nextOld := by decide +kernel
theorem hdX5_nextOld : yX5_nextOld.cls = RX5 ∧ yX5_nextOld.cls ≠ "java/lang/invoke/MethodHandle" ∧ yX5_nextOld.cls ≠ "java/lang/invoke/VarHandle" ∧ (parseMethodDescriptor yX5_nextOld.desc).map (fun d => d.parameters.length) = some 0 := by decide +kernel
def lX5_nextOld_3 (N : Nat) (v : VM) : Nat → Int32 → Option ((Int32))
  | 0, _ => none
  | n + 1, l1 => cz l1 ((if ((mLft v) - (mLft v) / l1 * l1) = (0 : Int32) then (lX5_nextOld_3 N v n (l1 * 10)) else some l1))
set_option maxRecDepth 100000 in
set_option maxHeartbeats 4000000 in
theorem wlX5_nextOld_3 {k : Kt} (C : gC k cX5_nextOld 6 RX5 wsX5_nextOld rmX5_nextOld "nextOld") (N : Nat) (aM : Nat → Nat) (v : VM) : ∀ (n : Nat) (l1 : Int32) (u : (Int32)) (hf : lX5_nextOld_3 N v n l1 = some u) (hk0 : gG k (wM (kD k) aM v) [(0, .ref (aM 0)), (1, .int u)] 0 0 20 []), gG k (wM (kD k) aM v) [(0, .ref (aM 0)), (1, .int l1)] 0 0 3 [] := by
  intro n
  induction n with
  | zero => intro l1 u hf hk0; rw [lX5_nextOld_3] at hf; cases hf
  | succ n ih =>
    intro l1 u hf hk0
    rw [lX5_nextOld_3] at hf
    refine g_aload_n (pc := 3) (x := (aM 0)) C dX5_nextOld_3 rfl ?_
    refine g_getf (pc := 4) C 0 rfl rfl inX5_nextOld_X5 17 (by decide) lkX5_nextOld_227 rfl rfl dX5_nextOld_4 ?_
    refine g_iload_n (pc := 7) (x := l1) C dX5_nextOld_7 rfl ?_
    refine g_iremz (pc := 8) (x := (mLft v)) (y := l1) hf C dX5_nextOld_8 (fun hf => ?_)
    refine g_if_ne (pc := 9) (tgt := 20) (x := ((mLft v) - (mLft v) / l1 * l1)) hf C dX5_nextOld_9 (by decide) (fun hf => ?_) (fun hf => ?_)
    · obtain rfl := Option.some.inj hf
      exact hk0
    · refine g_iload_n (pc := 12) (x := l1) C dX5_nextOld_12 rfl ?_
      refine g_bipush (pc := 13) (v := 10) C dX5_nextOld_13 (by decide) ?_
      refine g_imul (pc := 15) (x := l1) (y := 10) C dX5_nextOld_15 ?_
      refine g_istore_n (pc := 16) (lv' := [(1, .int (l1 * 10)), (0, .ref (aM 0))]) C dX5_nextOld_16 (by decide) rfl ?_
      refine g_goto (pc := 17) (tgt := 3) C dX5_nextOld_17 (by decide) ?_
      refine g_lv [1, 0] (lv' := [(0, .ref (aM 0)), (1, .int (l1 * 10))]) rfl ?_
      exact ih (l1 * 10) u hf hk0
def lX5_nextOld_24 (N : Nat) (v : VM) (l1 : Int32) : Nat → Int32 → Int32 → Option ((Int32))
  | 0, _, _ => none
  | n + 1, l2, l3 => ck 8 149 ((if ((mRow v) (Int32.toNatClampNeg 8)) ≤ l3 then some l2 else ((fX5_of N v l3 0).bind fun r1 => ((fX5_isFree N v l3).bind fun r2 => (if r2 = true then (if (((mTok v) >>> (l3 &&& 31)) &&& 1) = (0 : Int32) then (if (mLft v) < r1 then (if (0 : Int32) = (0 : Int32) then (lX5_nextOld_24 N v l1 n l2 (l3 + 1)) else (if l2 = ((-1) : Int32) then (lX5_nextOld_24 N v l1 n l3 (l3 + 1)) else ((fX5_of N v l2 0).bind fun r5 => (if r1 ≤ r5 then (lX5_nextOld_24 N v l1 n l2 (l3 + 1)) else (lX5_nextOld_24 N v l1 n l3 (l3 + 1)))))) else cz l1 ((if (((mLft v) - r1) - ((mLft v) - r1) / l1 * l1) = (0 : Int32) then (if (1 : Int32) = (0 : Int32) then (lX5_nextOld_24 N v l1 n l2 (l3 + 1)) else (if l2 = ((-1) : Int32) then (lX5_nextOld_24 N v l1 n l3 (l3 + 1)) else ((fX5_of N v l2 0).bind fun r7 => (if r1 ≤ r7 then (lX5_nextOld_24 N v l1 n l2 (l3 + 1)) else (lX5_nextOld_24 N v l1 n l3 (l3 + 1)))))) else (if (0 : Int32) = (0 : Int32) then (lX5_nextOld_24 N v l1 n l2 (l3 + 1)) else (if l2 = ((-1) : Int32) then (lX5_nextOld_24 N v l1 n l3 (l3 + 1)) else ((fX5_of N v l2 0).bind fun r6 => (if r1 ≤ r6 then (lX5_nextOld_24 N v l1 n l2 (l3 + 1)) else (lX5_nextOld_24 N v l1 n l3 (l3 + 1))))))))) else (if (0 : Int32) = (0 : Int32) then (lX5_nextOld_24 N v l1 n l2 (l3 + 1)) else (if l2 = ((-1) : Int32) then (lX5_nextOld_24 N v l1 n l3 (l3 + 1)) else ((fX5_of N v l2 0).bind fun r4 => (if r1 ≤ r4 then (lX5_nextOld_24 N v l1 n l2 (l3 + 1)) else (lX5_nextOld_24 N v l1 n l3 (l3 + 1))))))) else (if (0 : Int32) = (0 : Int32) then (lX5_nextOld_24 N v l1 n l2 (l3 + 1)) else (if l2 = ((-1) : Int32) then (lX5_nextOld_24 N v l1 n l3 (l3 + 1)) else ((fX5_of N v l2 0).bind fun r3 => (if r1 ≤ r3 then (lX5_nextOld_24 N v l1 n l2 (l3 + 1)) else (lX5_nextOld_24 N v l1 n l3 (l3 + 1)))))))))))
set_option maxRecDepth 100000 in
set_option maxHeartbeats 4000000 in
theorem wlX5_nextOld_24 {k : Kt} (C : gC k cX5_nextOld 6 RX5 wsX5_nextOld rmX5_nextOld "nextOld") (N : Nat) (aM : Nat → Nat) (v : VM) (l1 : Int32) : ∀ (n : Nat) (l2 : Int32) (l3 : Int32) (u : (Int32)) (hf : lX5_nextOld_24 N v l1 n l2 l3 = some u) (hk0 : gG k (wM (kD k) aM v) [(2, .int u)] 0 0 123 []), gG k (wM (kD k) aM v) [(0, .ref (aM 0)), (1, .int l1), (2, .int l2), (3, .int l3)] 0 0 24 [] := by
  intro n
  induction n with
  | zero => intro l2 l3 u hf hk0; rw [lX5_nextOld_24] at hf; cases hf
  | succ n ih =>
    intro l2 l3 u hf hk0
    rw [lX5_nextOld_24] at hf
    refine g_iload_n (pc := 24) (x := l3) C dX5_nextOld_24 rfl ?_
    refine g_aload_n (pc := 25) (x := (aM 0)) C dX5_nextOld_25 rfl ?_
    refine g_getf (pc := 26) C 0 rfl rfl inX5_nextOld_X5 0 (by decide) lkX5_nextOld_7 rfl rfl dX5_nextOld_26 ?_
    refine g_bipush (pc := 29) (v := 8) C dX5_nextOld_29 (by decide) ?_
    refine g_iald (pc := 31) (i := 8) hf C 1 rfl dX5_nextOld_31 (fun hf => ?_)
    refine g_icmp_ge (pc := 32) (tgt := 123) (x := l3) (y := ((mRow v) (Int32.toNatClampNeg 8))) hf C dX5_nextOld_32 (by decide) (fun hf => ?_) (fun hf => ?_)
    · obtain rfl := Option.some.inj hf
      refine g_lv [2] (lv' := [(2, .int l2)]) rfl ?_
      exact hk0
    · refine g_aload_n (pc := 35) (x := (aM 0)) C dX5_nextOld_35 rfl ?_
      refine g_iload_n (pc := 36) (x := l3) C dX5_nextOld_36 rfl ?_
      refine g_iconst (pc := 37) (v := 0) C dX5_nextOld_37 (by decide) ?_
      refine g_callR (pc' := 41) (cs' := 0) (sl' := 0) hf C (fun u => some (.int u)) (fun u hu => gr_V (rest := []) C (cX5_of_ (kL k) C.tr (kD k) N aM v l3 0 u hu) (fun ht => cwV 2 ht gX5_nextOld_X5_of rfl rfl rfl hdX5_of ⟨(Nat.le_of_ble_eq_true rfl), (Nat.le_of_ble_eq_true rfl)⟩) 0 rfl rfl [0, 1, 2, 3, 4, 5, 6, 7, 8, 9] rfl (by decide) rfl rfl (Nat.le_of_ble_eq_true rfl) dX5_nextOld_38 ⟨(Nat.le_of_ble_eq_true rfl), (Nat.le_of_ble_eq_true rfl)⟩) [0, 1, 2, 3, 4, 5, 6, 7, 8, 9] rfl rfl rfl rfl (fun u => [.int u]) (fun u => rfl) (fun r1 hf => ?_)
      refine g_istore (pc := 41) (lv' := [(4, .int r1), (0, .ref (aM 0)), (1, .int l1), (2, .int l2), (3, .int l3)]) C dX5_nextOld_41 (by decide) rfl ?_
      refine g_aload_n (pc := 43) (x := (aM 0)) C dX5_nextOld_43 rfl ?_
      refine g_iload_n (pc := 44) (x := l3) C dX5_nextOld_44 rfl ?_
      refine g_callR (pc' := 48) (cs' := 0) (sl' := 0) hf C (fun u => some (.int (b2i u))) (fun u hu => gr_V (rest := []) C (cX5_isFree_ (kL k) C.tr (kD k) N aM v l3 u hu) (fun ht => cwV 1 ht gX5_nextOld_X5_isFree rfl rfl rfl hdX5_isFree ⟨(Nat.le_of_ble_eq_true rfl), (Nat.le_of_ble_eq_true rfl)⟩) 0 rfl rfl [0, 1, 2, 3, 4, 5, 6, 7, 8, 9] rfl (by decide) rfl rfl (Nat.le_of_ble_eq_true rfl) dX5_nextOld_45 ⟨(Nat.le_of_ble_eq_true rfl), (Nat.le_of_ble_eq_true rfl)⟩) [0, 1, 2, 3, 4, 5, 6, 7, 8, 9] rfl rfl rfl rfl (fun u => [.int (b2i u)]) (fun u => rfl) (fun r2 hf => ?_)
      refine g_ifB_eq (pc := 48) (tgt := 87) (b := r2) hf C dX5_nextOld_48 (by decide) (fun hf => ?_) (fun hf => ?_)
      · refine g_iconst (pc := 87) (v := 0) C dX5_nextOld_87 (by decide) ?_
        refine g_istore (pc := 88) (lv' := [(5, .int 0), (4, .int r1), (0, .ref (aM 0)), (1, .int l1), (2, .int l2), (3, .int l3)]) C dX5_nextOld_88 (by decide) rfl ?_
        refine g_iload (pc := 90) (x := 0) C dX5_nextOld_90 rfl ?_
        refine g_if_eq (pc := 92) (tgt := 115) (x := 0) hf C dX5_nextOld_92 (by decide) (fun hf => ?_) (fun hf => ?_)
        · refine g_iload_n (pc := 115) (x := l2) C dX5_nextOld_115 rfl ?_
          refine g_istore_n (pc := 116) (lv' := [(2, .int l2), (5, .int 0), (4, .int r1), (0, .ref (aM 0)), (1, .int l1), (3, .int l3)]) C dX5_nextOld_116 (by decide) rfl ?_
          refine g_iinc (pc := 117) (x := l3) (v := (l3 + 1)) (lv' := [(3, .int (l3 + 1)), (2, .int l2), (5, .int 0), (4, .int r1), (0, .ref (aM 0)), (1, .int l1)]) C dX5_nextOld_117 rfl rfl (by decide) rfl ?_
          refine g_goto (pc := 120) (tgt := 24) C dX5_nextOld_120 (by decide) ?_
          refine g_lv [4, 5, 1, 0] (lv' := [(0, .ref (aM 0)), (1, .int l1), (2, .int l2), (3, .int (l3 + 1))]) rfl ?_
          exact ih l2 (l3 + 1) u hf hk0
        · refine g_iload_n (pc := 95) (x := l2) C dX5_nextOld_95 rfl ?_
          refine g_iconst (pc := 96) (v := (-1)) C dX5_nextOld_96 (by decide) ?_
          refine g_icmp_eq (pc := 97) (tgt := 111) (x := l2) (y := (-1)) hf C dX5_nextOld_97 (by decide) (fun hf => ?_) (fun hf => ?_)
          · refine g_iload_n (pc := 111) (x := l3) C dX5_nextOld_111 rfl ?_
            refine g_goto (pc := 112) (tgt := 116) C dX5_nextOld_112 (by decide) ?_
            refine g_istore_n (pc := 116) (lv' := [(2, .int l3), (5, .int 0), (4, .int r1), (0, .ref (aM 0)), (1, .int l1), (3, .int l3)]) C dX5_nextOld_116 (by decide) rfl ?_
            refine g_iinc (pc := 117) (x := l3) (v := (l3 + 1)) (lv' := [(3, .int (l3 + 1)), (2, .int l3), (5, .int 0), (4, .int r1), (0, .ref (aM 0)), (1, .int l1)]) C dX5_nextOld_117 rfl rfl (by decide) rfl ?_
            refine g_goto (pc := 120) (tgt := 24) C dX5_nextOld_120 (by decide) ?_
            refine g_lv [4, 5, 1, 0] (lv' := [(0, .ref (aM 0)), (1, .int l1), (2, .int l3), (3, .int (l3 + 1))]) rfl ?_
            exact ih l3 (l3 + 1) u hf hk0
          · refine g_iload (pc := 100) (x := r1) C dX5_nextOld_100 rfl ?_
            refine g_aload_n (pc := 102) (x := (aM 0)) C dX5_nextOld_102 rfl ?_
            refine g_iload_n (pc := 103) (x := l2) C dX5_nextOld_103 rfl ?_
            refine g_iconst (pc := 104) (v := 0) C dX5_nextOld_104 (by decide) ?_
            refine g_callR (pc' := 108) (cs' := 0) (sl' := 0) hf C (fun u => some (.int u)) (fun u hu => gr_V (rest := [.int r1]) C (cX5_of_ (kL k) C.tr (kD k) N aM v l2 0 u hu) (fun ht => cwV 2 ht gX5_nextOld_X5_of rfl rfl rfl hdX5_of ⟨(Nat.le_of_ble_eq_true rfl), (Nat.le_of_ble_eq_true rfl)⟩) 0 rfl rfl [0, 1, 2, 3, 4, 5, 6, 7, 8, 9] rfl (by decide) rfl rfl (Nat.le_of_ble_eq_true rfl) dX5_nextOld_105 ⟨(Nat.le_of_ble_eq_true rfl), (Nat.le_of_ble_eq_true rfl)⟩) [0, 1, 2, 3, 4, 5, 6, 7, 8, 9] rfl rfl rfl rfl (fun u => [.int u, .int r1]) (fun u => rfl) (fun r3 hf => ?_)
            refine g_icmp_le (pc := 108) (tgt := 115) (x := r1) (y := r3) hf C dX5_nextOld_108 (by decide) (fun hf => ?_) (fun hf => ?_)
            · refine g_iload_n (pc := 115) (x := l2) C dX5_nextOld_115 rfl ?_
              refine g_istore_n (pc := 116) (lv' := [(2, .int l2), (5, .int 0), (4, .int r1), (0, .ref (aM 0)), (1, .int l1), (3, .int l3)]) C dX5_nextOld_116 (by decide) rfl ?_
              refine g_iinc (pc := 117) (x := l3) (v := (l3 + 1)) (lv' := [(3, .int (l3 + 1)), (2, .int l2), (5, .int 0), (4, .int r1), (0, .ref (aM 0)), (1, .int l1)]) C dX5_nextOld_117 rfl rfl (by decide) rfl ?_
              refine g_goto (pc := 120) (tgt := 24) C dX5_nextOld_120 (by decide) ?_
              refine g_lv [4, 5, 1, 0] (lv' := [(0, .ref (aM 0)), (1, .int l1), (2, .int l2), (3, .int (l3 + 1))]) rfl ?_
              exact ih l2 (l3 + 1) u hf hk0
            · refine g_iload_n (pc := 111) (x := l3) C dX5_nextOld_111 rfl ?_
              refine g_goto (pc := 112) (tgt := 116) C dX5_nextOld_112 (by decide) ?_
              refine g_istore_n (pc := 116) (lv' := [(2, .int l3), (5, .int 0), (4, .int r1), (0, .ref (aM 0)), (1, .int l1), (3, .int l3)]) C dX5_nextOld_116 (by decide) rfl ?_
              refine g_iinc (pc := 117) (x := l3) (v := (l3 + 1)) (lv' := [(3, .int (l3 + 1)), (2, .int l3), (5, .int 0), (4, .int r1), (0, .ref (aM 0)), (1, .int l1)]) C dX5_nextOld_117 rfl rfl (by decide) rfl ?_
              refine g_goto (pc := 120) (tgt := 24) C dX5_nextOld_120 (by decide) ?_
              refine g_lv [4, 5, 1, 0] (lv' := [(0, .ref (aM 0)), (1, .int l1), (2, .int l3), (3, .int (l3 + 1))]) rfl ?_
              exact ih l3 (l3 + 1) u hf hk0
      · refine g_aload_n (pc := 51) (x := (aM 0)) C dX5_nextOld_51 rfl ?_
        refine g_getf (pc := 52) C 0 rfl rfl inX5_nextOld_X5 16 (by decide) lkX5_nextOld_230 rfl rfl dX5_nextOld_52 ?_
        refine g_iload_n (pc := 55) (x := l3) C dX5_nextOld_55 rfl ?_
        refine g_ishr (pc := 56) (x := (mTok v)) (y := l3) C dX5_nextOld_56 ?_
        refine g_iconst (pc := 57) (v := 1) C dX5_nextOld_57 (by decide) ?_
        refine g_iand (pc := 58) (x := ((mTok v) >>> (l3 &&& 31))) (y := 1) C dX5_nextOld_58 ?_
        refine g_if_ne (pc := 59) (tgt := 87) (x := (((mTok v) >>> (l3 &&& 31)) &&& 1)) hf C dX5_nextOld_59 (by decide) (fun hf => ?_) (fun hf => ?_)
        · refine g_iconst (pc := 87) (v := 0) C dX5_nextOld_87 (by decide) ?_
          refine g_istore (pc := 88) (lv' := [(5, .int 0), (4, .int r1), (0, .ref (aM 0)), (1, .int l1), (2, .int l2), (3, .int l3)]) C dX5_nextOld_88 (by decide) rfl ?_
          refine g_iload (pc := 90) (x := 0) C dX5_nextOld_90 rfl ?_
          refine g_if_eq (pc := 92) (tgt := 115) (x := 0) hf C dX5_nextOld_92 (by decide) (fun hf => ?_) (fun hf => ?_)
          · refine g_iload_n (pc := 115) (x := l2) C dX5_nextOld_115 rfl ?_
            refine g_istore_n (pc := 116) (lv' := [(2, .int l2), (5, .int 0), (4, .int r1), (0, .ref (aM 0)), (1, .int l1), (3, .int l3)]) C dX5_nextOld_116 (by decide) rfl ?_
            refine g_iinc (pc := 117) (x := l3) (v := (l3 + 1)) (lv' := [(3, .int (l3 + 1)), (2, .int l2), (5, .int 0), (4, .int r1), (0, .ref (aM 0)), (1, .int l1)]) C dX5_nextOld_117 rfl rfl (by decide) rfl ?_
            refine g_goto (pc := 120) (tgt := 24) C dX5_nextOld_120 (by decide) ?_
            refine g_lv [4, 5, 1, 0] (lv' := [(0, .ref (aM 0)), (1, .int l1), (2, .int l2), (3, .int (l3 + 1))]) rfl ?_
            exact ih l2 (l3 + 1) u hf hk0
          · refine g_iload_n (pc := 95) (x := l2) C dX5_nextOld_95 rfl ?_
            refine g_iconst (pc := 96) (v := (-1)) C dX5_nextOld_96 (by decide) ?_
            refine g_icmp_eq (pc := 97) (tgt := 111) (x := l2) (y := (-1)) hf C dX5_nextOld_97 (by decide) (fun hf => ?_) (fun hf => ?_)
            · refine g_iload_n (pc := 111) (x := l3) C dX5_nextOld_111 rfl ?_
              refine g_goto (pc := 112) (tgt := 116) C dX5_nextOld_112 (by decide) ?_
              refine g_istore_n (pc := 116) (lv' := [(2, .int l3), (5, .int 0), (4, .int r1), (0, .ref (aM 0)), (1, .int l1), (3, .int l3)]) C dX5_nextOld_116 (by decide) rfl ?_
              refine g_iinc (pc := 117) (x := l3) (v := (l3 + 1)) (lv' := [(3, .int (l3 + 1)), (2, .int l3), (5, .int 0), (4, .int r1), (0, .ref (aM 0)), (1, .int l1)]) C dX5_nextOld_117 rfl rfl (by decide) rfl ?_
              refine g_goto (pc := 120) (tgt := 24) C dX5_nextOld_120 (by decide) ?_
              refine g_lv [4, 5, 1, 0] (lv' := [(0, .ref (aM 0)), (1, .int l1), (2, .int l3), (3, .int (l3 + 1))]) rfl ?_
              exact ih l3 (l3 + 1) u hf hk0
            · refine g_iload (pc := 100) (x := r1) C dX5_nextOld_100 rfl ?_
              refine g_aload_n (pc := 102) (x := (aM 0)) C dX5_nextOld_102 rfl ?_
              refine g_iload_n (pc := 103) (x := l2) C dX5_nextOld_103 rfl ?_
              refine g_iconst (pc := 104) (v := 0) C dX5_nextOld_104 (by decide) ?_
              refine g_callR (pc' := 108) (cs' := 0) (sl' := 0) hf C (fun u => some (.int u)) (fun u hu => gr_V (rest := [.int r1]) C (cX5_of_ (kL k) C.tr (kD k) N aM v l2 0 u hu) (fun ht => cwV 2 ht gX5_nextOld_X5_of rfl rfl rfl hdX5_of ⟨(Nat.le_of_ble_eq_true rfl), (Nat.le_of_ble_eq_true rfl)⟩) 0 rfl rfl [0, 1, 2, 3, 4, 5, 6, 7, 8, 9] rfl (by decide) rfl rfl (Nat.le_of_ble_eq_true rfl) dX5_nextOld_105 ⟨(Nat.le_of_ble_eq_true rfl), (Nat.le_of_ble_eq_true rfl)⟩) [0, 1, 2, 3, 4, 5, 6, 7, 8, 9] rfl rfl rfl rfl (fun u => [.int u, .int r1]) (fun u => rfl) (fun r4 hf => ?_)
              refine g_icmp_le (pc := 108) (tgt := 115) (x := r1) (y := r4) hf C dX5_nextOld_108 (by decide) (fun hf => ?_) (fun hf => ?_)
              · refine g_iload_n (pc := 115) (x := l2) C dX5_nextOld_115 rfl ?_
                refine g_istore_n (pc := 116) (lv' := [(2, .int l2), (5, .int 0), (4, .int r1), (0, .ref (aM 0)), (1, .int l1), (3, .int l3)]) C dX5_nextOld_116 (by decide) rfl ?_
                refine g_iinc (pc := 117) (x := l3) (v := (l3 + 1)) (lv' := [(3, .int (l3 + 1)), (2, .int l2), (5, .int 0), (4, .int r1), (0, .ref (aM 0)), (1, .int l1)]) C dX5_nextOld_117 rfl rfl (by decide) rfl ?_
                refine g_goto (pc := 120) (tgt := 24) C dX5_nextOld_120 (by decide) ?_
                refine g_lv [4, 5, 1, 0] (lv' := [(0, .ref (aM 0)), (1, .int l1), (2, .int l2), (3, .int (l3 + 1))]) rfl ?_
                exact ih l2 (l3 + 1) u hf hk0
              · refine g_iload_n (pc := 111) (x := l3) C dX5_nextOld_111 rfl ?_
                refine g_goto (pc := 112) (tgt := 116) C dX5_nextOld_112 (by decide) ?_
                refine g_istore_n (pc := 116) (lv' := [(2, .int l3), (5, .int 0), (4, .int r1), (0, .ref (aM 0)), (1, .int l1), (3, .int l3)]) C dX5_nextOld_116 (by decide) rfl ?_
                refine g_iinc (pc := 117) (x := l3) (v := (l3 + 1)) (lv' := [(3, .int (l3 + 1)), (2, .int l3), (5, .int 0), (4, .int r1), (0, .ref (aM 0)), (1, .int l1)]) C dX5_nextOld_117 rfl rfl (by decide) rfl ?_
                refine g_goto (pc := 120) (tgt := 24) C dX5_nextOld_120 (by decide) ?_
                refine g_lv [4, 5, 1, 0] (lv' := [(0, .ref (aM 0)), (1, .int l1), (2, .int l3), (3, .int (l3 + 1))]) rfl ?_
                exact ih l3 (l3 + 1) u hf hk0
        · refine g_iload (pc := 62) (x := r1) C dX5_nextOld_62 rfl ?_
          refine g_aload_n (pc := 64) (x := (aM 0)) C dX5_nextOld_64 rfl ?_
          refine g_getf (pc := 65) C 0 rfl rfl inX5_nextOld_X5 17 (by decide) lkX5_nextOld_227 rfl rfl dX5_nextOld_65 ?_
          refine g_icmp_gt (pc := 68) (tgt := 87) (x := r1) (y := (mLft v)) hf C dX5_nextOld_68 (by decide) (fun hf => ?_) (fun hf => ?_)
          · refine g_iconst (pc := 87) (v := 0) C dX5_nextOld_87 (by decide) ?_
            refine g_istore (pc := 88) (lv' := [(5, .int 0), (4, .int r1), (0, .ref (aM 0)), (1, .int l1), (2, .int l2), (3, .int l3)]) C dX5_nextOld_88 (by decide) rfl ?_
            refine g_iload (pc := 90) (x := 0) C dX5_nextOld_90 rfl ?_
            refine g_if_eq (pc := 92) (tgt := 115) (x := 0) hf C dX5_nextOld_92 (by decide) (fun hf => ?_) (fun hf => ?_)
            · refine g_iload_n (pc := 115) (x := l2) C dX5_nextOld_115 rfl ?_
              refine g_istore_n (pc := 116) (lv' := [(2, .int l2), (5, .int 0), (4, .int r1), (0, .ref (aM 0)), (1, .int l1), (3, .int l3)]) C dX5_nextOld_116 (by decide) rfl ?_
              refine g_iinc (pc := 117) (x := l3) (v := (l3 + 1)) (lv' := [(3, .int (l3 + 1)), (2, .int l2), (5, .int 0), (4, .int r1), (0, .ref (aM 0)), (1, .int l1)]) C dX5_nextOld_117 rfl rfl (by decide) rfl ?_
              refine g_goto (pc := 120) (tgt := 24) C dX5_nextOld_120 (by decide) ?_
              refine g_lv [4, 5, 1, 0] (lv' := [(0, .ref (aM 0)), (1, .int l1), (2, .int l2), (3, .int (l3 + 1))]) rfl ?_
              exact ih l2 (l3 + 1) u hf hk0
            · refine g_iload_n (pc := 95) (x := l2) C dX5_nextOld_95 rfl ?_
              refine g_iconst (pc := 96) (v := (-1)) C dX5_nextOld_96 (by decide) ?_
              refine g_icmp_eq (pc := 97) (tgt := 111) (x := l2) (y := (-1)) hf C dX5_nextOld_97 (by decide) (fun hf => ?_) (fun hf => ?_)
              · refine g_iload_n (pc := 111) (x := l3) C dX5_nextOld_111 rfl ?_
                refine g_goto (pc := 112) (tgt := 116) C dX5_nextOld_112 (by decide) ?_
                refine g_istore_n (pc := 116) (lv' := [(2, .int l3), (5, .int 0), (4, .int r1), (0, .ref (aM 0)), (1, .int l1), (3, .int l3)]) C dX5_nextOld_116 (by decide) rfl ?_
                refine g_iinc (pc := 117) (x := l3) (v := (l3 + 1)) (lv' := [(3, .int (l3 + 1)), (2, .int l3), (5, .int 0), (4, .int r1), (0, .ref (aM 0)), (1, .int l1)]) C dX5_nextOld_117 rfl rfl (by decide) rfl ?_
                refine g_goto (pc := 120) (tgt := 24) C dX5_nextOld_120 (by decide) ?_
                refine g_lv [4, 5, 1, 0] (lv' := [(0, .ref (aM 0)), (1, .int l1), (2, .int l3), (3, .int (l3 + 1))]) rfl ?_
                exact ih l3 (l3 + 1) u hf hk0
              · refine g_iload (pc := 100) (x := r1) C dX5_nextOld_100 rfl ?_
                refine g_aload_n (pc := 102) (x := (aM 0)) C dX5_nextOld_102 rfl ?_
                refine g_iload_n (pc := 103) (x := l2) C dX5_nextOld_103 rfl ?_
                refine g_iconst (pc := 104) (v := 0) C dX5_nextOld_104 (by decide) ?_
                refine g_callR (pc' := 108) (cs' := 0) (sl' := 0) hf C (fun u => some (.int u)) (fun u hu => gr_V (rest := [.int r1]) C (cX5_of_ (kL k) C.tr (kD k) N aM v l2 0 u hu) (fun ht => cwV 2 ht gX5_nextOld_X5_of rfl rfl rfl hdX5_of ⟨(Nat.le_of_ble_eq_true rfl), (Nat.le_of_ble_eq_true rfl)⟩) 0 rfl rfl [0, 1, 2, 3, 4, 5, 6, 7, 8, 9] rfl (by decide) rfl rfl (Nat.le_of_ble_eq_true rfl) dX5_nextOld_105 ⟨(Nat.le_of_ble_eq_true rfl), (Nat.le_of_ble_eq_true rfl)⟩) [0, 1, 2, 3, 4, 5, 6, 7, 8, 9] rfl rfl rfl rfl (fun u => [.int u, .int r1]) (fun u => rfl) (fun r5 hf => ?_)
                refine g_icmp_le (pc := 108) (tgt := 115) (x := r1) (y := r5) hf C dX5_nextOld_108 (by decide) (fun hf => ?_) (fun hf => ?_)
                · refine g_iload_n (pc := 115) (x := l2) C dX5_nextOld_115 rfl ?_
                  refine g_istore_n (pc := 116) (lv' := [(2, .int l2), (5, .int 0), (4, .int r1), (0, .ref (aM 0)), (1, .int l1), (3, .int l3)]) C dX5_nextOld_116 (by decide) rfl ?_
                  refine g_iinc (pc := 117) (x := l3) (v := (l3 + 1)) (lv' := [(3, .int (l3 + 1)), (2, .int l2), (5, .int 0), (4, .int r1), (0, .ref (aM 0)), (1, .int l1)]) C dX5_nextOld_117 rfl rfl (by decide) rfl ?_
                  refine g_goto (pc := 120) (tgt := 24) C dX5_nextOld_120 (by decide) ?_
                  refine g_lv [4, 5, 1, 0] (lv' := [(0, .ref (aM 0)), (1, .int l1), (2, .int l2), (3, .int (l3 + 1))]) rfl ?_
                  exact ih l2 (l3 + 1) u hf hk0
                · refine g_iload_n (pc := 111) (x := l3) C dX5_nextOld_111 rfl ?_
                  refine g_goto (pc := 112) (tgt := 116) C dX5_nextOld_112 (by decide) ?_
                  refine g_istore_n (pc := 116) (lv' := [(2, .int l3), (5, .int 0), (4, .int r1), (0, .ref (aM 0)), (1, .int l1), (3, .int l3)]) C dX5_nextOld_116 (by decide) rfl ?_
                  refine g_iinc (pc := 117) (x := l3) (v := (l3 + 1)) (lv' := [(3, .int (l3 + 1)), (2, .int l3), (5, .int 0), (4, .int r1), (0, .ref (aM 0)), (1, .int l1)]) C dX5_nextOld_117 rfl rfl (by decide) rfl ?_
                  refine g_goto (pc := 120) (tgt := 24) C dX5_nextOld_120 (by decide) ?_
                  refine g_lv [4, 5, 1, 0] (lv' := [(0, .ref (aM 0)), (1, .int l1), (2, .int l3), (3, .int (l3 + 1))]) rfl ?_
                  exact ih l3 (l3 + 1) u hf hk0
          · refine g_aload_n (pc := 71) (x := (aM 0)) C dX5_nextOld_71 rfl ?_
            refine g_getf (pc := 72) C 0 rfl rfl inX5_nextOld_X5 17 (by decide) lkX5_nextOld_227 rfl rfl dX5_nextOld_72 ?_
            refine g_iload (pc := 75) (x := r1) C dX5_nextOld_75 rfl ?_
            refine g_isub (pc := 77) (x := (mLft v)) (y := r1) C dX5_nextOld_77 ?_
            refine g_iload_n (pc := 78) (x := l1) C dX5_nextOld_78 rfl ?_
            refine g_iremz (pc := 79) (x := ((mLft v) - r1)) (y := l1) hf C dX5_nextOld_79 (fun hf => ?_)
            refine g_if_ne (pc := 80) (tgt := 87) (x := (((mLft v) - r1) - ((mLft v) - r1) / l1 * l1)) hf C dX5_nextOld_80 (by decide) (fun hf => ?_) (fun hf => ?_)
            · refine g_iconst (pc := 87) (v := 0) C dX5_nextOld_87 (by decide) ?_
              refine g_istore (pc := 88) (lv' := [(5, .int 0), (4, .int r1), (0, .ref (aM 0)), (1, .int l1), (2, .int l2), (3, .int l3)]) C dX5_nextOld_88 (by decide) rfl ?_
              refine g_iload (pc := 90) (x := 0) C dX5_nextOld_90 rfl ?_
              refine g_if_eq (pc := 92) (tgt := 115) (x := 0) hf C dX5_nextOld_92 (by decide) (fun hf => ?_) (fun hf => ?_)
              · refine g_iload_n (pc := 115) (x := l2) C dX5_nextOld_115 rfl ?_
                refine g_istore_n (pc := 116) (lv' := [(2, .int l2), (5, .int 0), (4, .int r1), (0, .ref (aM 0)), (1, .int l1), (3, .int l3)]) C dX5_nextOld_116 (by decide) rfl ?_
                refine g_iinc (pc := 117) (x := l3) (v := (l3 + 1)) (lv' := [(3, .int (l3 + 1)), (2, .int l2), (5, .int 0), (4, .int r1), (0, .ref (aM 0)), (1, .int l1)]) C dX5_nextOld_117 rfl rfl (by decide) rfl ?_
                refine g_goto (pc := 120) (tgt := 24) C dX5_nextOld_120 (by decide) ?_
                refine g_lv [4, 5, 1, 0] (lv' := [(0, .ref (aM 0)), (1, .int l1), (2, .int l2), (3, .int (l3 + 1))]) rfl ?_
                exact ih l2 (l3 + 1) u hf hk0
              · refine g_iload_n (pc := 95) (x := l2) C dX5_nextOld_95 rfl ?_
                refine g_iconst (pc := 96) (v := (-1)) C dX5_nextOld_96 (by decide) ?_
                refine g_icmp_eq (pc := 97) (tgt := 111) (x := l2) (y := (-1)) hf C dX5_nextOld_97 (by decide) (fun hf => ?_) (fun hf => ?_)
                · refine g_iload_n (pc := 111) (x := l3) C dX5_nextOld_111 rfl ?_
                  refine g_goto (pc := 112) (tgt := 116) C dX5_nextOld_112 (by decide) ?_
                  refine g_istore_n (pc := 116) (lv' := [(2, .int l3), (5, .int 0), (4, .int r1), (0, .ref (aM 0)), (1, .int l1), (3, .int l3)]) C dX5_nextOld_116 (by decide) rfl ?_
                  refine g_iinc (pc := 117) (x := l3) (v := (l3 + 1)) (lv' := [(3, .int (l3 + 1)), (2, .int l3), (5, .int 0), (4, .int r1), (0, .ref (aM 0)), (1, .int l1)]) C dX5_nextOld_117 rfl rfl (by decide) rfl ?_
                  refine g_goto (pc := 120) (tgt := 24) C dX5_nextOld_120 (by decide) ?_
                  refine g_lv [4, 5, 1, 0] (lv' := [(0, .ref (aM 0)), (1, .int l1), (2, .int l3), (3, .int (l3 + 1))]) rfl ?_
                  exact ih l3 (l3 + 1) u hf hk0
                · refine g_iload (pc := 100) (x := r1) C dX5_nextOld_100 rfl ?_
                  refine g_aload_n (pc := 102) (x := (aM 0)) C dX5_nextOld_102 rfl ?_
                  refine g_iload_n (pc := 103) (x := l2) C dX5_nextOld_103 rfl ?_
                  refine g_iconst (pc := 104) (v := 0) C dX5_nextOld_104 (by decide) ?_
                  refine g_callR (pc' := 108) (cs' := 0) (sl' := 0) hf C (fun u => some (.int u)) (fun u hu => gr_V (rest := [.int r1]) C (cX5_of_ (kL k) C.tr (kD k) N aM v l2 0 u hu) (fun ht => cwV 2 ht gX5_nextOld_X5_of rfl rfl rfl hdX5_of ⟨(Nat.le_of_ble_eq_true rfl), (Nat.le_of_ble_eq_true rfl)⟩) 0 rfl rfl [0, 1, 2, 3, 4, 5, 6, 7, 8, 9] rfl (by decide) rfl rfl (Nat.le_of_ble_eq_true rfl) dX5_nextOld_105 ⟨(Nat.le_of_ble_eq_true rfl), (Nat.le_of_ble_eq_true rfl)⟩) [0, 1, 2, 3, 4, 5, 6, 7, 8, 9] rfl rfl rfl rfl (fun u => [.int u, .int r1]) (fun u => rfl) (fun r6 hf => ?_)
                  refine g_icmp_le (pc := 108) (tgt := 115) (x := r1) (y := r6) hf C dX5_nextOld_108 (by decide) (fun hf => ?_) (fun hf => ?_)
                  · refine g_iload_n (pc := 115) (x := l2) C dX5_nextOld_115 rfl ?_
                    refine g_istore_n (pc := 116) (lv' := [(2, .int l2), (5, .int 0), (4, .int r1), (0, .ref (aM 0)), (1, .int l1), (3, .int l3)]) C dX5_nextOld_116 (by decide) rfl ?_
                    refine g_iinc (pc := 117) (x := l3) (v := (l3 + 1)) (lv' := [(3, .int (l3 + 1)), (2, .int l2), (5, .int 0), (4, .int r1), (0, .ref (aM 0)), (1, .int l1)]) C dX5_nextOld_117 rfl rfl (by decide) rfl ?_
                    refine g_goto (pc := 120) (tgt := 24) C dX5_nextOld_120 (by decide) ?_
                    refine g_lv [4, 5, 1, 0] (lv' := [(0, .ref (aM 0)), (1, .int l1), (2, .int l2), (3, .int (l3 + 1))]) rfl ?_
                    exact ih l2 (l3 + 1) u hf hk0
                  · refine g_iload_n (pc := 111) (x := l3) C dX5_nextOld_111 rfl ?_
                    refine g_goto (pc := 112) (tgt := 116) C dX5_nextOld_112 (by decide) ?_
                    refine g_istore_n (pc := 116) (lv' := [(2, .int l3), (5, .int 0), (4, .int r1), (0, .ref (aM 0)), (1, .int l1), (3, .int l3)]) C dX5_nextOld_116 (by decide) rfl ?_
                    refine g_iinc (pc := 117) (x := l3) (v := (l3 + 1)) (lv' := [(3, .int (l3 + 1)), (2, .int l3), (5, .int 0), (4, .int r1), (0, .ref (aM 0)), (1, .int l1)]) C dX5_nextOld_117 rfl rfl (by decide) rfl ?_
                    refine g_goto (pc := 120) (tgt := 24) C dX5_nextOld_120 (by decide) ?_
                    refine g_lv [4, 5, 1, 0] (lv' := [(0, .ref (aM 0)), (1, .int l1), (2, .int l3), (3, .int (l3 + 1))]) rfl ?_
                    exact ih l3 (l3 + 1) u hf hk0
            · refine g_iconst (pc := 83) (v := 1) C dX5_nextOld_83 (by decide) ?_
              refine g_goto (pc := 84) (tgt := 88) C dX5_nextOld_84 (by decide) ?_
              refine g_istore (pc := 88) (lv' := [(5, .int 1), (4, .int r1), (0, .ref (aM 0)), (1, .int l1), (2, .int l2), (3, .int l3)]) C dX5_nextOld_88 (by decide) rfl ?_
              refine g_iload (pc := 90) (x := 1) C dX5_nextOld_90 rfl ?_
              refine g_if_eq (pc := 92) (tgt := 115) (x := 1) hf C dX5_nextOld_92 (by decide) (fun hf => ?_) (fun hf => ?_)
              · refine g_iload_n (pc := 115) (x := l2) C dX5_nextOld_115 rfl ?_
                refine g_istore_n (pc := 116) (lv' := [(2, .int l2), (5, .int 1), (4, .int r1), (0, .ref (aM 0)), (1, .int l1), (3, .int l3)]) C dX5_nextOld_116 (by decide) rfl ?_
                refine g_iinc (pc := 117) (x := l3) (v := (l3 + 1)) (lv' := [(3, .int (l3 + 1)), (2, .int l2), (5, .int 1), (4, .int r1), (0, .ref (aM 0)), (1, .int l1)]) C dX5_nextOld_117 rfl rfl (by decide) rfl ?_
                refine g_goto (pc := 120) (tgt := 24) C dX5_nextOld_120 (by decide) ?_
                refine g_lv [4, 5, 1, 0] (lv' := [(0, .ref (aM 0)), (1, .int l1), (2, .int l2), (3, .int (l3 + 1))]) rfl ?_
                exact ih l2 (l3 + 1) u hf hk0
              · refine g_iload_n (pc := 95) (x := l2) C dX5_nextOld_95 rfl ?_
                refine g_iconst (pc := 96) (v := (-1)) C dX5_nextOld_96 (by decide) ?_
                refine g_icmp_eq (pc := 97) (tgt := 111) (x := l2) (y := (-1)) hf C dX5_nextOld_97 (by decide) (fun hf => ?_) (fun hf => ?_)
                · refine g_iload_n (pc := 111) (x := l3) C dX5_nextOld_111 rfl ?_
                  refine g_goto (pc := 112) (tgt := 116) C dX5_nextOld_112 (by decide) ?_
                  refine g_istore_n (pc := 116) (lv' := [(2, .int l3), (5, .int 1), (4, .int r1), (0, .ref (aM 0)), (1, .int l1), (3, .int l3)]) C dX5_nextOld_116 (by decide) rfl ?_
                  refine g_iinc (pc := 117) (x := l3) (v := (l3 + 1)) (lv' := [(3, .int (l3 + 1)), (2, .int l3), (5, .int 1), (4, .int r1), (0, .ref (aM 0)), (1, .int l1)]) C dX5_nextOld_117 rfl rfl (by decide) rfl ?_
                  refine g_goto (pc := 120) (tgt := 24) C dX5_nextOld_120 (by decide) ?_
                  refine g_lv [4, 5, 1, 0] (lv' := [(0, .ref (aM 0)), (1, .int l1), (2, .int l3), (3, .int (l3 + 1))]) rfl ?_
                  exact ih l3 (l3 + 1) u hf hk0
                · refine g_iload (pc := 100) (x := r1) C dX5_nextOld_100 rfl ?_
                  refine g_aload_n (pc := 102) (x := (aM 0)) C dX5_nextOld_102 rfl ?_
                  refine g_iload_n (pc := 103) (x := l2) C dX5_nextOld_103 rfl ?_
                  refine g_iconst (pc := 104) (v := 0) C dX5_nextOld_104 (by decide) ?_
                  refine g_callR (pc' := 108) (cs' := 0) (sl' := 0) hf C (fun u => some (.int u)) (fun u hu => gr_V (rest := [.int r1]) C (cX5_of_ (kL k) C.tr (kD k) N aM v l2 0 u hu) (fun ht => cwV 2 ht gX5_nextOld_X5_of rfl rfl rfl hdX5_of ⟨(Nat.le_of_ble_eq_true rfl), (Nat.le_of_ble_eq_true rfl)⟩) 0 rfl rfl [0, 1, 2, 3, 4, 5, 6, 7, 8, 9] rfl (by decide) rfl rfl (Nat.le_of_ble_eq_true rfl) dX5_nextOld_105 ⟨(Nat.le_of_ble_eq_true rfl), (Nat.le_of_ble_eq_true rfl)⟩) [0, 1, 2, 3, 4, 5, 6, 7, 8, 9] rfl rfl rfl rfl (fun u => [.int u, .int r1]) (fun u => rfl) (fun r7 hf => ?_)
                  refine g_icmp_le (pc := 108) (tgt := 115) (x := r1) (y := r7) hf C dX5_nextOld_108 (by decide) (fun hf => ?_) (fun hf => ?_)
                  · refine g_iload_n (pc := 115) (x := l2) C dX5_nextOld_115 rfl ?_
                    refine g_istore_n (pc := 116) (lv' := [(2, .int l2), (5, .int 1), (4, .int r1), (0, .ref (aM 0)), (1, .int l1), (3, .int l3)]) C dX5_nextOld_116 (by decide) rfl ?_
                    refine g_iinc (pc := 117) (x := l3) (v := (l3 + 1)) (lv' := [(3, .int (l3 + 1)), (2, .int l2), (5, .int 1), (4, .int r1), (0, .ref (aM 0)), (1, .int l1)]) C dX5_nextOld_117 rfl rfl (by decide) rfl ?_
                    refine g_goto (pc := 120) (tgt := 24) C dX5_nextOld_120 (by decide) ?_
                    refine g_lv [4, 5, 1, 0] (lv' := [(0, .ref (aM 0)), (1, .int l1), (2, .int l2), (3, .int (l3 + 1))]) rfl ?_
                    exact ih l2 (l3 + 1) u hf hk0
                  · refine g_iload_n (pc := 111) (x := l3) C dX5_nextOld_111 rfl ?_
                    refine g_goto (pc := 112) (tgt := 116) C dX5_nextOld_112 (by decide) ?_
                    refine g_istore_n (pc := 116) (lv' := [(2, .int l3), (5, .int 1), (4, .int r1), (0, .ref (aM 0)), (1, .int l1), (3, .int l3)]) C dX5_nextOld_116 (by decide) rfl ?_
                    refine g_iinc (pc := 117) (x := l3) (v := (l3 + 1)) (lv' := [(3, .int (l3 + 1)), (2, .int l3), (5, .int 1), (4, .int r1), (0, .ref (aM 0)), (1, .int l1)]) C dX5_nextOld_117 rfl rfl (by decide) rfl ?_
                    refine g_goto (pc := 120) (tgt := 24) C dX5_nextOld_120 (by decide) ?_
                    refine g_lv [4, 5, 1, 0] (lv' := [(0, .ref (aM 0)), (1, .int l1), (2, .int l3), (3, .int (l3 + 1))]) rfl ?_
                    exact ih l3 (l3 + 1) u hf hk0
def fX5_nextOld (N : Nat) (v : VM) : Option (Int32) := ((lX5_nextOld_3 N v N 10).bind fun r1 => ((lX5_nextOld_24 N v r1 N (-1) 0).bind fun r2 => some r2))
set_option maxRecDepth 100000 in
set_option maxHeartbeats 4000000 in
theorem wkX5_nextOld {k : Kt} (C : gC k cX5_nextOld 6 RX5 wsX5_nextOld rmX5_nextOld "nextOld") (N : Nat) (aM : Nat → Nat) (v : VM) (r : Int32) (hf : fX5_nextOld N v = some r) (E : gE k (wM (kD k) aM v) (fun rv w => rv = some (.int r) ∧ w = (wM (kD k) aM v)) (fun _ _ => False) 0 0 (some .int) []) : gG k (wM (kD k) aM v) [(0, .ref (aM 0))] 0 0 0 [] := by
  unfold fX5_nextOld at hf
  refine g_bipush (pc := 0) (v := 10) C dX5_nextOld_0 (by decide) ?_
  refine g_istore_n (pc := 2) (lv' := [(1, .int 10), (0, .ref (aM 0))]) C dX5_nextOld_2 (by decide) rfl ?_
  obtain ⟨r1, h1, hf⟩ := bd_e hf
  refine g_lv [1, 0] (lv' := [(0, .ref (aM 0)), (1, .int 10)]) rfl ?_
  refine wlX5_nextOld_3 C N aM v N 10 r1 h1 ?_
  refine g_iconst (pc := 20) (v := (-1)) C dX5_nextOld_20 (by decide) ?_
  refine g_istore_n (pc := 21) (lv' := [(2, .int (-1)), (0, .ref (aM 0)), (1, .int r1)]) C dX5_nextOld_21 (by decide) rfl ?_
  refine g_iconst (pc := 22) (v := 0) C dX5_nextOld_22 (by decide) ?_
  refine g_istore_n (pc := 23) (lv' := [(3, .int 0), (2, .int (-1)), (0, .ref (aM 0)), (1, .int r1)]) C dX5_nextOld_23 (by decide) rfl ?_
  obtain ⟨r2, h2, hf⟩ := bd_e hf
  refine g_lv [2, 3, 1, 0] (lv' := [(0, .ref (aM 0)), (1, .int r1), (2, .int (-1)), (3, .int 0)]) rfl ?_
  refine wlX5_nextOld_24 C N aM v r1 N (-1) 0 r2 h2 ?_
  refine g_iload_n (pc := 123) (x := r2) C dX5_nextOld_123 rfl ?_
  obtain rfl := Option.some.inj hf
  exact g_iret (v := r2) C E dX5_nextOld_124 (Nat.le_of_ble_eq_true rfl) (Nat.le_of_ble_eq_true rfl) ⟨rfl, rfl⟩
set_option maxRecDepth 100000 in
set_option maxHeartbeats 4000000 in
theorem cX5_nextOld_ (l : Launch) (htr : l.stackTraces = false) (D : va_G) (N : Nat) (aM : Nat → Nat) (v : VM) (r : Int32) (hf : fX5_nextOld N v = some r) : Tc l D yX5_nextOld wsX5_nextOld rmX5_nextOld [.ref (aM 0)] (wM D aM v) (fun rv w => rv = some (.int r) ∧ w = (wM D aM v)) (fun _ _ => False) 0 0 := Tc_of htr (by decide +kernel) rfl (Nat.le_of_ble_eq_true rfl) (fun k C E hl hD => by subst hD; exact wkX5_nextOld C N aM v r hf E)
abbrev rmX5_oldOf : Room := { frames := 3, cells := 0, slots := 0, locals := 68 }
theorem inX5_oldOf_X5 : ∀ w ∈ wsX50, w ∈ wsX5_oldOf := by decide +kernel
theorem lkX5_oldOf_230 : Cond.fieldLink RX5 230 "GaugeBlocksModel" (TX5 16).2.1 (TX5 16).2.2.1 ∈ wsX5_oldOf := by decide +kernel
theorem lkX5_oldOf_227 : Cond.fieldLink RX5 227 "GaugeBlocksModel" (TX5 17).2.1 (TX5 17).2.2.1 ∈ wsX5_oldOf := by decide +kernel
theorem hdX5_oldOf : yX5_oldOf.cls = RX5 ∧ yX5_oldOf.cls ≠ "java/lang/invoke/MethodHandle" ∧ yX5_oldOf.cls ≠ "java/lang/invoke/VarHandle" ∧ (parseMethodDescriptor yX5_oldOf.desc).map (fun d => d.parameters.length) = some 2 := by decide +kernel
def lX5_oldOf_15 (N : Nat) (l2 : Int32) : Nat → VM → Int32 → Int32 → Option ((VM × Int32))
  | 0, _, _, _ => none
  | n + 1, v, l3, l4 => (if (mLft v) ≤ (0 : Int32) then some (v, l3) else (if l4 = (0 : Int32) then some (v, l3) else (if (6 : Int32) ≤ l3 then (if ((-1) : Int32) = ((-1) : Int32) then (if (0 : Int32) = (0 : Int32) then (lX5_oldOf_15 N l2 n v l3 0) else ((fX5_of N ((mRow v), (mSav v), (mSvn v), (mSnp v), (mKep v), (mThr v), (mFre v), (mFrn v), (mBuf v), (mLen v), (mSpt v), (mNum v), (mOrd v), (mLet v), (mFst v), (mSnd v), ((mTok v) ||| ((1 : Int32) <<< ((-1) &&& 31))), (mLft v)) (-1) 0).bind fun r1 => (lX5_oldOf_15 N l2 n ((mRow v), (mSav v), (mSvn v), (mSnp v), (mKep v), (mThr v), (mFre v), (mFrn v), (mBuf v), (mLen v), (mSpt v), (mNum v), (mOrd v), (mLet v), (mFst v), (mSnd v), ((mTok v) ||| ((1 : Int32) <<< ((-1) &&& 31))), ((mLft v) - r1)) (l3 + 1) 0))) else (if (1 : Int32) = (0 : Int32) then (lX5_oldOf_15 N l2 n v l3 1) else ((fX5_of N ((mRow v), (mSav v), (mSvn v), (mSnp v), (mKep v), (mThr v), (mFre v), (mFrn v), (mBuf v), (mLen v), (mSpt v), (mNum v), (mOrd v), (mLet v), (mFst v), (mSnd v), ((mTok v) ||| ((1 : Int32) <<< ((-1) &&& 31))), (mLft v)) (-1) 0).bind fun r2 => (lX5_oldOf_15 N l2 n ((mRow v), (mSav v), (mSvn v), (mSnp v), (mKep v), (mThr v), (mFre v), (mFrn v), (mBuf v), (mLen v), (mSpt v), (mNum v), (mOrd v), (mLet v), (mFst v), (mSnd v), ((mTok v) ||| ((1 : Int32) <<< ((-1) &&& 31))), ((mLft v) - r2)) (l3 + 1) 1)))) else ((fX5_nextOld N v).bind fun r3 => (if r3 = ((-1) : Int32) then (if (0 : Int32) = (0 : Int32) then (lX5_oldOf_15 N l2 n v l3 0) else ((fX5_of N ((mRow v), (mSav v), (mSvn v), (mSnp v), (mKep v), (mThr v), (mFre v), (mFrn v), (mBuf v), (mLen v), (mSpt v), (mNum v), (mOrd v), (mLet v), (mFst v), (mSnd v), ((mTok v) ||| ((1 : Int32) <<< (r3 &&& 31))), (mLft v)) r3 0).bind fun r4 => (lX5_oldOf_15 N l2 n ((mRow v), (mSav v), (mSvn v), (mSnp v), (mKep v), (mThr v), (mFre v), (mFrn v), (mBuf v), (mLen v), (mSpt v), (mNum v), (mOrd v), (mLet v), (mFst v), (mSnd v), ((mTok v) ||| ((1 : Int32) <<< (r3 &&& 31))), ((mLft v) - r4)) (l3 + 1) 0))) else (if (1 : Int32) = (0 : Int32) then (lX5_oldOf_15 N l2 n v l3 1) else ((fX5_of N ((mRow v), (mSav v), (mSvn v), (mSnp v), (mKep v), (mThr v), (mFre v), (mFrn v), (mBuf v), (mLen v), (mSpt v), (mNum v), (mOrd v), (mLet v), (mFst v), (mSnd v), ((mTok v) ||| ((1 : Int32) <<< (r3 &&& 31))), (mLft v)) r3 0).bind fun r5 => (lX5_oldOf_15 N l2 n ((mRow v), (mSav v), (mSvn v), (mSnp v), (mKep v), (mThr v), (mFre v), (mFrn v), (mBuf v), (mLen v), (mSpt v), (mNum v), (mOrd v), (mLet v), (mFst v), (mSnd v), ((mTok v) ||| ((1 : Int32) <<< (r3 &&& 31))), ((mLft v) - r5)) (l3 + 1) 1))))))))
set_option maxRecDepth 100000 in
set_option maxHeartbeats 4000000 in
theorem wlX5_oldOf_15 {k : Kt} (C : gC k cX5_oldOf 6 RX5 wsX5_oldOf rmX5_oldOf "oldOf") (N : Nat) (aM : Nat → Nat) (l2 : Int32) : ∀ (n : Nat) (v : VM) (l3 : Int32) (l4 : Int32) (u : (VM × Int32)) (hf : lX5_oldOf_15 N l2 n v l3 l4 = some u) (hk0 : gG k (wM (kD k) aM u.1) [(0, .ref (aM 0)), (2, .int l2), (3, .int u.2)] 0 0 96 []), gG k (wM (kD k) aM v) [(0, .ref (aM 0)), (2, .int l2), (3, .int l3), (4, .int l4)] 0 0 15 [] := by
  intro n
  induction n with
  | zero => intro v l3 l4 u hf hk0; rw [lX5_oldOf_15] at hf; cases hf
  | succ n ih =>
    intro v l3 l4 u hf hk0
    rw [lX5_oldOf_15] at hf
    refine g_aload_n (pc := 15) (x := (aM 0)) C dX5_oldOf_15 rfl ?_
    refine g_getf (pc := 16) C 0 rfl rfl inX5_oldOf_X5 17 (by decide) lkX5_oldOf_227 rfl rfl dX5_oldOf_16 ?_
    refine g_if_le (pc := 19) (tgt := 96) (x := (mLft v)) hf C dX5_oldOf_19 (by decide) (fun hf => ?_) (fun hf => ?_)
    · obtain rfl := Option.some.inj hf
      refine g_lv [0, 1, 2] (lv' := [(0, .ref (aM 0)), (2, .int l2), (3, .int l3)]) rfl ?_
      exact hk0
    · refine g_iload (pc := 22) (x := l4) C dX5_oldOf_22 rfl ?_
      refine g_if_eq (pc := 24) (tgt := 96) (x := l4) hf C dX5_oldOf_24 (by decide) (fun hf => ?_) (fun hf => ?_)
      · obtain rfl := Option.some.inj hf
        refine g_lv [0, 1, 2] (lv' := [(0, .ref (aM 0)), (2, .int l2), (3, .int l3)]) rfl ?_
        exact hk0
      · refine g_iload_n (pc := 27) (x := l3) C dX5_oldOf_27 rfl ?_
        refine g_bipush (pc := 28) (v := 6) C dX5_oldOf_28 (by decide) ?_
        refine g_icmp_ge (pc := 30) (tgt := 40) (x := l3) (y := 6) hf C dX5_oldOf_30 (by decide) (fun hf => ?_) (fun hf => ?_)
        · refine g_iconst (pc := 40) (v := (-1)) C dX5_oldOf_40 (by decide) ?_
          refine g_istore (pc := 41) (lv' := [(5, .int (-1)), (0, .ref (aM 0)), (2, .int l2), (3, .int l3), (4, .int l4)]) C dX5_oldOf_41 (by decide) rfl ?_
          refine g_iload (pc := 43) (x := (-1)) C dX5_oldOf_43 rfl ?_
          refine g_iconst (pc := 45) (v := (-1)) C dX5_oldOf_45 (by decide) ?_
          refine g_icmp_eq (pc := 46) (tgt := 53) (x := (-1)) (y := (-1)) hf C dX5_oldOf_46 (by decide) (fun hf => ?_) (fun hf => ?_)
          · refine g_iconst (pc := 53) (v := 0) C dX5_oldOf_53 (by decide) ?_
            refine g_istore (pc := 54) (lv' := [(4, .int 0), (5, .int (-1)), (0, .ref (aM 0)), (2, .int l2), (3, .int l3)]) C dX5_oldOf_54 (by decide) rfl ?_
            refine g_iload (pc := 56) (x := 0) C dX5_oldOf_56 rfl ?_
            refine g_if_eq (pc := 58) (tgt := 93) (x := 0) hf C dX5_oldOf_58 (by decide) (fun hf => ?_) (fun hf => ?_)
            · refine g_goto (pc := 93) (tgt := 15) C dX5_oldOf_93 (by decide) ?_
              refine g_lv [2, 3, 4, 0] (lv' := [(0, .ref (aM 0)), (2, .int l2), (3, .int l3), (4, .int 0)]) rfl ?_
              exact ih v l3 0 u hf hk0
            · refine g_aload_n (pc := 61) (x := (aM 0)) C dX5_oldOf_61 rfl ?_
              refine g_dup (pc := 62) C dX5_oldOf_62 rfl ?_
              refine g_getf (pc := 63) C 0 rfl rfl inX5_oldOf_X5 16 (by decide) lkX5_oldOf_230 rfl rfl dX5_oldOf_63 ?_
              refine g_iconst (pc := 66) (v := 1) C dX5_oldOf_66 (by decide) ?_
              refine g_iload (pc := 67) (x := (-1)) C dX5_oldOf_67 rfl ?_
              refine g_ishl (pc := 69) (x := (1 : Int32)) (y := (-1)) C dX5_oldOf_69 ?_
              refine g_ior (pc := 70) (x := (mTok v)) (y := ((1 : Int32) <<< ((-1) &&& 31))) C dX5_oldOf_70 ?_
              refine g_putf (pc := 71) C 0 rfl rfl inX5_oldOf_X5 tyX5 tyX5_ok nmX5 16 (by decide) lkX5_oldOf_230 rfl rfl pfX5_16 rfl rfl (Nat.le_of_ble_eq_true rfl) dX5_oldOf_71 (ws' := (wM (kD k) aM ((mRow v), (mSav v), (mSvn v), (mSnp v), (mKep v), (mThr v), (mFre v), (mFrn v), (mBuf v), (mLen v), (mSpt v), (mNum v), (mOrd v), (mLet v), (mFst v), (mSnd v), ((mTok v) ||| ((1 : Int32) <<< ((-1) &&& 31))), (mLft v)))) rfl ?_
              refine g_aload_n (pc := 74) (x := (aM 0)) C dX5_oldOf_74 rfl ?_
              refine g_dup (pc := 75) C dX5_oldOf_75 rfl ?_
              refine g_getf (pc := 76) C 0 rfl rfl inX5_oldOf_X5 17 (by decide) lkX5_oldOf_227 rfl rfl dX5_oldOf_76 ?_
              refine g_aload_n (pc := 79) (x := (aM 0)) C dX5_oldOf_79 rfl ?_
              refine g_iload (pc := 80) (x := (-1)) C dX5_oldOf_80 rfl ?_
              refine g_iconst (pc := 82) (v := 0) C dX5_oldOf_82 (by decide) ?_
              refine g_callR (pc' := 86) (cs' := 0) (sl' := 0) hf C (fun u => some (.int u)) (fun u hu => gr_V (rest := [.int (mLft v), .ref (aM 0)]) C (cX5_of_ (kL k) C.tr (kD k) N aM ((mRow v), (mSav v), (mSvn v), (mSnp v), (mKep v), (mThr v), (mFre v), (mFrn v), (mBuf v), (mLen v), (mSpt v), (mNum v), (mOrd v), (mLet v), (mFst v), (mSnd v), ((mTok v) ||| ((1 : Int32) <<< ((-1) &&& 31))), (mLft v)) (-1) 0 u hu) (fun ht => cwV 2 ht gX5_oldOf_X5_of rfl rfl rfl hdX5_of ⟨(Nat.le_of_ble_eq_true rfl), (Nat.le_of_ble_eq_true rfl)⟩) 0 rfl rfl [0, 1, 2, 3, 4, 5, 6, 7, 8, 9] rfl (by decide) rfl rfl (Nat.le_of_ble_eq_true rfl) dX5_oldOf_83 ⟨(Nat.le_of_ble_eq_true rfl), (Nat.le_of_ble_eq_true rfl)⟩) [0, 1, 2, 3, 4, 5, 6, 7, 8, 9] rfl rfl rfl rfl (fun u => [.int u, .int (mLft v), .ref (aM 0)]) (fun u => rfl) (fun r1 hf => ?_)
              refine g_isub (pc := 86) (x := (mLft v)) (y := r1) C dX5_oldOf_86 ?_
              refine g_putf (pc := 87) C 0 rfl rfl inX5_oldOf_X5 tyX5 tyX5_ok nmX5 17 (by decide) lkX5_oldOf_227 rfl rfl pfX5_17 rfl rfl (Nat.le_of_ble_eq_true rfl) dX5_oldOf_87 (ws' := (wM (kD k) aM ((mRow v), (mSav v), (mSvn v), (mSnp v), (mKep v), (mThr v), (mFre v), (mFrn v), (mBuf v), (mLen v), (mSpt v), (mNum v), (mOrd v), (mLet v), (mFst v), (mSnd v), ((mTok v) ||| ((1 : Int32) <<< ((-1) &&& 31))), ((mLft v) - r1)))) rfl ?_
              refine g_iinc (pc := 90) (x := l3) (v := (l3 + 1)) (lv' := [(3, .int (l3 + 1)), (4, .int 0), (5, .int (-1)), (0, .ref (aM 0)), (2, .int l2)]) C dX5_oldOf_90 rfl rfl (by decide) rfl ?_
              refine g_goto (pc := 93) (tgt := 15) C dX5_oldOf_93 (by decide) ?_
              refine g_lv [3, 4, 0, 1] (lv' := [(0, .ref (aM 0)), (2, .int l2), (3, .int (l3 + 1)), (4, .int 0)]) rfl ?_
              exact ih ((mRow v), (mSav v), (mSvn v), (mSnp v), (mKep v), (mThr v), (mFre v), (mFrn v), (mBuf v), (mLen v), (mSpt v), (mNum v), (mOrd v), (mLet v), (mFst v), (mSnd v), ((mTok v) ||| ((1 : Int32) <<< ((-1) &&& 31))), ((mLft v) - r1)) (l3 + 1) 0 u hf hk0
          · refine g_iconst (pc := 49) (v := 1) C dX5_oldOf_49 (by decide) ?_
            refine g_goto (pc := 50) (tgt := 54) C dX5_oldOf_50 (by decide) ?_
            refine g_istore (pc := 54) (lv' := [(4, .int 1), (5, .int (-1)), (0, .ref (aM 0)), (2, .int l2), (3, .int l3)]) C dX5_oldOf_54 (by decide) rfl ?_
            refine g_iload (pc := 56) (x := 1) C dX5_oldOf_56 rfl ?_
            refine g_if_eq (pc := 58) (tgt := 93) (x := 1) hf C dX5_oldOf_58 (by decide) (fun hf => ?_) (fun hf => ?_)
            · refine g_goto (pc := 93) (tgt := 15) C dX5_oldOf_93 (by decide) ?_
              refine g_lv [2, 3, 4, 0] (lv' := [(0, .ref (aM 0)), (2, .int l2), (3, .int l3), (4, .int 1)]) rfl ?_
              exact ih v l3 1 u hf hk0
            · refine g_aload_n (pc := 61) (x := (aM 0)) C dX5_oldOf_61 rfl ?_
              refine g_dup (pc := 62) C dX5_oldOf_62 rfl ?_
              refine g_getf (pc := 63) C 0 rfl rfl inX5_oldOf_X5 16 (by decide) lkX5_oldOf_230 rfl rfl dX5_oldOf_63 ?_
              refine g_iconst (pc := 66) (v := 1) C dX5_oldOf_66 (by decide) ?_
              refine g_iload (pc := 67) (x := (-1)) C dX5_oldOf_67 rfl ?_
              refine g_ishl (pc := 69) (x := (1 : Int32)) (y := (-1)) C dX5_oldOf_69 ?_
              refine g_ior (pc := 70) (x := (mTok v)) (y := ((1 : Int32) <<< ((-1) &&& 31))) C dX5_oldOf_70 ?_
              refine g_putf (pc := 71) C 0 rfl rfl inX5_oldOf_X5 tyX5 tyX5_ok nmX5 16 (by decide) lkX5_oldOf_230 rfl rfl pfX5_16 rfl rfl (Nat.le_of_ble_eq_true rfl) dX5_oldOf_71 (ws' := (wM (kD k) aM ((mRow v), (mSav v), (mSvn v), (mSnp v), (mKep v), (mThr v), (mFre v), (mFrn v), (mBuf v), (mLen v), (mSpt v), (mNum v), (mOrd v), (mLet v), (mFst v), (mSnd v), ((mTok v) ||| ((1 : Int32) <<< ((-1) &&& 31))), (mLft v)))) rfl ?_
              refine g_aload_n (pc := 74) (x := (aM 0)) C dX5_oldOf_74 rfl ?_
              refine g_dup (pc := 75) C dX5_oldOf_75 rfl ?_
              refine g_getf (pc := 76) C 0 rfl rfl inX5_oldOf_X5 17 (by decide) lkX5_oldOf_227 rfl rfl dX5_oldOf_76 ?_
              refine g_aload_n (pc := 79) (x := (aM 0)) C dX5_oldOf_79 rfl ?_
              refine g_iload (pc := 80) (x := (-1)) C dX5_oldOf_80 rfl ?_
              refine g_iconst (pc := 82) (v := 0) C dX5_oldOf_82 (by decide) ?_
              refine g_callR (pc' := 86) (cs' := 0) (sl' := 0) hf C (fun u => some (.int u)) (fun u hu => gr_V (rest := [.int (mLft v), .ref (aM 0)]) C (cX5_of_ (kL k) C.tr (kD k) N aM ((mRow v), (mSav v), (mSvn v), (mSnp v), (mKep v), (mThr v), (mFre v), (mFrn v), (mBuf v), (mLen v), (mSpt v), (mNum v), (mOrd v), (mLet v), (mFst v), (mSnd v), ((mTok v) ||| ((1 : Int32) <<< ((-1) &&& 31))), (mLft v)) (-1) 0 u hu) (fun ht => cwV 2 ht gX5_oldOf_X5_of rfl rfl rfl hdX5_of ⟨(Nat.le_of_ble_eq_true rfl), (Nat.le_of_ble_eq_true rfl)⟩) 0 rfl rfl [0, 1, 2, 3, 4, 5, 6, 7, 8, 9] rfl (by decide) rfl rfl (Nat.le_of_ble_eq_true rfl) dX5_oldOf_83 ⟨(Nat.le_of_ble_eq_true rfl), (Nat.le_of_ble_eq_true rfl)⟩) [0, 1, 2, 3, 4, 5, 6, 7, 8, 9] rfl rfl rfl rfl (fun u => [.int u, .int (mLft v), .ref (aM 0)]) (fun u => rfl) (fun r2 hf => ?_)
              refine g_isub (pc := 86) (x := (mLft v)) (y := r2) C dX5_oldOf_86 ?_
              refine g_putf (pc := 87) C 0 rfl rfl inX5_oldOf_X5 tyX5 tyX5_ok nmX5 17 (by decide) lkX5_oldOf_227 rfl rfl pfX5_17 rfl rfl (Nat.le_of_ble_eq_true rfl) dX5_oldOf_87 (ws' := (wM (kD k) aM ((mRow v), (mSav v), (mSvn v), (mSnp v), (mKep v), (mThr v), (mFre v), (mFrn v), (mBuf v), (mLen v), (mSpt v), (mNum v), (mOrd v), (mLet v), (mFst v), (mSnd v), ((mTok v) ||| ((1 : Int32) <<< ((-1) &&& 31))), ((mLft v) - r2)))) rfl ?_
              refine g_iinc (pc := 90) (x := l3) (v := (l3 + 1)) (lv' := [(3, .int (l3 + 1)), (4, .int 1), (5, .int (-1)), (0, .ref (aM 0)), (2, .int l2)]) C dX5_oldOf_90 rfl rfl (by decide) rfl ?_
              refine g_goto (pc := 93) (tgt := 15) C dX5_oldOf_93 (by decide) ?_
              refine g_lv [3, 4, 0, 1] (lv' := [(0, .ref (aM 0)), (2, .int l2), (3, .int (l3 + 1)), (4, .int 1)]) rfl ?_
              exact ih ((mRow v), (mSav v), (mSvn v), (mSnp v), (mKep v), (mThr v), (mFre v), (mFrn v), (mBuf v), (mLen v), (mSpt v), (mNum v), (mOrd v), (mLet v), (mFst v), (mSnd v), ((mTok v) ||| ((1 : Int32) <<< ((-1) &&& 31))), ((mLft v) - r2)) (l3 + 1) 1 u hf hk0
        · refine g_aload_n (pc := 33) (x := (aM 0)) C dX5_oldOf_33 rfl ?_
          refine g_callR (pc' := 37) (cs' := 0) (sl' := 0) hf C (fun u => some (.int u)) (fun u hu => gr_V (rest := []) C (cX5_nextOld_ (kL k) C.tr (kD k) N aM v u hu) (fun ht => cwV 0 ht gX5_oldOf_X5_nextOld rfl rfl rfl hdX5_nextOld ⟨(Nat.le_of_ble_eq_true rfl), (Nat.le_of_ble_eq_true rfl)⟩) 0 rfl rfl [0, 1, 2, 3, 4, 5, 6, 7, 8, 9] rfl (by decide) rfl rfl (Nat.le_of_ble_eq_true rfl) dX5_oldOf_34 ⟨(Nat.le_of_ble_eq_true rfl), (Nat.le_of_ble_eq_true rfl)⟩) [0, 1, 2, 3, 4, 5, 6, 7, 8, 9] rfl rfl rfl rfl (fun u => [.int u]) (fun u => rfl) (fun r3 hf => ?_)
          refine g_goto (pc := 37) (tgt := 41) C dX5_oldOf_37 (by decide) ?_
          refine g_istore (pc := 41) (lv' := [(5, .int r3), (0, .ref (aM 0)), (2, .int l2), (3, .int l3), (4, .int l4)]) C dX5_oldOf_41 (by decide) rfl ?_
          refine g_iload (pc := 43) (x := r3) C dX5_oldOf_43 rfl ?_
          refine g_iconst (pc := 45) (v := (-1)) C dX5_oldOf_45 (by decide) ?_
          refine g_icmp_eq (pc := 46) (tgt := 53) (x := r3) (y := (-1)) hf C dX5_oldOf_46 (by decide) (fun hf => ?_) (fun hf => ?_)
          · refine g_iconst (pc := 53) (v := 0) C dX5_oldOf_53 (by decide) ?_
            refine g_istore (pc := 54) (lv' := [(4, .int 0), (5, .int r3), (0, .ref (aM 0)), (2, .int l2), (3, .int l3)]) C dX5_oldOf_54 (by decide) rfl ?_
            refine g_iload (pc := 56) (x := 0) C dX5_oldOf_56 rfl ?_
            refine g_if_eq (pc := 58) (tgt := 93) (x := 0) hf C dX5_oldOf_58 (by decide) (fun hf => ?_) (fun hf => ?_)
            · refine g_goto (pc := 93) (tgt := 15) C dX5_oldOf_93 (by decide) ?_
              refine g_lv [2, 3, 4, 0] (lv' := [(0, .ref (aM 0)), (2, .int l2), (3, .int l3), (4, .int 0)]) rfl ?_
              exact ih v l3 0 u hf hk0
            · refine g_aload_n (pc := 61) (x := (aM 0)) C dX5_oldOf_61 rfl ?_
              refine g_dup (pc := 62) C dX5_oldOf_62 rfl ?_
              refine g_getf (pc := 63) C 0 rfl rfl inX5_oldOf_X5 16 (by decide) lkX5_oldOf_230 rfl rfl dX5_oldOf_63 ?_
              refine g_iconst (pc := 66) (v := 1) C dX5_oldOf_66 (by decide) ?_
              refine g_iload (pc := 67) (x := r3) C dX5_oldOf_67 rfl ?_
              refine g_ishl (pc := 69) (x := (1 : Int32)) (y := r3) C dX5_oldOf_69 ?_
              refine g_ior (pc := 70) (x := (mTok v)) (y := ((1 : Int32) <<< (r3 &&& 31))) C dX5_oldOf_70 ?_
              refine g_putf (pc := 71) C 0 rfl rfl inX5_oldOf_X5 tyX5 tyX5_ok nmX5 16 (by decide) lkX5_oldOf_230 rfl rfl pfX5_16 rfl rfl (Nat.le_of_ble_eq_true rfl) dX5_oldOf_71 (ws' := (wM (kD k) aM ((mRow v), (mSav v), (mSvn v), (mSnp v), (mKep v), (mThr v), (mFre v), (mFrn v), (mBuf v), (mLen v), (mSpt v), (mNum v), (mOrd v), (mLet v), (mFst v), (mSnd v), ((mTok v) ||| ((1 : Int32) <<< (r3 &&& 31))), (mLft v)))) rfl ?_
              refine g_aload_n (pc := 74) (x := (aM 0)) C dX5_oldOf_74 rfl ?_
              refine g_dup (pc := 75) C dX5_oldOf_75 rfl ?_
              refine g_getf (pc := 76) C 0 rfl rfl inX5_oldOf_X5 17 (by decide) lkX5_oldOf_227 rfl rfl dX5_oldOf_76 ?_
              refine g_aload_n (pc := 79) (x := (aM 0)) C dX5_oldOf_79 rfl ?_
              refine g_iload (pc := 80) (x := r3) C dX5_oldOf_80 rfl ?_
              refine g_iconst (pc := 82) (v := 0) C dX5_oldOf_82 (by decide) ?_
              refine g_callR (pc' := 86) (cs' := 0) (sl' := 0) hf C (fun u => some (.int u)) (fun u hu => gr_V (rest := [.int (mLft v), .ref (aM 0)]) C (cX5_of_ (kL k) C.tr (kD k) N aM ((mRow v), (mSav v), (mSvn v), (mSnp v), (mKep v), (mThr v), (mFre v), (mFrn v), (mBuf v), (mLen v), (mSpt v), (mNum v), (mOrd v), (mLet v), (mFst v), (mSnd v), ((mTok v) ||| ((1 : Int32) <<< (r3 &&& 31))), (mLft v)) r3 0 u hu) (fun ht => cwV 2 ht gX5_oldOf_X5_of rfl rfl rfl hdX5_of ⟨(Nat.le_of_ble_eq_true rfl), (Nat.le_of_ble_eq_true rfl)⟩) 0 rfl rfl [0, 1, 2, 3, 4, 5, 6, 7, 8, 9] rfl (by decide) rfl rfl (Nat.le_of_ble_eq_true rfl) dX5_oldOf_83 ⟨(Nat.le_of_ble_eq_true rfl), (Nat.le_of_ble_eq_true rfl)⟩) [0, 1, 2, 3, 4, 5, 6, 7, 8, 9] rfl rfl rfl rfl (fun u => [.int u, .int (mLft v), .ref (aM 0)]) (fun u => rfl) (fun r4 hf => ?_)
              refine g_isub (pc := 86) (x := (mLft v)) (y := r4) C dX5_oldOf_86 ?_
              refine g_putf (pc := 87) C 0 rfl rfl inX5_oldOf_X5 tyX5 tyX5_ok nmX5 17 (by decide) lkX5_oldOf_227 rfl rfl pfX5_17 rfl rfl (Nat.le_of_ble_eq_true rfl) dX5_oldOf_87 (ws' := (wM (kD k) aM ((mRow v), (mSav v), (mSvn v), (mSnp v), (mKep v), (mThr v), (mFre v), (mFrn v), (mBuf v), (mLen v), (mSpt v), (mNum v), (mOrd v), (mLet v), (mFst v), (mSnd v), ((mTok v) ||| ((1 : Int32) <<< (r3 &&& 31))), ((mLft v) - r4)))) rfl ?_
              refine g_iinc (pc := 90) (x := l3) (v := (l3 + 1)) (lv' := [(3, .int (l3 + 1)), (4, .int 0), (5, .int r3), (0, .ref (aM 0)), (2, .int l2)]) C dX5_oldOf_90 rfl rfl (by decide) rfl ?_
              refine g_goto (pc := 93) (tgt := 15) C dX5_oldOf_93 (by decide) ?_
              refine g_lv [3, 4, 0, 1] (lv' := [(0, .ref (aM 0)), (2, .int l2), (3, .int (l3 + 1)), (4, .int 0)]) rfl ?_
              exact ih ((mRow v), (mSav v), (mSvn v), (mSnp v), (mKep v), (mThr v), (mFre v), (mFrn v), (mBuf v), (mLen v), (mSpt v), (mNum v), (mOrd v), (mLet v), (mFst v), (mSnd v), ((mTok v) ||| ((1 : Int32) <<< (r3 &&& 31))), ((mLft v) - r4)) (l3 + 1) 0 u hf hk0
          · refine g_iconst (pc := 49) (v := 1) C dX5_oldOf_49 (by decide) ?_
            refine g_goto (pc := 50) (tgt := 54) C dX5_oldOf_50 (by decide) ?_
            refine g_istore (pc := 54) (lv' := [(4, .int 1), (5, .int r3), (0, .ref (aM 0)), (2, .int l2), (3, .int l3)]) C dX5_oldOf_54 (by decide) rfl ?_
            refine g_iload (pc := 56) (x := 1) C dX5_oldOf_56 rfl ?_
            refine g_if_eq (pc := 58) (tgt := 93) (x := 1) hf C dX5_oldOf_58 (by decide) (fun hf => ?_) (fun hf => ?_)
            · refine g_goto (pc := 93) (tgt := 15) C dX5_oldOf_93 (by decide) ?_
              refine g_lv [2, 3, 4, 0] (lv' := [(0, .ref (aM 0)), (2, .int l2), (3, .int l3), (4, .int 1)]) rfl ?_
              exact ih v l3 1 u hf hk0
            · refine g_aload_n (pc := 61) (x := (aM 0)) C dX5_oldOf_61 rfl ?_
              refine g_dup (pc := 62) C dX5_oldOf_62 rfl ?_
              refine g_getf (pc := 63) C 0 rfl rfl inX5_oldOf_X5 16 (by decide) lkX5_oldOf_230 rfl rfl dX5_oldOf_63 ?_
              refine g_iconst (pc := 66) (v := 1) C dX5_oldOf_66 (by decide) ?_
              refine g_iload (pc := 67) (x := r3) C dX5_oldOf_67 rfl ?_
              refine g_ishl (pc := 69) (x := (1 : Int32)) (y := r3) C dX5_oldOf_69 ?_
              refine g_ior (pc := 70) (x := (mTok v)) (y := ((1 : Int32) <<< (r3 &&& 31))) C dX5_oldOf_70 ?_
              refine g_putf (pc := 71) C 0 rfl rfl inX5_oldOf_X5 tyX5 tyX5_ok nmX5 16 (by decide) lkX5_oldOf_230 rfl rfl pfX5_16 rfl rfl (Nat.le_of_ble_eq_true rfl) dX5_oldOf_71 (ws' := (wM (kD k) aM ((mRow v), (mSav v), (mSvn v), (mSnp v), (mKep v), (mThr v), (mFre v), (mFrn v), (mBuf v), (mLen v), (mSpt v), (mNum v), (mOrd v), (mLet v), (mFst v), (mSnd v), ((mTok v) ||| ((1 : Int32) <<< (r3 &&& 31))), (mLft v)))) rfl ?_
              refine g_aload_n (pc := 74) (x := (aM 0)) C dX5_oldOf_74 rfl ?_
              refine g_dup (pc := 75) C dX5_oldOf_75 rfl ?_
              refine g_getf (pc := 76) C 0 rfl rfl inX5_oldOf_X5 17 (by decide) lkX5_oldOf_227 rfl rfl dX5_oldOf_76 ?_
              refine g_aload_n (pc := 79) (x := (aM 0)) C dX5_oldOf_79 rfl ?_
              refine g_iload (pc := 80) (x := r3) C dX5_oldOf_80 rfl ?_
              refine g_iconst (pc := 82) (v := 0) C dX5_oldOf_82 (by decide) ?_
              refine g_callR (pc' := 86) (cs' := 0) (sl' := 0) hf C (fun u => some (.int u)) (fun u hu => gr_V (rest := [.int (mLft v), .ref (aM 0)]) C (cX5_of_ (kL k) C.tr (kD k) N aM ((mRow v), (mSav v), (mSvn v), (mSnp v), (mKep v), (mThr v), (mFre v), (mFrn v), (mBuf v), (mLen v), (mSpt v), (mNum v), (mOrd v), (mLet v), (mFst v), (mSnd v), ((mTok v) ||| ((1 : Int32) <<< (r3 &&& 31))), (mLft v)) r3 0 u hu) (fun ht => cwV 2 ht gX5_oldOf_X5_of rfl rfl rfl hdX5_of ⟨(Nat.le_of_ble_eq_true rfl), (Nat.le_of_ble_eq_true rfl)⟩) 0 rfl rfl [0, 1, 2, 3, 4, 5, 6, 7, 8, 9] rfl (by decide) rfl rfl (Nat.le_of_ble_eq_true rfl) dX5_oldOf_83 ⟨(Nat.le_of_ble_eq_true rfl), (Nat.le_of_ble_eq_true rfl)⟩) [0, 1, 2, 3, 4, 5, 6, 7, 8, 9] rfl rfl rfl rfl (fun u => [.int u, .int (mLft v), .ref (aM 0)]) (fun u => rfl) (fun r5 hf => ?_)
              refine g_isub (pc := 86) (x := (mLft v)) (y := r5) C dX5_oldOf_86 ?_
              refine g_putf (pc := 87) C 0 rfl rfl inX5_oldOf_X5 tyX5 tyX5_ok nmX5 17 (by decide) lkX5_oldOf_227 rfl rfl pfX5_17 rfl rfl (Nat.le_of_ble_eq_true rfl) dX5_oldOf_87 (ws' := (wM (kD k) aM ((mRow v), (mSav v), (mSvn v), (mSnp v), (mKep v), (mThr v), (mFre v), (mFrn v), (mBuf v), (mLen v), (mSpt v), (mNum v), (mOrd v), (mLet v), (mFst v), (mSnd v), ((mTok v) ||| ((1 : Int32) <<< (r3 &&& 31))), ((mLft v) - r5)))) rfl ?_
              refine g_iinc (pc := 90) (x := l3) (v := (l3 + 1)) (lv' := [(3, .int (l3 + 1)), (4, .int 1), (5, .int r3), (0, .ref (aM 0)), (2, .int l2)]) C dX5_oldOf_90 rfl rfl (by decide) rfl ?_
              refine g_goto (pc := 93) (tgt := 15) C dX5_oldOf_93 (by decide) ?_
              refine g_lv [3, 4, 0, 1] (lv' := [(0, .ref (aM 0)), (2, .int l2), (3, .int (l3 + 1)), (4, .int 1)]) rfl ?_
              exact ih ((mRow v), (mSav v), (mSvn v), (mSnp v), (mKep v), (mThr v), (mFre v), (mFrn v), (mBuf v), (mLen v), (mSpt v), (mNum v), (mOrd v), (mLet v), (mFst v), (mSnd v), ((mTok v) ||| ((1 : Int32) <<< (r3 &&& 31))), ((mLft v) - r5)) (l3 + 1) 1 u hf hk0
def fX5_oldOf (N : Nat) (v : VM) (p1 : Int32) (p2 : Int32) : Option (VM × Int32) := ((lX5_oldOf_15 N p2 N ((mRow v), (mSav v), (mSvn v), (mSnp v), (mKep v), (mThr v), (mFre v), (mFrn v), (mBuf v), (mLen v), (mSpt v), (mNum v), (mOrd v), (mLet v), (mFst v), (mSnd v), 0, p1) 0 1).bind fun r1 => (if p2 = (2 : Int32) then some (r1.1, (mLft r1.1)) else (if (mLft r1.1) ≤ (0 : Int32) then (if p2 = (0 : Int32) then some (r1.1, r1.2) else some (r1.1, (mTok r1.1))) else some (r1.1, (-1)))))
set_option maxRecDepth 100000 in
set_option maxHeartbeats 4000000 in
theorem wkX5_oldOf {k : Kt} (C : gC k cX5_oldOf 6 RX5 wsX5_oldOf rmX5_oldOf "oldOf") (N : Nat) (aM : Nat → Nat) (v : VM) (p1 : Int32) (p2 : Int32) (r : VM × Int32) (hf : fX5_oldOf N v p1 p2 = some r) (E : gE k (wM (kD k) aM v) (fun rv w => rv = some (.int r.2) ∧ w = (wM (kD k) aM r.1)) (fun _ _ => False) 0 0 (some .int) []) : gG k (wM (kD k) aM v) [(0, .ref (aM 0)), (1, .int p1), (2, .int p2)] 0 0 0 [] := by
  unfold fX5_oldOf at hf
  refine g_aload_n (pc := 0) (x := (aM 0)) C dX5_oldOf_0 rfl ?_
  refine g_iconst (pc := 1) (v := 0) C dX5_oldOf_1 (by decide) ?_
  refine g_putf (pc := 2) C 0 rfl rfl inX5_oldOf_X5 tyX5 tyX5_ok nmX5 16 (by decide) lkX5_oldOf_230 rfl rfl pfX5_16 rfl rfl (Nat.le_of_ble_eq_true rfl) dX5_oldOf_2 (ws' := (wM (kD k) aM ((mRow v), (mSav v), (mSvn v), (mSnp v), (mKep v), (mThr v), (mFre v), (mFrn v), (mBuf v), (mLen v), (mSpt v), (mNum v), (mOrd v), (mLet v), (mFst v), (mSnd v), 0, (mLft v)))) rfl ?_
  refine g_aload_n (pc := 5) (x := (aM 0)) C dX5_oldOf_5 rfl ?_
  refine g_iload_n (pc := 6) (x := p1) C dX5_oldOf_6 rfl ?_
  refine g_putf (pc := 7) C 0 rfl rfl inX5_oldOf_X5 tyX5 tyX5_ok nmX5 17 (by decide) lkX5_oldOf_227 rfl rfl pfX5_17 rfl rfl (Nat.le_of_ble_eq_true rfl) dX5_oldOf_7 (ws' := (wM (kD k) aM ((mRow v), (mSav v), (mSvn v), (mSnp v), (mKep v), (mThr v), (mFre v), (mFrn v), (mBuf v), (mLen v), (mSpt v), (mNum v), (mOrd v), (mLet v), (mFst v), (mSnd v), 0, p1))) rfl ?_
  refine g_iconst (pc := 10) (v := 0) C dX5_oldOf_10 (by decide) ?_
  refine g_istore_n (pc := 11) (lv' := [(3, .int 0), (0, .ref (aM 0)), (1, .int p1), (2, .int p2)]) C dX5_oldOf_11 (by decide) rfl ?_
  refine g_iconst (pc := 12) (v := 1) C dX5_oldOf_12 (by decide) ?_
  refine g_istore (pc := 13) (lv' := [(4, .int 1), (3, .int 0), (0, .ref (aM 0)), (1, .int p1), (2, .int p2)]) C dX5_oldOf_13 (by decide) rfl ?_
  obtain ⟨r1, h1, hf⟩ := bd_e hf
  refine g_lv [2, 4, 1, 0] (lv' := [(0, .ref (aM 0)), (2, .int p2), (3, .int 0), (4, .int 1)]) rfl ?_
  refine wlX5_oldOf_15 C N aM p2 N ((mRow v), (mSav v), (mSvn v), (mSnp v), (mKep v), (mThr v), (mFre v), (mFrn v), (mBuf v), (mLen v), (mSpt v), (mNum v), (mOrd v), (mLet v), (mFst v), (mSnd v), 0, p1) 0 1 r1 h1 ?_
  refine g_iload_n (pc := 96) (x := p2) C dX5_oldOf_96 rfl ?_
  refine g_iconst (pc := 97) (v := 2) C dX5_oldOf_97 (by decide) ?_
  refine g_icmp_ne (pc := 98) (tgt := 108) (x := p2) (y := 2) hf C dX5_oldOf_98 (by decide) (fun hf => ?_) (fun hf => ?_)
  · refine g_aload_n (pc := 108) (x := (aM 0)) C dX5_oldOf_108 rfl ?_
    refine g_getf (pc := 109) C 0 rfl rfl inX5_oldOf_X5 17 (by decide) lkX5_oldOf_227 rfl rfl dX5_oldOf_109 ?_
    refine g_if_le (pc := 112) (tgt := 119) (x := (mLft r1.1)) hf C dX5_oldOf_112 (by decide) (fun hf => ?_) (fun hf => ?_)
    · refine g_iload_n (pc := 119) (x := p2) C dX5_oldOf_119 rfl ?_
      refine g_if_ne (pc := 120) (tgt := 127) (x := p2) hf C dX5_oldOf_120 (by decide) (fun hf => ?_) (fun hf => ?_)
      · refine g_aload_n (pc := 127) (x := (aM 0)) C dX5_oldOf_127 rfl ?_
        refine g_getf (pc := 128) C 0 rfl rfl inX5_oldOf_X5 16 (by decide) lkX5_oldOf_230 rfl rfl dX5_oldOf_128 ?_
        obtain rfl := Option.some.inj hf
        exact g_iret (v := (mTok r1.1)) C E dX5_oldOf_131 (Nat.le_of_ble_eq_true rfl) (Nat.le_of_ble_eq_true rfl) ⟨rfl, rfl⟩
      · refine g_iload_n (pc := 123) (x := r1.2) C dX5_oldOf_123 rfl ?_
        refine g_goto (pc := 124) (tgt := 131) C dX5_oldOf_124 (by decide) ?_
        obtain rfl := Option.some.inj hf
        exact g_iret (v := r1.2) C E dX5_oldOf_131 (Nat.le_of_ble_eq_true rfl) (Nat.le_of_ble_eq_true rfl) ⟨rfl, rfl⟩
    · refine g_iconst (pc := 115) (v := (-1)) C dX5_oldOf_115 (by decide) ?_
      refine g_goto (pc := 116) (tgt := 131) C dX5_oldOf_116 (by decide) ?_
      obtain rfl := Option.some.inj hf
      exact g_iret (v := (-1)) C E dX5_oldOf_131 (Nat.le_of_ble_eq_true rfl) (Nat.le_of_ble_eq_true rfl) ⟨rfl, rfl⟩
  · refine g_aload_n (pc := 101) (x := (aM 0)) C dX5_oldOf_101 rfl ?_
    refine g_getf (pc := 102) C 0 rfl rfl inX5_oldOf_X5 17 (by decide) lkX5_oldOf_227 rfl rfl dX5_oldOf_102 ?_
    refine g_goto (pc := 105) (tgt := 131) C dX5_oldOf_105 (by decide) ?_
    obtain rfl := Option.some.inj hf
    exact g_iret (v := (mLft r1.1)) C E dX5_oldOf_131 (Nat.le_of_ble_eq_true rfl) (Nat.le_of_ble_eq_true rfl) ⟨rfl, rfl⟩
set_option maxRecDepth 100000 in
set_option maxHeartbeats 4000000 in
theorem cX5_oldOf_ (l : Launch) (htr : l.stackTraces = false) (D : va_G) (N : Nat) (aM : Nat → Nat) (v : VM) (p1 : Int32) (p2 : Int32) (r : VM × Int32) (hf : fX5_oldOf N v p1 p2 = some r) : Tc l D yX5_oldOf wsX5_oldOf rmX5_oldOf [.ref (aM 0), .int p1, .int p2] (wM D aM v) (fun rv w => rv = some (.int r.2) ∧ w = (wM D aM r.1)) (fun _ _ => False) 0 0 := Tc_of htr (by decide +kernel) rfl (Nat.le_of_ble_eq_true rfl) (fun k C E hl hD => by subst hD; exact wkX5_oldOf C N aM v p1 p2 r hf E)
abbrev rmX5_oldWay : Room := { frames := 4, cells := 0, slots := 0, locals := 93 }
theorem inX5_oldWay_X5 : ∀ w ∈ wsX50, w ∈ wsX5_oldWay := by decide +kernel
theorem lkX5_oldWay_38 : Cond.fieldLink RX5 38 "GaugeBlocksModel" (TX5 5).2.1 (TX5 5).2.2.1 ∈ wsX5_oldWay := by decide +kernel
theorem hdX5_oldWay : yX5_oldWay.cls = RX5 ∧ yX5_oldWay.cls ≠ "java/lang/invoke/MethodHandle" ∧ yX5_oldWay.cls ≠ "java/lang/invoke/VarHandle" ∧ (parseMethodDescriptor yX5_oldWay.desc).map (fun d => d.parameters.length) = some 2 := by decide +kernel
def fX5_oldWay (N : Nat) (v : VM) (p1 : Int32) (p2 : Int32) : Option (VM × Int32) := ((fX5_isLength N p1).bind fun r1 => (if r1 = true then ((fX5_in N p2 0 2).bind fun r3 => (if r3 = true then ((fX5_oldOf N ((mRow v), (mSav v), (mSvn v), (mSnp v), (mKep v), 0, (mFre v), (mFrn v), (mBuf v), (mLen v), (mSpt v), (mNum v), (mOrd v), (mLet v), (mFst v), (mSnd v), (mTok v), (mLft v)) p1 p2).bind fun r5 => some (r5.1, r5.2)) else ((fX5_fails N ((mRow v), (mSav v), (mSvn v), (mSnp v), (mKep v), 0, (mFre v), (mFrn v), (mBuf v), (mLen v), (mSpt v), (mNum v), (mOrd v), (mLet v), (mFst v), (mSnd v), (mTok v), (mLft v)) 1).bind fun r4 => some (r4.1, r4.2)))) else ((fX5_fails N ((mRow v), (mSav v), (mSvn v), (mSnp v), (mKep v), 0, (mFre v), (mFrn v), (mBuf v), (mLen v), (mSpt v), (mNum v), (mOrd v), (mLet v), (mFst v), (mSnd v), (mTok v), (mLft v)) 1).bind fun r2 => some (r2.1, r2.2))))
set_option maxRecDepth 100000 in
set_option maxHeartbeats 4000000 in
theorem wkX5_oldWay {k : Kt} (C : gC k cX5_oldWay 3 RX5 wsX5_oldWay rmX5_oldWay "oldWay") (N : Nat) (aM : Nat → Nat) (v : VM) (p1 : Int32) (p2 : Int32) (r : VM × Int32) (hf : fX5_oldWay N v p1 p2 = some r) (E : gE k (wM (kD k) aM v) (fun rv w => rv = some (.int r.2) ∧ w = (wM (kD k) aM r.1)) (fun _ _ => False) 0 0 (some .int) []) : gG k (wM (kD k) aM v) [(0, .ref (aM 0)), (1, .int p1), (2, .int p2)] 0 0 0 [] := by
  unfold fX5_oldWay at hf
  refine g_aload_n (pc := 0) (x := (aM 0)) C dX5_oldWay_0 rfl ?_
  refine g_iconst (pc := 1) (v := 0) C dX5_oldWay_1 (by decide) ?_
  refine g_putf (pc := 2) C 0 rfl rfl inX5_oldWay_X5 tyX5 tyX5_ok nmX5 5 (by decide) lkX5_oldWay_38 rfl rfl pfX5_5 rfl rfl (Nat.le_of_ble_eq_true rfl) dX5_oldWay_2 (ws' := (wM (kD k) aM ((mRow v), (mSav v), (mSvn v), (mSnp v), (mKep v), 0, (mFre v), (mFrn v), (mBuf v), (mLen v), (mSpt v), (mNum v), (mOrd v), (mLet v), (mFst v), (mSnd v), (mTok v), (mLft v)))) rfl ?_
  refine g_iload_n (pc := 5) (x := p1) C dX5_oldWay_5 rfl ?_
  refine g_callR (pc' := 9) (cs' := 0) (sl' := 0) hf C (fun u => some (.int (b2i u))) (fun u hu => gr_S (rest := []) C (cX5_isLength_ (kL k) C.tr (kD k) N p1 u hu) (fun ht => va_cwS 1 ht gX5_oldWay_X5_isLength rfl rfl rfl hsX5_isLength ⟨(Nat.le_of_ble_eq_true rfl), (Nat.le_of_ble_eq_true rfl)⟩) [] rfl (by decide) rfl rfl (Nat.le_of_ble_eq_true rfl) dX5_oldWay_6 ⟨(Nat.le_of_ble_eq_true rfl), (Nat.le_of_ble_eq_true rfl)⟩) [] rfl rfl rfl rfl (fun u => [.int (b2i u)]) (fun u => rfl) (fun r1 hf => ?_)
  refine g_ifB_eq (pc := 9) (tgt := 30) (b := r1) hf C dX5_oldWay_9 (by decide) (fun hf => ?_) (fun hf => ?_)
  · refine g_aload_n (pc := 30) (x := (aM 0)) C dX5_oldWay_30 rfl ?_
    refine g_iconst (pc := 31) (v := 1) C dX5_oldWay_31 (by decide) ?_
    refine g_callW (wr := []) (pc' := 35) (cs' := 0) (sl' := 0) hf C (fun u => some (.int u.2)) (fun u => (wM (kD k) aM u.1)) (fun u hu => gr_V (rest := []) C (cX5_fails_ (kL k) C.tr (kD k) N aM ((mRow v), (mSav v), (mSvn v), (mSnp v), (mKep v), 0, (mFre v), (mFrn v), (mBuf v), (mLen v), (mSpt v), (mNum v), (mOrd v), (mLet v), (mFst v), (mSnd v), (mTok v), (mLft v)) 1 u hu) (fun ht => cwV 1 ht gX5_oldWay_X5_fails rfl rfl rfl hdX5_fails ⟨(Nat.le_of_ble_eq_true rfl), (Nat.le_of_ble_eq_true rfl)⟩) 0 rfl rfl [0, 1, 2, 3, 4, 5, 6, 7, 8, 9] rfl (by decide) rfl rfl (Nat.le_of_ble_eq_true rfl) dX5_oldWay_32 ⟨(Nat.le_of_ble_eq_true rfl), (Nat.le_of_ble_eq_true rfl)⟩) [0, 1, 2, 3, 4, 5, 6, 7, 8, 9] [] rfl rfl (by decide) (by decide) [0, 1, 2, 3, 4, 5, 6, 7, 8, 9] (by decide) (ws' := fun u => (wM (kD k) aM u.1)) (fun u => rfl) rfl rfl rfl (fun u => [.int u.2]) (fun u => rfl) (fun r2 hf => ?_)
    obtain rfl := Option.some.inj hf
    exact g_iret (v := r2.2) C E dX5_oldWay_35 (Nat.le_of_ble_eq_true rfl) (Nat.le_of_ble_eq_true rfl) ⟨rfl, rfl⟩
  · refine g_iload_n (pc := 12) (x := p2) C dX5_oldWay_12 rfl ?_
    refine g_iconst (pc := 13) (v := 0) C dX5_oldWay_13 (by decide) ?_
    refine g_iconst (pc := 14) (v := 2) C dX5_oldWay_14 (by decide) ?_
    refine g_callR (pc' := 18) (cs' := 0) (sl' := 0) hf C (fun u => some (.int (b2i u))) (fun u hu => gr_S (rest := []) C (cX5_in_ (kL k) C.tr (kD k) N p2 0 2 u hu) (fun ht => va_cwS 3 ht gX5_oldWay_X5_in rfl rfl rfl hsX5_in ⟨(Nat.le_of_ble_eq_true rfl), (Nat.le_of_ble_eq_true rfl)⟩) [] rfl (by decide) rfl rfl (Nat.le_of_ble_eq_true rfl) dX5_oldWay_15 ⟨(Nat.le_of_ble_eq_true rfl), (Nat.le_of_ble_eq_true rfl)⟩) [] rfl rfl rfl rfl (fun u => [.int (b2i u)]) (fun u => rfl) (fun r3 hf => ?_)
    refine g_ifB_eq (pc := 18) (tgt := 30) (b := r3) hf C dX5_oldWay_18 (by decide) (fun hf => ?_) (fun hf => ?_)
    · refine g_aload_n (pc := 30) (x := (aM 0)) C dX5_oldWay_30 rfl ?_
      refine g_iconst (pc := 31) (v := 1) C dX5_oldWay_31 (by decide) ?_
      refine g_callW (wr := []) (pc' := 35) (cs' := 0) (sl' := 0) hf C (fun u => some (.int u.2)) (fun u => (wM (kD k) aM u.1)) (fun u hu => gr_V (rest := []) C (cX5_fails_ (kL k) C.tr (kD k) N aM ((mRow v), (mSav v), (mSvn v), (mSnp v), (mKep v), 0, (mFre v), (mFrn v), (mBuf v), (mLen v), (mSpt v), (mNum v), (mOrd v), (mLet v), (mFst v), (mSnd v), (mTok v), (mLft v)) 1 u hu) (fun ht => cwV 1 ht gX5_oldWay_X5_fails rfl rfl rfl hdX5_fails ⟨(Nat.le_of_ble_eq_true rfl), (Nat.le_of_ble_eq_true rfl)⟩) 0 rfl rfl [0, 1, 2, 3, 4, 5, 6, 7, 8, 9] rfl (by decide) rfl rfl (Nat.le_of_ble_eq_true rfl) dX5_oldWay_32 ⟨(Nat.le_of_ble_eq_true rfl), (Nat.le_of_ble_eq_true rfl)⟩) [0, 1, 2, 3, 4, 5, 6, 7, 8, 9] [] rfl rfl (by decide) (by decide) [0, 1, 2, 3, 4, 5, 6, 7, 8, 9] (by decide) (ws' := fun u => (wM (kD k) aM u.1)) (fun u => rfl) rfl rfl rfl (fun u => [.int u.2]) (fun u => rfl) (fun r4 hf => ?_)
      obtain rfl := Option.some.inj hf
      exact g_iret (v := r4.2) C E dX5_oldWay_35 (Nat.le_of_ble_eq_true rfl) (Nat.le_of_ble_eq_true rfl) ⟨rfl, rfl⟩
    · refine g_aload_n (pc := 21) (x := (aM 0)) C dX5_oldWay_21 rfl ?_
      refine g_iload_n (pc := 22) (x := p1) C dX5_oldWay_22 rfl ?_
      refine g_iload_n (pc := 23) (x := p2) C dX5_oldWay_23 rfl ?_
      refine g_callW (wr := []) (pc' := 27) (cs' := 0) (sl' := 0) hf C (fun u => some (.int u.2)) (fun u => (wM (kD k) aM u.1)) (fun u hu => gr_V (rest := []) C (cX5_oldOf_ (kL k) C.tr (kD k) N aM ((mRow v), (mSav v), (mSvn v), (mSnp v), (mKep v), 0, (mFre v), (mFrn v), (mBuf v), (mLen v), (mSpt v), (mNum v), (mOrd v), (mLet v), (mFst v), (mSnd v), (mTok v), (mLft v)) p1 p2 u hu) (fun ht => cwV 2 ht gX5_oldWay_X5_oldOf rfl rfl rfl hdX5_oldOf ⟨(Nat.le_of_ble_eq_true rfl), (Nat.le_of_ble_eq_true rfl)⟩) 0 rfl rfl [0, 1, 2, 3, 4, 5, 6, 7, 8, 9] rfl (by decide) rfl rfl (Nat.le_of_ble_eq_true rfl) dX5_oldWay_24 ⟨(Nat.le_of_ble_eq_true rfl), (Nat.le_of_ble_eq_true rfl)⟩) [0, 1, 2, 3, 4, 5, 6, 7, 8, 9] [] rfl rfl (by decide) (by decide) [0, 1, 2, 3, 4, 5, 6, 7, 8, 9] (by decide) (ws' := fun u => (wM (kD k) aM u.1)) (fun u => rfl) rfl rfl rfl (fun u => [.int u.2]) (fun u => rfl) (fun r5 hf => ?_)
      refine g_goto (pc := 27) (tgt := 35) C dX5_oldWay_27 (by decide) ?_
      obtain rfl := Option.some.inj hf
      exact g_iret (v := r5.2) C E dX5_oldWay_35 (Nat.le_of_ble_eq_true rfl) (Nat.le_of_ble_eq_true rfl) ⟨rfl, rfl⟩
set_option maxRecDepth 100000 in
set_option maxHeartbeats 4000000 in
theorem cX5_oldWay_ (l : Launch) (htr : l.stackTraces = false) (D : va_G) (N : Nat) (aM : Nat → Nat) (v : VM) (p1 : Int32) (p2 : Int32) (r : VM × Int32) (hf : fX5_oldWay N v p1 p2 = some r) : Tc l D yX5_oldWay wsX5_oldWay rmX5_oldWay [.ref (aM 0), .int p1, .int p2] (wM D aM v) (fun rv w => rv = some (.int r.2) ∧ w = (wM D aM r.1)) (fun _ _ => False) 0 0 := Tc_of htr (by decide +kernel) rfl (Nat.le_of_ble_eq_true rfl) (fun k C E hl hD => by subst hD; exact wkX5_oldWay C N aM v p1 p2 r hf E)
abbrev rmX5_nearer : Room := { frames := 1, cells := 0, slots := 0, locals := 20 }
theorem hsX5_nearer : yX5_nearer.cls ≠ "java/lang/invoke/MethodHandle" ∧ yX5_nearer.cls ≠ "java/lang/invoke/VarHandle" ∧ (parseMethodDescriptor yX5_nearer.desc).map (fun d => d.parameters.length) = some 3 := by decide +kernel
def fX5_nearer (N : Nat) (p0 : Int32) (p1 : Int32) (p2 : Int32) : Option (Int32) := ((fX5_size N (p1 - p2)).bind fun r1 => ((fX5_size N (p0 - p2)).bind fun r2 => (if p0 = ((-1) : Int32) then some p1 else (if (r1 - r2) < (0 : Int32) then some p1 else (if (r1 - r2) = (0 : Int32) then (if p0 ≤ p1 then some p0 else some p1) else some p0)))))
set_option maxRecDepth 100000 in
set_option maxHeartbeats 4000000 in
theorem wkX5_nearer {k : Kt} (C : gC k cX5_nearer 4 RX5 wsX5_nearer rmX5_nearer "nearer") (N : Nat) (p0 : Int32) (p1 : Int32) (p2 : Int32) (r : Int32) (hf : fX5_nearer N p0 p1 p2 = some r) (E : gE k [] (fun rv w => rv = some (.int r) ∧ w = []) (fun _ _ => False) 0 0 (some .int) []) : gG k [] [(0, .int p0), (1, .int p1), (2, .int p2)] 0 0 0 [] := by
  unfold fX5_nearer at hf
  refine g_iload_n (pc := 0) (x := p1) C dX5_nearer_0 rfl ?_
  refine g_iload_n (pc := 1) (x := p2) C dX5_nearer_1 rfl ?_
  refine g_isub (pc := 2) (x := p1) (y := p2) C dX5_nearer_2 ?_
  refine g_callR (pc' := 6) (cs' := 0) (sl' := 0) hf C (fun u => some (.int u)) (fun u hu => gr_S (rest := []) C (cX5_size_ (kL k) C.tr (kD k) N (p1 - p2) u hu) (fun ht => va_cwS 1 ht gX5_nearer_X5_size rfl rfl rfl hsX5_size ⟨(Nat.le_of_ble_eq_true rfl), (Nat.le_of_ble_eq_true rfl)⟩) [] rfl (by decide) rfl rfl (Nat.le_of_ble_eq_true rfl) dX5_nearer_3 ⟨(Nat.le_of_ble_eq_true rfl), (Nat.le_of_ble_eq_true rfl)⟩) [] rfl rfl rfl rfl (fun u => [.int u]) (fun u => rfl) (fun r1 hf => ?_)
  refine g_iload_n (pc := 6) (x := p0) C dX5_nearer_6 rfl ?_
  refine g_iload_n (pc := 7) (x := p2) C dX5_nearer_7 rfl ?_
  refine g_isub (pc := 8) (x := p0) (y := p2) C dX5_nearer_8 ?_
  refine g_callR (pc' := 12) (cs' := 0) (sl' := 0) hf C (fun u => some (.int u)) (fun u hu => gr_S (rest := [.int r1]) C (cX5_size_ (kL k) C.tr (kD k) N (p0 - p2) u hu) (fun ht => va_cwS 1 ht gX5_nearer_X5_size rfl rfl rfl hsX5_size ⟨(Nat.le_of_ble_eq_true rfl), (Nat.le_of_ble_eq_true rfl)⟩) [] rfl (by decide) rfl rfl (Nat.le_of_ble_eq_true rfl) dX5_nearer_9 ⟨(Nat.le_of_ble_eq_true rfl), (Nat.le_of_ble_eq_true rfl)⟩) [] rfl rfl rfl rfl (fun u => [.int u, .int r1]) (fun u => rfl) (fun r2 hf => ?_)
  refine g_isub (pc := 12) (x := r1) (y := r2) C dX5_nearer_12 ?_
  refine g_istore_n (pc := 13) (lv' := [(3, .int (r1 - r2)), (0, .int p0), (1, .int p1), (2, .int p2)]) C dX5_nearer_13 (by decide) rfl ?_
  refine g_iload_n (pc := 14) (x := p0) C dX5_nearer_14 rfl ?_
  refine g_iconst (pc := 15) (v := (-1)) C dX5_nearer_15 (by decide) ?_
  refine g_icmp_eq (pc := 16) (tgt := 32) (x := p0) (y := (-1)) hf C dX5_nearer_16 (by decide) (fun hf => ?_) (fun hf => ?_)
  · refine g_iload_n (pc := 32) (x := p1) C dX5_nearer_32 rfl ?_
    refine g_goto (pc := 33) (tgt := 37) C dX5_nearer_33 (by decide) ?_
    obtain rfl := Option.some.inj hf
    exact g_iret (v := p1) C E dX5_nearer_37 (Nat.le_of_ble_eq_true rfl) (Nat.le_of_ble_eq_true rfl) ⟨rfl, rfl⟩
  · refine g_iload_n (pc := 19) (x := (r1 - r2)) C dX5_nearer_19 rfl ?_
    refine g_if_lt (pc := 20) (tgt := 32) (x := (r1 - r2)) hf C dX5_nearer_20 (by decide) (fun hf => ?_) (fun hf => ?_)
    · refine g_iload_n (pc := 32) (x := p1) C dX5_nearer_32 rfl ?_
      refine g_goto (pc := 33) (tgt := 37) C dX5_nearer_33 (by decide) ?_
      obtain rfl := Option.some.inj hf
      exact g_iret (v := p1) C E dX5_nearer_37 (Nat.le_of_ble_eq_true rfl) (Nat.le_of_ble_eq_true rfl) ⟨rfl, rfl⟩
    · refine g_iload_n (pc := 23) (x := (r1 - r2)) C dX5_nearer_23 rfl ?_
      refine g_if_ne (pc := 24) (tgt := 36) (x := (r1 - r2)) hf C dX5_nearer_24 (by decide) (fun hf => ?_) (fun hf => ?_)
      · refine g_iload_n (pc := 36) (x := p0) C dX5_nearer_36 rfl ?_
        obtain rfl := Option.some.inj hf
        exact g_iret (v := p0) C E dX5_nearer_37 (Nat.le_of_ble_eq_true rfl) (Nat.le_of_ble_eq_true rfl) ⟨rfl, rfl⟩
      · refine g_iload_n (pc := 27) (x := p1) C dX5_nearer_27 rfl ?_
        refine g_iload_n (pc := 28) (x := p0) C dX5_nearer_28 rfl ?_
        refine g_icmp_ge (pc := 29) (tgt := 36) (x := p1) (y := p0) hf C dX5_nearer_29 (by decide) (fun hf => ?_) (fun hf => ?_)
        · refine g_iload_n (pc := 36) (x := p0) C dX5_nearer_36 rfl ?_
          obtain rfl := Option.some.inj hf
          exact g_iret (v := p0) C E dX5_nearer_37 (Nat.le_of_ble_eq_true rfl) (Nat.le_of_ble_eq_true rfl) ⟨rfl, rfl⟩
        · refine g_iload_n (pc := 32) (x := p1) C dX5_nearer_32 rfl ?_
          refine g_goto (pc := 33) (tgt := 37) C dX5_nearer_33 (by decide) ?_
          obtain rfl := Option.some.inj hf
          exact g_iret (v := p1) C E dX5_nearer_37 (Nat.le_of_ble_eq_true rfl) (Nat.le_of_ble_eq_true rfl) ⟨rfl, rfl⟩
set_option maxRecDepth 100000 in
set_option maxHeartbeats 4000000 in
theorem cX5_nearer_ (l : Launch) (htr : l.stackTraces = false) (D : va_G) (N : Nat) (p0 : Int32) (p1 : Int32) (p2 : Int32) (r : Int32) (hf : fX5_nearer N p0 p1 p2 = some r) : Tc l D yX5_nearer wsX5_nearer rmX5_nearer [.int p0, .int p1, .int p2] [] (fun rv w => rv = some (.int r) ∧ w = []) (fun _ _ => False) 0 0 := Tc_of htr (by decide +kernel) rfl (Nat.le_of_ble_eq_true rfl) (fun k C E hl hD => by subst hD; exact wkX5_nearer C N p0 p1 p2 r hf E)
abbrev rmX5_nearestTo : Room := { frames := 3, cells := 0, slots := 0, locals := 64 }
theorem inX5_nearestTo_X5 : ∀ w ∈ wsX50, w ∈ wsX5_nearestTo := by decide +kernel
theorem lkX5_nearestTo_97 : Cond.fieldLink RX5 97 "GaugeBlocksModel" (TX5 7).2.1 (TX5 7).2.2.1 ∈ wsX5_nearestTo := by decide +kernel
theorem lkX5_nearestTo_23 : Cond.fieldLink RX5 23 "GaugeBlocksModel" (TX5 6).2.1 (TX5 6).2.2.1 ∈ wsX5_nearestTo := by decide +kernel
theorem hdX5_nearestTo : yX5_nearestTo.cls = RX5 ∧ yX5_nearestTo.cls ≠ "java/lang/invoke/MethodHandle" ∧ yX5_nearestTo.cls ≠ "java/lang/invoke/VarHandle" ∧ (parseMethodDescriptor yX5_nearestTo.desc).map (fun d => d.parameters.length) = some 1 := by decide +kernel
def lX5_nearestTo_36 (N : Nat) (v : VM) (l1 : Int32) (l3 : Int32) : Nat → Int32 → Int32 → Option ((Int32))
  | 0, _, _ => none
  | n + 1, l2, l4 => (if l3 ≤ l4 then some l2 else ck l3 20 (((fX5_of N v ((mFre v) (Int32.toNatClampNeg l3)) 0).bind fun r1 => ck l4 20 (((fX5_of N v ((mFre v) (Int32.toNatClampNeg l4)) 0).bind fun r2 => ((fX5_nearer N l2 (r1 + r2) l1).bind fun r3 => (lX5_nearestTo_36 N v l1 l3 n r3 (l4 + 1))))))))
set_option maxRecDepth 100000 in
set_option maxHeartbeats 4000000 in
theorem wlX5_nearestTo_36 {k : Kt} (C : gC k cX5_nearestTo 5 RX5 wsX5_nearestTo rmX5_nearestTo "nearestTo") (N : Nat) (aM : Nat → Nat) (v : VM) (l1 : Int32) (l3 : Int32) : ∀ (n : Nat) (l2 : Int32) (l4 : Int32) (u : (Int32)) (hf : lX5_nearestTo_36 N v l1 l3 n l2 l4 = some u) (hk0 : gG k (wM (kD k) aM v) [(0, .ref (aM 0)), (1, .int l1), (2, .int u), (3, .int l3)] 0 0 78 []), gG k (wM (kD k) aM v) [(0, .ref (aM 0)), (1, .int l1), (2, .int l2), (3, .int l3), (4, .int l4)] 0 0 36 [] := by
  intro n
  induction n with
  | zero => intro l2 l4 u hf hk0; rw [lX5_nearestTo_36] at hf; cases hf
  | succ n ih =>
    intro l2 l4 u hf hk0
    rw [lX5_nearestTo_36] at hf
    refine g_iload (pc := 36) (x := l4) C dX5_nearestTo_36 rfl ?_
    refine g_iload_n (pc := 38) (x := l3) C dX5_nearestTo_38 rfl ?_
    refine g_icmp_ge (pc := 39) (tgt := 78) (x := l4) (y := l3) hf C dX5_nearestTo_39 (by decide) (fun hf => ?_) (fun hf => ?_)
    · obtain rfl := Option.some.inj hf
      refine g_lv [0, 1, 2, 3] (lv' := [(0, .ref (aM 0)), (1, .int l1), (2, .int l2), (3, .int l3)]) rfl ?_
      exact hk0
    · refine g_iload_n (pc := 42) (x := l2) C dX5_nearestTo_42 rfl ?_
      refine g_aload_n (pc := 43) (x := (aM 0)) C dX5_nearestTo_43 rfl ?_
      refine g_aload_n (pc := 44) (x := (aM 0)) C dX5_nearestTo_44 rfl ?_
      refine g_getf (pc := 45) C 0 rfl rfl inX5_nearestTo_X5 6 (by decide) lkX5_nearestTo_23 rfl rfl dX5_nearestTo_45 ?_
      refine g_iload_n (pc := 48) (x := l3) C dX5_nearestTo_48 rfl ?_
      refine g_iald (pc := 49) (i := l3) hf C 5 rfl dX5_nearestTo_49 (fun hf => ?_)
      refine g_iconst (pc := 50) (v := 0) C dX5_nearestTo_50 (by decide) ?_
      refine g_callR (pc' := 54) (cs' := 0) (sl' := 0) hf C (fun u => some (.int u)) (fun u hu => gr_V (rest := [.int l2]) C (cX5_of_ (kL k) C.tr (kD k) N aM v ((mFre v) (Int32.toNatClampNeg l3)) 0 u hu) (fun ht => cwV 2 ht gX5_nearestTo_X5_of rfl rfl rfl hdX5_of ⟨(Nat.le_of_ble_eq_true rfl), (Nat.le_of_ble_eq_true rfl)⟩) 0 rfl rfl [0, 1, 2, 3, 4, 5, 6, 7, 8, 9] rfl (by decide) rfl rfl (Nat.le_of_ble_eq_true rfl) dX5_nearestTo_51 ⟨(Nat.le_of_ble_eq_true rfl), (Nat.le_of_ble_eq_true rfl)⟩) [0, 1, 2, 3, 4, 5, 6, 7, 8, 9] rfl rfl rfl rfl (fun u => [.int u, .int l2]) (fun u => rfl) (fun r1 hf => ?_)
      refine g_aload_n (pc := 54) (x := (aM 0)) C dX5_nearestTo_54 rfl ?_
      refine g_aload_n (pc := 55) (x := (aM 0)) C dX5_nearestTo_55 rfl ?_
      refine g_getf (pc := 56) C 0 rfl rfl inX5_nearestTo_X5 6 (by decide) lkX5_nearestTo_23 rfl rfl dX5_nearestTo_56 ?_
      refine g_iload (pc := 59) (x := l4) C dX5_nearestTo_59 rfl ?_
      refine g_iald (pc := 61) (i := l4) hf C 5 rfl dX5_nearestTo_61 (fun hf => ?_)
      refine g_iconst (pc := 62) (v := 0) C dX5_nearestTo_62 (by decide) ?_
      refine g_callR (pc' := 66) (cs' := 0) (sl' := 0) hf C (fun u => some (.int u)) (fun u hu => gr_V (rest := [.int r1, .int l2]) C (cX5_of_ (kL k) C.tr (kD k) N aM v ((mFre v) (Int32.toNatClampNeg l4)) 0 u hu) (fun ht => cwV 2 ht gX5_nearestTo_X5_of rfl rfl rfl hdX5_of ⟨(Nat.le_of_ble_eq_true rfl), (Nat.le_of_ble_eq_true rfl)⟩) 0 rfl rfl [0, 1, 2, 3, 4, 5, 6, 7, 8, 9] rfl (by decide) rfl rfl (Nat.le_of_ble_eq_true rfl) dX5_nearestTo_63 ⟨(Nat.le_of_ble_eq_true rfl), (Nat.le_of_ble_eq_true rfl)⟩) [0, 1, 2, 3, 4, 5, 6, 7, 8, 9] rfl rfl rfl rfl (fun u => [.int u, .int r1, .int l2]) (fun u => rfl) (fun r2 hf => ?_)
      refine g_iadd (pc := 66) (x := r1) (y := r2) C dX5_nearestTo_66 ?_
      refine g_iload_n (pc := 67) (x := l1) C dX5_nearestTo_67 rfl ?_
      refine g_callR (pc' := 71) (cs' := 0) (sl' := 0) hf C (fun u => some (.int u)) (fun u hu => gr_S (rest := []) C (cX5_nearer_ (kL k) C.tr (kD k) N l2 (r1 + r2) l1 u hu) (fun ht => va_cwS 3 ht gX5_nearestTo_X5_nearer rfl rfl rfl hsX5_nearer ⟨(Nat.le_of_ble_eq_true rfl), (Nat.le_of_ble_eq_true rfl)⟩) [] rfl (by decide) rfl rfl (Nat.le_of_ble_eq_true rfl) dX5_nearestTo_68 ⟨(Nat.le_of_ble_eq_true rfl), (Nat.le_of_ble_eq_true rfl)⟩) [] rfl rfl rfl rfl (fun u => [.int u]) (fun u => rfl) (fun r3 hf => ?_)
      refine g_istore_n (pc := 71) (lv' := [(2, .int r3), (0, .ref (aM 0)), (1, .int l1), (3, .int l3), (4, .int l4)]) C dX5_nearestTo_71 (by decide) rfl ?_
      refine g_iinc (pc := 72) (x := l4) (v := (l4 + 1)) (lv' := [(4, .int (l4 + 1)), (2, .int r3), (0, .ref (aM 0)), (1, .int l1), (3, .int l3)]) C dX5_nearestTo_72 rfl rfl (by decide) rfl ?_
      refine g_goto (pc := 75) (tgt := 36) C dX5_nearestTo_75 (by decide) ?_
      refine g_lv [2, 3, 1, 4, 0] (lv' := [(0, .ref (aM 0)), (1, .int l1), (2, .int r3), (3, .int l3), (4, .int (l4 + 1))]) rfl ?_
      exact ih r3 (l4 + 1) u hf hk0
def lX5_nearestTo_8 (N : Nat) (v : VM) (l1 : Int32) : Nat → Int32 → Int32 → Option ((Int32))
  | 0, _, _ => none
  | n + 1, l2, l3 => (if (mFrn v) ≤ l3 then some l2 else ck l3 20 (((fX5_of N v ((mFre v) (Int32.toNatClampNeg l3)) 0).bind fun r1 => ((fX5_nearer N l2 r1 l1).bind fun r2 => ((lX5_nearestTo_36 N v l1 l3 N r2 0).bind fun r3 => (lX5_nearestTo_8 N v l1 n r3 (l3 + 1)))))))
set_option maxRecDepth 100000 in
set_option maxHeartbeats 4000000 in
theorem wlX5_nearestTo_8 {k : Kt} (C : gC k cX5_nearestTo 5 RX5 wsX5_nearestTo rmX5_nearestTo "nearestTo") (N : Nat) (aM : Nat → Nat) (v : VM) (l1 : Int32) : ∀ (n : Nat) (l2 : Int32) (l3 : Int32) (u : (Int32)) (hf : lX5_nearestTo_8 N v l1 n l2 l3 = some u) (hk0 : gG k (wM (kD k) aM v) [(2, .int u)] 0 0 84 []), gG k (wM (kD k) aM v) [(0, .ref (aM 0)), (1, .int l1), (2, .int l2), (3, .int l3)] 0 0 8 [] := by
  intro n
  induction n with
  | zero => intro l2 l3 u hf hk0; rw [lX5_nearestTo_8] at hf; cases hf
  | succ n ih =>
    intro l2 l3 u hf hk0
    rw [lX5_nearestTo_8] at hf
    refine g_iload_n (pc := 8) (x := l3) C dX5_nearestTo_8 rfl ?_
    refine g_aload_n (pc := 9) (x := (aM 0)) C dX5_nearestTo_9 rfl ?_
    refine g_getf (pc := 10) C 0 rfl rfl inX5_nearestTo_X5 7 (by decide) lkX5_nearestTo_97 rfl rfl dX5_nearestTo_10 ?_
    refine g_icmp_ge (pc := 13) (tgt := 84) (x := l3) (y := (mFrn v)) hf C dX5_nearestTo_13 (by decide) (fun hf => ?_) (fun hf => ?_)
    · obtain rfl := Option.some.inj hf
      refine g_lv [2] (lv' := [(2, .int l2)]) rfl ?_
      exact hk0
    · refine g_iload_n (pc := 16) (x := l2) C dX5_nearestTo_16 rfl ?_
      refine g_aload_n (pc := 17) (x := (aM 0)) C dX5_nearestTo_17 rfl ?_
      refine g_aload_n (pc := 18) (x := (aM 0)) C dX5_nearestTo_18 rfl ?_
      refine g_getf (pc := 19) C 0 rfl rfl inX5_nearestTo_X5 6 (by decide) lkX5_nearestTo_23 rfl rfl dX5_nearestTo_19 ?_
      refine g_iload_n (pc := 22) (x := l3) C dX5_nearestTo_22 rfl ?_
      refine g_iald (pc := 23) (i := l3) hf C 5 rfl dX5_nearestTo_23 (fun hf => ?_)
      refine g_iconst (pc := 24) (v := 0) C dX5_nearestTo_24 (by decide) ?_
      refine g_callR (pc' := 28) (cs' := 0) (sl' := 0) hf C (fun u => some (.int u)) (fun u hu => gr_V (rest := [.int l2]) C (cX5_of_ (kL k) C.tr (kD k) N aM v ((mFre v) (Int32.toNatClampNeg l3)) 0 u hu) (fun ht => cwV 2 ht gX5_nearestTo_X5_of rfl rfl rfl hdX5_of ⟨(Nat.le_of_ble_eq_true rfl), (Nat.le_of_ble_eq_true rfl)⟩) 0 rfl rfl [0, 1, 2, 3, 4, 5, 6, 7, 8, 9] rfl (by decide) rfl rfl (Nat.le_of_ble_eq_true rfl) dX5_nearestTo_25 ⟨(Nat.le_of_ble_eq_true rfl), (Nat.le_of_ble_eq_true rfl)⟩) [0, 1, 2, 3, 4, 5, 6, 7, 8, 9] rfl rfl rfl rfl (fun u => [.int u, .int l2]) (fun u => rfl) (fun r1 hf => ?_)
      refine g_iload_n (pc := 28) (x := l1) C dX5_nearestTo_28 rfl ?_
      refine g_callR (pc' := 32) (cs' := 0) (sl' := 0) hf C (fun u => some (.int u)) (fun u hu => gr_S (rest := []) C (cX5_nearer_ (kL k) C.tr (kD k) N l2 r1 l1 u hu) (fun ht => va_cwS 3 ht gX5_nearestTo_X5_nearer rfl rfl rfl hsX5_nearer ⟨(Nat.le_of_ble_eq_true rfl), (Nat.le_of_ble_eq_true rfl)⟩) [] rfl (by decide) rfl rfl (Nat.le_of_ble_eq_true rfl) dX5_nearestTo_29 ⟨(Nat.le_of_ble_eq_true rfl), (Nat.le_of_ble_eq_true rfl)⟩) [] rfl rfl rfl rfl (fun u => [.int u]) (fun u => rfl) (fun r2 hf => ?_)
      refine g_istore_n (pc := 32) (lv' := [(2, .int r2), (0, .ref (aM 0)), (1, .int l1), (3, .int l3)]) C dX5_nearestTo_32 (by decide) rfl ?_
      refine g_iconst (pc := 33) (v := 0) C dX5_nearestTo_33 (by decide) ?_
      refine g_istore (pc := 34) (lv' := [(4, .int 0), (2, .int r2), (0, .ref (aM 0)), (1, .int l1), (3, .int l3)]) C dX5_nearestTo_34 (by decide) rfl ?_
      obtain ⟨r3, h3, hf⟩ := bd_e hf
      refine g_lv [2, 3, 1, 4, 0] (lv' := [(0, .ref (aM 0)), (1, .int l1), (2, .int r2), (3, .int l3), (4, .int 0)]) rfl ?_
      refine wlX5_nearestTo_36 C N aM v l1 l3 N r2 0 r3 h3 ?_
      refine g_iinc (pc := 78) (x := l3) (v := (l3 + 1)) (lv' := [(3, .int (l3 + 1)), (0, .ref (aM 0)), (1, .int l1), (2, .int r3)]) C dX5_nearestTo_78 rfl rfl (by decide) rfl ?_
      refine g_goto (pc := 81) (tgt := 8) C dX5_nearestTo_81 (by decide) ?_
      refine g_lv [1, 2, 3, 0] (lv' := [(0, .ref (aM 0)), (1, .int l1), (2, .int r3), (3, .int (l3 + 1))]) rfl ?_
      exact ih r3 (l3 + 1) u hf hk0
def fX5_nearestTo (N : Nat) (v : VM) (p1 : Int32) : Option (VM × Int32) := ((fX5_lookForFree N v).bind fun r1 => ((lX5_nearestTo_8 N r1 p1 N (-1) 0).bind fun r2 => some (r1, r2)))
set_option maxRecDepth 100000 in
set_option maxHeartbeats 4000000 in
theorem wkX5_nearestTo {k : Kt} (C : gC k cX5_nearestTo 5 RX5 wsX5_nearestTo rmX5_nearestTo "nearestTo") (N : Nat) (aM : Nat → Nat) (v : VM) (p1 : Int32) (r : VM × Int32) (hf : fX5_nearestTo N v p1 = some r) (E : gE k (wM (kD k) aM v) (fun rv w => rv = some (.int r.2) ∧ w = (wM (kD k) aM r.1)) (fun _ _ => False) 0 0 (some .int) []) : gG k (wM (kD k) aM v) [(0, .ref (aM 0)), (1, .int p1)] 0 0 0 [] := by
  unfold fX5_nearestTo at hf
  refine g_aload_n (pc := 0) (x := (aM 0)) C dX5_nearestTo_0 rfl ?_
  refine g_callW (wr := []) (pc' := 4) (cs' := 0) (sl' := 0) hf C (fun u => none) (fun u => (wM (kD k) aM u)) (fun u hu => gr_V (rest := []) C (cX5_lookForFree_ (kL k) C.tr (kD k) N aM v u hu) (fun ht => cwV 0 ht gX5_nearestTo_X5_lookForFree rfl rfl rfl hdX5_lookForFree ⟨(Nat.le_of_ble_eq_true rfl), (Nat.le_of_ble_eq_true rfl)⟩) 0 rfl rfl [0, 1, 2, 3, 4, 5, 6, 7, 8, 9] rfl (by decide) rfl rfl (Nat.le_of_ble_eq_true rfl) dX5_nearestTo_1 ⟨(Nat.le_of_ble_eq_true rfl), (Nat.le_of_ble_eq_true rfl)⟩) [0, 1, 2, 3, 4, 5, 6, 7, 8, 9] [] rfl rfl (by decide) (by decide) [0, 1, 2, 3, 4, 5, 6, 7, 8, 9] (by decide) (ws' := fun u => (wM (kD k) aM u)) (fun u => rfl) rfl rfl rfl (fun u => []) (fun u => rfl) (fun r1 hf => ?_)
  refine g_iconst (pc := 4) (v := (-1)) C dX5_nearestTo_4 (by decide) ?_
  refine g_istore_n (pc := 5) (lv' := [(2, .int (-1)), (0, .ref (aM 0)), (1, .int p1)]) C dX5_nearestTo_5 (by decide) rfl ?_
  refine g_iconst (pc := 6) (v := 0) C dX5_nearestTo_6 (by decide) ?_
  refine g_istore_n (pc := 7) (lv' := [(3, .int 0), (2, .int (-1)), (0, .ref (aM 0)), (1, .int p1)]) C dX5_nearestTo_7 (by decide) rfl ?_
  obtain ⟨r2, h2, hf⟩ := bd_e hf
  refine g_lv [2, 3, 1, 0] (lv' := [(0, .ref (aM 0)), (1, .int p1), (2, .int (-1)), (3, .int 0)]) rfl ?_
  refine wlX5_nearestTo_8 C N aM r1 p1 N (-1) 0 r2 h2 ?_
  refine g_iload_n (pc := 84) (x := r2) C dX5_nearestTo_84 rfl ?_
  obtain rfl := Option.some.inj hf
  exact g_iret (v := r2) C E dX5_nearestTo_85 (Nat.le_of_ble_eq_true rfl) (Nat.le_of_ble_eq_true rfl) ⟨rfl, rfl⟩
set_option maxRecDepth 100000 in
set_option maxHeartbeats 4000000 in
theorem cX5_nearestTo_ (l : Launch) (htr : l.stackTraces = false) (D : va_G) (N : Nat) (aM : Nat → Nat) (v : VM) (p1 : Int32) (r : VM × Int32) (hf : fX5_nearestTo N v p1 = some r) : Tc l D yX5_nearestTo wsX5_nearestTo rmX5_nearestTo [.ref (aM 0), .int p1] (wM D aM v) (fun rv w => rv = some (.int r.2) ∧ w = (wM D aM r.1)) (fun _ _ => False) 0 0 := Tc_of htr (by decide +kernel) rfl (Nat.le_of_ble_eq_true rfl) (fun k C E hl hD => by subst hD; exact wkX5_nearestTo C N aM v p1 r hf E)
abbrev rmX5_nearest : Room := { frames := 4, cells := 0, slots := 0, locals := 88 }
theorem inX5_nearest_X5 : ∀ w ∈ wsX50, w ∈ wsX5_nearest := by decide +kernel
theorem lkX5_nearest_38 : Cond.fieldLink RX5 38 "GaugeBlocksModel" (TX5 5).2.1 (TX5 5).2.2.1 ∈ wsX5_nearest := by decide +kernel
theorem hdX5_nearest : yX5_nearest.cls = RX5 ∧ yX5_nearest.cls ≠ "java/lang/invoke/MethodHandle" ∧ yX5_nearest.cls ≠ "java/lang/invoke/VarHandle" ∧ (parseMethodDescriptor yX5_nearest.desc).map (fun d => d.parameters.length) = some 1 := by decide +kernel
def fX5_nearest (N : Nat) (v : VM) (p1 : Int32) : Option (VM × Int32) := ((fX5_isLength N p1).bind fun r1 => (if r1 = true then ((fX5_nearestTo N ((mRow v), (mSav v), (mSvn v), (mSnp v), (mKep v), 0, (mFre v), (mFrn v), (mBuf v), (mLen v), (mSpt v), (mNum v), (mOrd v), (mLet v), (mFst v), (mSnd v), (mTok v), (mLft v)) p1).bind fun r3 => some (r3.1, r3.2)) else ((fX5_fails N ((mRow v), (mSav v), (mSvn v), (mSnp v), (mKep v), 0, (mFre v), (mFrn v), (mBuf v), (mLen v), (mSpt v), (mNum v), (mOrd v), (mLet v), (mFst v), (mSnd v), (mTok v), (mLft v)) 1).bind fun r2 => some (r2.1, r2.2))))
set_option maxRecDepth 100000 in
set_option maxHeartbeats 4000000 in
theorem wkX5_nearest {k : Kt} (C : gC k cX5_nearest 2 RX5 wsX5_nearest rmX5_nearest "nearest") (N : Nat) (aM : Nat → Nat) (v : VM) (p1 : Int32) (r : VM × Int32) (hf : fX5_nearest N v p1 = some r) (E : gE k (wM (kD k) aM v) (fun rv w => rv = some (.int r.2) ∧ w = (wM (kD k) aM r.1)) (fun _ _ => False) 0 0 (some .int) []) : gG k (wM (kD k) aM v) [(0, .ref (aM 0)), (1, .int p1)] 0 0 0 [] := by
  unfold fX5_nearest at hf
  refine g_aload_n (pc := 0) (x := (aM 0)) C dX5_nearest_0 rfl ?_
  refine g_iconst (pc := 1) (v := 0) C dX5_nearest_1 (by decide) ?_
  refine g_putf (pc := 2) C 0 rfl rfl inX5_nearest_X5 tyX5 tyX5_ok nmX5 5 (by decide) lkX5_nearest_38 rfl rfl pfX5_5 rfl rfl (Nat.le_of_ble_eq_true rfl) dX5_nearest_2 (ws' := (wM (kD k) aM ((mRow v), (mSav v), (mSvn v), (mSnp v), (mKep v), 0, (mFre v), (mFrn v), (mBuf v), (mLen v), (mSpt v), (mNum v), (mOrd v), (mLet v), (mFst v), (mSnd v), (mTok v), (mLft v)))) rfl ?_
  refine g_iload_n (pc := 5) (x := p1) C dX5_nearest_5 rfl ?_
  refine g_callR (pc' := 9) (cs' := 0) (sl' := 0) hf C (fun u => some (.int (b2i u))) (fun u hu => gr_S (rest := []) C (cX5_isLength_ (kL k) C.tr (kD k) N p1 u hu) (fun ht => va_cwS 1 ht gX5_nearest_X5_isLength rfl rfl rfl hsX5_isLength ⟨(Nat.le_of_ble_eq_true rfl), (Nat.le_of_ble_eq_true rfl)⟩) [] rfl (by decide) rfl rfl (Nat.le_of_ble_eq_true rfl) dX5_nearest_6 ⟨(Nat.le_of_ble_eq_true rfl), (Nat.le_of_ble_eq_true rfl)⟩) [] rfl rfl rfl rfl (fun u => [.int (b2i u)]) (fun u => rfl) (fun r1 hf => ?_)
  refine g_ifB_eq (pc := 9) (tgt := 20) (b := r1) hf C dX5_nearest_9 (by decide) (fun hf => ?_) (fun hf => ?_)
  · refine g_aload_n (pc := 20) (x := (aM 0)) C dX5_nearest_20 rfl ?_
    refine g_iconst (pc := 21) (v := 1) C dX5_nearest_21 (by decide) ?_
    refine g_callW (wr := []) (pc' := 25) (cs' := 0) (sl' := 0) hf C (fun u => some (.int u.2)) (fun u => (wM (kD k) aM u.1)) (fun u hu => gr_V (rest := []) C (cX5_fails_ (kL k) C.tr (kD k) N aM ((mRow v), (mSav v), (mSvn v), (mSnp v), (mKep v), 0, (mFre v), (mFrn v), (mBuf v), (mLen v), (mSpt v), (mNum v), (mOrd v), (mLet v), (mFst v), (mSnd v), (mTok v), (mLft v)) 1 u hu) (fun ht => cwV 1 ht gX5_nearest_X5_fails rfl rfl rfl hdX5_fails ⟨(Nat.le_of_ble_eq_true rfl), (Nat.le_of_ble_eq_true rfl)⟩) 0 rfl rfl [0, 1, 2, 3, 4, 5, 6, 7, 8, 9] rfl (by decide) rfl rfl (Nat.le_of_ble_eq_true rfl) dX5_nearest_22 ⟨(Nat.le_of_ble_eq_true rfl), (Nat.le_of_ble_eq_true rfl)⟩) [0, 1, 2, 3, 4, 5, 6, 7, 8, 9] [] rfl rfl (by decide) (by decide) [0, 1, 2, 3, 4, 5, 6, 7, 8, 9] (by decide) (ws' := fun u => (wM (kD k) aM u.1)) (fun u => rfl) rfl rfl rfl (fun u => [.int u.2]) (fun u => rfl) (fun r2 hf => ?_)
    obtain rfl := Option.some.inj hf
    exact g_iret (v := r2.2) C E dX5_nearest_25 (Nat.le_of_ble_eq_true rfl) (Nat.le_of_ble_eq_true rfl) ⟨rfl, rfl⟩
  · refine g_aload_n (pc := 12) (x := (aM 0)) C dX5_nearest_12 rfl ?_
    refine g_iload_n (pc := 13) (x := p1) C dX5_nearest_13 rfl ?_
    refine g_callW (wr := []) (pc' := 17) (cs' := 0) (sl' := 0) hf C (fun u => some (.int u.2)) (fun u => (wM (kD k) aM u.1)) (fun u hu => gr_V (rest := []) C (cX5_nearestTo_ (kL k) C.tr (kD k) N aM ((mRow v), (mSav v), (mSvn v), (mSnp v), (mKep v), 0, (mFre v), (mFrn v), (mBuf v), (mLen v), (mSpt v), (mNum v), (mOrd v), (mLet v), (mFst v), (mSnd v), (mTok v), (mLft v)) p1 u hu) (fun ht => cwV 1 ht gX5_nearest_X5_nearestTo rfl rfl rfl hdX5_nearestTo ⟨(Nat.le_of_ble_eq_true rfl), (Nat.le_of_ble_eq_true rfl)⟩) 0 rfl rfl [0, 1, 2, 3, 4, 5, 6, 7, 8, 9] rfl (by decide) rfl rfl (Nat.le_of_ble_eq_true rfl) dX5_nearest_14 ⟨(Nat.le_of_ble_eq_true rfl), (Nat.le_of_ble_eq_true rfl)⟩) [0, 1, 2, 3, 4, 5, 6, 7, 8, 9] [] rfl rfl (by decide) (by decide) [0, 1, 2, 3, 4, 5, 6, 7, 8, 9] (by decide) (ws' := fun u => (wM (kD k) aM u.1)) (fun u => rfl) rfl rfl rfl (fun u => [.int u.2]) (fun u => rfl) (fun r3 hf => ?_)
    refine g_goto (pc := 17) (tgt := 25) C dX5_nearest_17 (by decide) ?_
    obtain rfl := Option.some.inj hf
    exact g_iret (v := r3.2) C E dX5_nearest_25 (Nat.le_of_ble_eq_true rfl) (Nat.le_of_ble_eq_true rfl) ⟨rfl, rfl⟩
set_option maxRecDepth 100000 in
set_option maxHeartbeats 4000000 in
theorem cX5_nearest_ (l : Launch) (htr : l.stackTraces = false) (D : va_G) (N : Nat) (aM : Nat → Nat) (v : VM) (p1 : Int32) (r : VM × Int32) (hf : fX5_nearest N v p1 = some r) : Tc l D yX5_nearest wsX5_nearest rmX5_nearest [.ref (aM 0), .int p1] (wM D aM v) (fun rv w => rv = some (.int r.2) ∧ w = (wM D aM r.1)) (fun _ _ => False) 0 0 := Tc_of htr (by decide +kernel) rfl (Nat.le_of_ble_eq_true rfl) (fun k C E hl hD => by subst hD; exact wkX5_nearest C N aM v p1 r hf E)
abbrev rmX5_coolIn : Room := { frames := 2, cells := 0, slots := 0, locals := 43 }
theorem inX5_coolIn_X5 : ∀ w ∈ wsX50, w ∈ wsX5_coolIn := by decide +kernel
theorem lkX5_coolIn_38 : Cond.fieldLink RX5 38 "GaugeBlocksModel" (TX5 5).2.1 (TX5 5).2.2.1 ∈ wsX5_coolIn := by decide +kernel
theorem lkX5_coolIn_7 : Cond.fieldLink RX5 7 "GaugeBlocksModel" (TX5 0).2.1 (TX5 0).2.2.1 ∈ wsX5_coolIn := by decide +kernel
theorem hdX5_coolIn : yX5_coolIn.cls = RX5 ∧ yX5_coolIn.cls ≠ "java/lang/invoke/MethodHandle" ∧ yX5_coolIn.cls ≠ "java/lang/invoke/VarHandle" ∧ (parseMethodDescriptor yX5_coolIn.desc).map (fun d => d.parameters.length) = some 1 := by decide +kernel
def lX5_coolIn_28 (N : Nat) (v : VM) : Nat → Int32 → Int32 → Option ((Int32))
  | 0, _, _ => none
  | n + 1, l2, l3 => ck 1 149 ((if l3 ≤ ((mRow v) (Int32.toNatClampNeg 1)) then some l2 else ((fX5_cooled N l3).bind fun r1 => (lX5_coolIn_28 N v n (l2 + 1) r1))))
set_option maxRecDepth 100000 in
set_option maxHeartbeats 4000000 in
theorem wlX5_coolIn_28 {k : Kt} (C : gC k cX5_coolIn 4 RX5 wsX5_coolIn rmX5_coolIn "coolIn") (N : Nat) (aM : Nat → Nat) (v : VM) : ∀ (n : Nat) (l2 : Int32) (l3 : Int32) (u : (Int32)) (hf : lX5_coolIn_28 N v n l2 l3 = some u) (hk0 : gG k (wM (kD k) aM v) [(2, .int u)] 0 0 49 []), gG k (wM (kD k) aM v) [(0, .ref (aM 0)), (2, .int l2), (3, .int l3)] 0 0 28 [] := by
  intro n
  induction n with
  | zero => intro l2 l3 u hf hk0; rw [lX5_coolIn_28] at hf; cases hf
  | succ n ih =>
    intro l2 l3 u hf hk0
    rw [lX5_coolIn_28] at hf
    refine g_iload_n (pc := 28) (x := l3) C dX5_coolIn_28 rfl ?_
    refine g_aload_n (pc := 29) (x := (aM 0)) C dX5_coolIn_29 rfl ?_
    refine g_getf (pc := 30) C 0 rfl rfl inX5_coolIn_X5 0 (by decide) lkX5_coolIn_7 rfl rfl dX5_coolIn_30 ?_
    refine g_iconst (pc := 33) (v := 1) C dX5_coolIn_33 (by decide) ?_
    refine g_iald (pc := 34) (i := 1) hf C 1 rfl dX5_coolIn_34 (fun hf => ?_)
    refine g_icmp_le (pc := 35) (tgt := 49) (x := l3) (y := ((mRow v) (Int32.toNatClampNeg 1))) hf C dX5_coolIn_35 (by decide) (fun hf => ?_) (fun hf => ?_)
    · obtain rfl := Option.some.inj hf
      refine g_lv [1] (lv' := [(2, .int l2)]) rfl ?_
      exact hk0
    · refine g_iinc (pc := 38) (x := l2) (v := (l2 + 1)) (lv' := [(2, .int (l2 + 1)), (0, .ref (aM 0)), (3, .int l3)]) C dX5_coolIn_38 rfl rfl (by decide) rfl ?_
      refine g_iload_n (pc := 41) (x := l3) C dX5_coolIn_41 rfl ?_
      refine g_callR (pc' := 45) (cs' := 0) (sl' := 0) hf C (fun u => some (.int u)) (fun u hu => gr_S (rest := []) C (cX5_cooled_ (kL k) C.tr (kD k) N l3 u hu) (fun ht => va_cwS 1 ht gX5_coolIn_X5_cooled rfl rfl rfl hsX5_cooled ⟨(Nat.le_of_ble_eq_true rfl), (Nat.le_of_ble_eq_true rfl)⟩) [] rfl (by decide) rfl rfl (Nat.le_of_ble_eq_true rfl) dX5_coolIn_42 ⟨(Nat.le_of_ble_eq_true rfl), (Nat.le_of_ble_eq_true rfl)⟩) [] rfl rfl rfl rfl (fun u => [.int u]) (fun u => rfl) (fun r1 hf => ?_)
      refine g_istore_n (pc := 45) (lv' := [(3, .int r1), (2, .int (l2 + 1)), (0, .ref (aM 0))]) C dX5_coolIn_45 (by decide) rfl ?_
      refine g_goto (pc := 46) (tgt := 28) C dX5_coolIn_46 (by decide) ?_
      refine g_lv [2, 1, 0] (lv' := [(0, .ref (aM 0)), (2, .int (l2 + 1)), (3, .int r1)]) rfl ?_
      exact ih (l2 + 1) r1 u hf hk0
def fX5_coolIn (N : Nat) (v : VM) (p1 : Int32) : Option (VM × Int32) := ((fX5_isBlock N ((mRow v), (mSav v), (mSvn v), (mSnp v), (mKep v), 0, (mFre v), (mFrn v), (mBuf v), (mLen v), (mSpt v), (mNum v), (mOrd v), (mLet v), (mFst v), (mSnd v), (mTok v), (mLft v)) p1).bind fun r1 => (if r1 = true then ((fX5_of N ((mRow v), (mSav v), (mSvn v), (mSnp v), (mKep v), 0, (mFre v), (mFrn v), (mBuf v), (mLen v), (mSpt v), (mNum v), (mOrd v), (mLet v), (mFst v), (mSnd v), (mTok v), (mLft v)) p1 3).bind fun r2 => ((lX5_coolIn_28 N ((mRow v), (mSav v), (mSvn v), (mSnp v), (mKep v), 0, (mFre v), (mFrn v), (mBuf v), (mLen v), (mSpt v), (mNum v), (mOrd v), (mLet v), (mFst v), (mSnd v), (mTok v), (mLft v)) N 0 r2).bind fun r3 => some (((mRow v), (mSav v), (mSvn v), (mSnp v), (mKep v), 0, (mFre v), (mFrn v), (mBuf v), (mLen v), (mSpt v), (mNum v), (mOrd v), (mLet v), (mFst v), (mSnd v), (mTok v), (mLft v)), r3))) else ((fX5_fails N ((mRow v), (mSav v), (mSvn v), (mSnp v), (mKep v), 0, (mFre v), (mFrn v), (mBuf v), (mLen v), (mSpt v), (mNum v), (mOrd v), (mLet v), (mFst v), (mSnd v), (mTok v), (mLft v)) 1).bind fun r4 => some (r4.1, r4.2))))
set_option maxRecDepth 100000 in
set_option maxHeartbeats 4000000 in
theorem wkX5_coolIn {k : Kt} (C : gC k cX5_coolIn 4 RX5 wsX5_coolIn rmX5_coolIn "coolIn") (N : Nat) (aM : Nat → Nat) (v : VM) (p1 : Int32) (r : VM × Int32) (hf : fX5_coolIn N v p1 = some r) (E : gE k (wM (kD k) aM v) (fun rv w => rv = some (.int r.2) ∧ w = (wM (kD k) aM r.1)) (fun _ _ => False) 0 0 (some .int) []) : gG k (wM (kD k) aM v) [(0, .ref (aM 0)), (1, .int p1)] 0 0 0 [] := by
  unfold fX5_coolIn at hf
  refine g_aload_n (pc := 0) (x := (aM 0)) C dX5_coolIn_0 rfl ?_
  refine g_iconst (pc := 1) (v := 0) C dX5_coolIn_1 (by decide) ?_
  refine g_putf (pc := 2) C 0 rfl rfl inX5_coolIn_X5 tyX5 tyX5_ok nmX5 5 (by decide) lkX5_coolIn_38 rfl rfl pfX5_5 rfl rfl (Nat.le_of_ble_eq_true rfl) dX5_coolIn_2 (ws' := (wM (kD k) aM ((mRow v), (mSav v), (mSvn v), (mSnp v), (mKep v), 0, (mFre v), (mFrn v), (mBuf v), (mLen v), (mSpt v), (mNum v), (mOrd v), (mLet v), (mFst v), (mSnd v), (mTok v), (mLft v)))) rfl ?_
  refine g_aload_n (pc := 5) (x := (aM 0)) C dX5_coolIn_5 rfl ?_
  refine g_iload_n (pc := 6) (x := p1) C dX5_coolIn_6 rfl ?_
  refine g_callR (pc' := 10) (cs' := 0) (sl' := 0) hf C (fun u => some (.int (b2i u))) (fun u hu => gr_V (rest := []) C (cX5_isBlock_ (kL k) C.tr (kD k) N aM ((mRow v), (mSav v), (mSvn v), (mSnp v), (mKep v), 0, (mFre v), (mFrn v), (mBuf v), (mLen v), (mSpt v), (mNum v), (mOrd v), (mLet v), (mFst v), (mSnd v), (mTok v), (mLft v)) p1 u hu) (fun ht => cwV 1 ht gX5_coolIn_X5_isBlock rfl rfl rfl hdX5_isBlock ⟨(Nat.le_of_ble_eq_true rfl), (Nat.le_of_ble_eq_true rfl)⟩) 0 rfl rfl [0, 1, 2, 3, 4, 5, 6, 7, 8, 9] rfl (by decide) rfl rfl (Nat.le_of_ble_eq_true rfl) dX5_coolIn_7 ⟨(Nat.le_of_ble_eq_true rfl), (Nat.le_of_ble_eq_true rfl)⟩) [0, 1, 2, 3, 4, 5, 6, 7, 8, 9] rfl rfl rfl rfl (fun u => [.int (b2i u)]) (fun u => rfl) (fun r1 hf => ?_)
  refine g_ifB_ne (pc := 10) (tgt := 19) (b := r1) hf C dX5_coolIn_10 (by decide) (fun hf => ?_) (fun hf => ?_)
  · refine g_iconst (pc := 19) (v := 0) C dX5_coolIn_19 (by decide) ?_
    refine g_istore_n (pc := 20) (lv' := [(2, .int 0), (0, .ref (aM 0)), (1, .int p1)]) C dX5_coolIn_20 (by decide) rfl ?_
    refine g_aload_n (pc := 21) (x := (aM 0)) C dX5_coolIn_21 rfl ?_
    refine g_iload_n (pc := 22) (x := p1) C dX5_coolIn_22 rfl ?_
    refine g_iconst (pc := 23) (v := 3) C dX5_coolIn_23 (by decide) ?_
    refine g_callR (pc' := 27) (cs' := 0) (sl' := 0) hf C (fun u => some (.int u)) (fun u hu => gr_V (rest := []) C (cX5_of_ (kL k) C.tr (kD k) N aM ((mRow v), (mSav v), (mSvn v), (mSnp v), (mKep v), 0, (mFre v), (mFrn v), (mBuf v), (mLen v), (mSpt v), (mNum v), (mOrd v), (mLet v), (mFst v), (mSnd v), (mTok v), (mLft v)) p1 3 u hu) (fun ht => cwV 2 ht gX5_coolIn_X5_of rfl rfl rfl hdX5_of ⟨(Nat.le_of_ble_eq_true rfl), (Nat.le_of_ble_eq_true rfl)⟩) 0 rfl rfl [0, 1, 2, 3, 4, 5, 6, 7, 8, 9] rfl (by decide) rfl rfl (Nat.le_of_ble_eq_true rfl) dX5_coolIn_24 ⟨(Nat.le_of_ble_eq_true rfl), (Nat.le_of_ble_eq_true rfl)⟩) [0, 1, 2, 3, 4, 5, 6, 7, 8, 9] rfl rfl rfl rfl (fun u => [.int u]) (fun u => rfl) (fun r2 hf => ?_)
    refine g_istore_n (pc := 27) (lv' := [(3, .int r2), (2, .int 0), (0, .ref (aM 0)), (1, .int p1)]) C dX5_coolIn_27 (by decide) rfl ?_
    obtain ⟨r3, h3, hf⟩ := bd_e hf
    refine g_lv [2, 1, 0] (lv' := [(0, .ref (aM 0)), (2, .int 0), (3, .int r2)]) rfl ?_
    refine wlX5_coolIn_28 C N aM ((mRow v), (mSav v), (mSvn v), (mSnp v), (mKep v), 0, (mFre v), (mFrn v), (mBuf v), (mLen v), (mSpt v), (mNum v), (mOrd v), (mLet v), (mFst v), (mSnd v), (mTok v), (mLft v)) N 0 r2 r3 h3 ?_
    refine g_iload_n (pc := 49) (x := r3) C dX5_coolIn_49 rfl ?_
    obtain rfl := Option.some.inj hf
    exact g_iret (v := r3) C E dX5_coolIn_50 (Nat.le_of_ble_eq_true rfl) (Nat.le_of_ble_eq_true rfl) ⟨rfl, rfl⟩
  · refine g_aload_n (pc := 13) (x := (aM 0)) C dX5_coolIn_13 rfl ?_
    refine g_iconst (pc := 14) (v := 1) C dX5_coolIn_14 (by decide) ?_
    refine g_callW (wr := []) (pc' := 18) (cs' := 0) (sl' := 0) hf C (fun u => some (.int u.2)) (fun u => (wM (kD k) aM u.1)) (fun u hu => gr_V (rest := []) C (cX5_fails_ (kL k) C.tr (kD k) N aM ((mRow v), (mSav v), (mSvn v), (mSnp v), (mKep v), 0, (mFre v), (mFrn v), (mBuf v), (mLen v), (mSpt v), (mNum v), (mOrd v), (mLet v), (mFst v), (mSnd v), (mTok v), (mLft v)) 1 u hu) (fun ht => cwV 1 ht gX5_coolIn_X5_fails rfl rfl rfl hdX5_fails ⟨(Nat.le_of_ble_eq_true rfl), (Nat.le_of_ble_eq_true rfl)⟩) 0 rfl rfl [0, 1, 2, 3, 4, 5, 6, 7, 8, 9] rfl (by decide) rfl rfl (Nat.le_of_ble_eq_true rfl) dX5_coolIn_15 ⟨(Nat.le_of_ble_eq_true rfl), (Nat.le_of_ble_eq_true rfl)⟩) [0, 1, 2, 3, 4, 5, 6, 7, 8, 9] [] rfl rfl (by decide) (by decide) [0, 1, 2, 3, 4, 5, 6, 7, 8, 9] (by decide) (ws' := fun u => (wM (kD k) aM u.1)) (fun u => rfl) rfl rfl rfl (fun u => [.int u.2]) (fun u => rfl) (fun r4 hf => ?_)
    obtain rfl := Option.some.inj hf
    exact g_iret (v := r4.2) C E dX5_coolIn_18 (Nat.le_of_ble_eq_true rfl) (Nat.le_of_ble_eq_true rfl) ⟨rfl, rfl⟩
set_option maxRecDepth 100000 in
set_option maxHeartbeats 4000000 in
theorem cX5_coolIn_ (l : Launch) (htr : l.stackTraces = false) (D : va_G) (N : Nat) (aM : Nat → Nat) (v : VM) (p1 : Int32) (r : VM × Int32) (hf : fX5_coolIn N v p1 = some r) : Tc l D yX5_coolIn wsX5_coolIn rmX5_coolIn [.ref (aM 0), .int p1] (wM D aM v) (fun rv w => rv = some (.int r.2) ∧ w = (wM D aM r.1)) (fun _ _ => False) 0 0 := Tc_of htr (by decide +kernel) rfl (Nat.le_of_ble_eq_true rfl) (fun k C E hl hD => by subst hD; exact wkX5_coolIn C N aM v p1 r hf E)
abbrev rmX5_lengthIn : Room := { frames := 4, cells := 0, slots := 0, locals := 92 }
theorem inX5_lengthIn_X5 : ∀ w ∈ wsX50, w ∈ wsX5_lengthIn := by decide +kernel
theorem lkX5_lengthIn_38 : Cond.fieldLink RX5 38 "GaugeBlocksModel" (TX5 5).2.1 (TX5 5).2.2.1 ∈ wsX5_lengthIn := by decide +kernel
theorem hdX5_lengthIn : yX5_lengthIn.cls = RX5 ∧ yX5_lengthIn.cls ≠ "java/lang/invoke/MethodHandle" ∧ yX5_lengthIn.cls ≠ "java/lang/invoke/VarHandle" ∧ (parseMethodDescriptor yX5_lengthIn.desc).map (fun d => d.parameters.length) = some 2 := by decide +kernel
def fX5_lengthIn (N : Nat) (v : VM) (p1 : Int32) (p2 : Int32) : Option (VM × Int32) := ((fX5_isStack N p1).bind fun r1 => (if r1 = true then ((fX5_in N p2 0 600).bind fun r2 => (if r2 = true then ((fX5_lengthBehind N ((mRow v), (mSav v), (mSvn v), (mSnp v), (mKep v), 0, (mFre v), (mFrn v), (mBuf v), (mLen v), (mSpt v), (mNum v), (mOrd v), (mLet v), (mFst v), (mSnd v), (mTok v), (mLft v)) p1 p2).bind fun r4 => some (((mRow v), (mSav v), (mSvn v), (mSnp v), (mKep v), 0, (mFre v), (mFrn v), (mBuf v), (mLen v), (mSpt v), (mNum v), (mOrd v), (mLet v), (mFst v), (mSnd v), (mTok v), (mLft v)), r4)) else ((fX5_fails N ((mRow v), (mSav v), (mSvn v), (mSnp v), (mKep v), 0, (mFre v), (mFrn v), (mBuf v), (mLen v), (mSpt v), (mNum v), (mOrd v), (mLet v), (mFst v), (mSnd v), (mTok v), (mLft v)) 2).bind fun r3 => some (r3.1, r3.2)))) else ((fX5_fails N ((mRow v), (mSav v), (mSvn v), (mSnp v), (mKep v), 0, (mFre v), (mFrn v), (mBuf v), (mLen v), (mSpt v), (mNum v), (mOrd v), (mLet v), (mFst v), (mSnd v), (mTok v), (mLft v)) 1).bind fun r5 => some (r5.1, r5.2))))
set_option maxRecDepth 100000 in
set_option maxHeartbeats 4000000 in
theorem wkX5_lengthIn {k : Kt} (C : gC k cX5_lengthIn 3 RX5 wsX5_lengthIn rmX5_lengthIn "lengthIn") (N : Nat) (aM : Nat → Nat) (v : VM) (p1 : Int32) (p2 : Int32) (r : VM × Int32) (hf : fX5_lengthIn N v p1 p2 = some r) (E : gE k (wM (kD k) aM v) (fun rv w => rv = some (.int r.2) ∧ w = (wM (kD k) aM r.1)) (fun _ _ => False) 0 0 (some .int) []) : gG k (wM (kD k) aM v) [(0, .ref (aM 0)), (1, .int p1), (2, .int p2)] 0 0 0 [] := by
  unfold fX5_lengthIn at hf
  refine g_aload_n (pc := 0) (x := (aM 0)) C dX5_lengthIn_0 rfl ?_
  refine g_iconst (pc := 1) (v := 0) C dX5_lengthIn_1 (by decide) ?_
  refine g_putf (pc := 2) C 0 rfl rfl inX5_lengthIn_X5 tyX5 tyX5_ok nmX5 5 (by decide) lkX5_lengthIn_38 rfl rfl pfX5_5 rfl rfl (Nat.le_of_ble_eq_true rfl) dX5_lengthIn_2 (ws' := (wM (kD k) aM ((mRow v), (mSav v), (mSvn v), (mSnp v), (mKep v), 0, (mFre v), (mFrn v), (mBuf v), (mLen v), (mSpt v), (mNum v), (mOrd v), (mLet v), (mFst v), (mSnd v), (mTok v), (mLft v)))) rfl ?_
  refine g_iload_n (pc := 5) (x := p1) C dX5_lengthIn_5 rfl ?_
  refine g_callR (pc' := 9) (cs' := 0) (sl' := 0) hf C (fun u => some (.int (b2i u))) (fun u hu => gr_S (rest := []) C (cX5_isStack_ (kL k) C.tr (kD k) N p1 u hu) (fun ht => va_cwS 1 ht gX5_lengthIn_X5_isStack rfl rfl rfl hsX5_isStack ⟨(Nat.le_of_ble_eq_true rfl), (Nat.le_of_ble_eq_true rfl)⟩) [] rfl (by decide) rfl rfl (Nat.le_of_ble_eq_true rfl) dX5_lengthIn_6 ⟨(Nat.le_of_ble_eq_true rfl), (Nat.le_of_ble_eq_true rfl)⟩) [] rfl rfl rfl rfl (fun u => [.int (b2i u)]) (fun u => rfl) (fun r1 hf => ?_)
  refine g_ifB_ne (pc := 9) (tgt := 18) (b := r1) hf C dX5_lengthIn_9 (by decide) (fun hf => ?_) (fun hf => ?_)
  · refine g_iload_n (pc := 18) (x := p2) C dX5_lengthIn_18 rfl ?_
    refine g_iconst (pc := 19) (v := 0) C dX5_lengthIn_19 (by decide) ?_
    refine g_sipush (pc := 20) (v := 600) C dX5_lengthIn_20 (by decide) ?_
    refine g_callR (pc' := 26) (cs' := 0) (sl' := 0) hf C (fun u => some (.int (b2i u))) (fun u hu => gr_S (rest := []) C (cX5_in_ (kL k) C.tr (kD k) N p2 0 600 u hu) (fun ht => va_cwS 3 ht gX5_lengthIn_X5_in rfl rfl rfl hsX5_in ⟨(Nat.le_of_ble_eq_true rfl), (Nat.le_of_ble_eq_true rfl)⟩) [] rfl (by decide) rfl rfl (Nat.le_of_ble_eq_true rfl) dX5_lengthIn_23 ⟨(Nat.le_of_ble_eq_true rfl), (Nat.le_of_ble_eq_true rfl)⟩) [] rfl rfl rfl rfl (fun u => [.int (b2i u)]) (fun u => rfl) (fun r2 hf => ?_)
    refine g_ifB_eq (pc := 26) (tgt := 38) (b := r2) hf C dX5_lengthIn_26 (by decide) (fun hf => ?_) (fun hf => ?_)
    · refine g_aload_n (pc := 38) (x := (aM 0)) C dX5_lengthIn_38 rfl ?_
      refine g_iconst (pc := 39) (v := 2) C dX5_lengthIn_39 (by decide) ?_
      refine g_callW (wr := []) (pc' := 43) (cs' := 0) (sl' := 0) hf C (fun u => some (.int u.2)) (fun u => (wM (kD k) aM u.1)) (fun u hu => gr_V (rest := []) C (cX5_fails_ (kL k) C.tr (kD k) N aM ((mRow v), (mSav v), (mSvn v), (mSnp v), (mKep v), 0, (mFre v), (mFrn v), (mBuf v), (mLen v), (mSpt v), (mNum v), (mOrd v), (mLet v), (mFst v), (mSnd v), (mTok v), (mLft v)) 2 u hu) (fun ht => cwV 1 ht gX5_lengthIn_X5_fails rfl rfl rfl hdX5_fails ⟨(Nat.le_of_ble_eq_true rfl), (Nat.le_of_ble_eq_true rfl)⟩) 0 rfl rfl [0, 1, 2, 3, 4, 5, 6, 7, 8, 9] rfl (by decide) rfl rfl (Nat.le_of_ble_eq_true rfl) dX5_lengthIn_40 ⟨(Nat.le_of_ble_eq_true rfl), (Nat.le_of_ble_eq_true rfl)⟩) [0, 1, 2, 3, 4, 5, 6, 7, 8, 9] [] rfl rfl (by decide) (by decide) [0, 1, 2, 3, 4, 5, 6, 7, 8, 9] (by decide) (ws' := fun u => (wM (kD k) aM u.1)) (fun u => rfl) rfl rfl rfl (fun u => [.int u.2]) (fun u => rfl) (fun r3 hf => ?_)
      obtain rfl := Option.some.inj hf
      exact g_iret (v := r3.2) C E dX5_lengthIn_43 (Nat.le_of_ble_eq_true rfl) (Nat.le_of_ble_eq_true rfl) ⟨rfl, rfl⟩
    · refine g_aload_n (pc := 29) (x := (aM 0)) C dX5_lengthIn_29 rfl ?_
      refine g_iload_n (pc := 30) (x := p1) C dX5_lengthIn_30 rfl ?_
      refine g_iload_n (pc := 31) (x := p2) C dX5_lengthIn_31 rfl ?_
      refine g_callR (pc' := 35) (cs' := 0) (sl' := 0) hf C (fun u => some (.int u)) (fun u hu => gr_V (rest := []) C (cX5_lengthBehind_ (kL k) C.tr (kD k) N aM ((mRow v), (mSav v), (mSvn v), (mSnp v), (mKep v), 0, (mFre v), (mFrn v), (mBuf v), (mLen v), (mSpt v), (mNum v), (mOrd v), (mLet v), (mFst v), (mSnd v), (mTok v), (mLft v)) p1 p2 u hu) (fun ht => cwV 2 ht gX5_lengthIn_X5_lengthBehind rfl rfl rfl hdX5_lengthBehind ⟨(Nat.le_of_ble_eq_true rfl), (Nat.le_of_ble_eq_true rfl)⟩) 0 rfl rfl [0, 1, 2, 3, 4, 5, 6, 7, 8, 9] rfl (by decide) rfl rfl (Nat.le_of_ble_eq_true rfl) dX5_lengthIn_32 ⟨(Nat.le_of_ble_eq_true rfl), (Nat.le_of_ble_eq_true rfl)⟩) [0, 1, 2, 3, 4, 5, 6, 7, 8, 9] rfl rfl rfl rfl (fun u => [.int u]) (fun u => rfl) (fun r4 hf => ?_)
      refine g_goto (pc := 35) (tgt := 43) C dX5_lengthIn_35 (by decide) ?_
      obtain rfl := Option.some.inj hf
      exact g_iret (v := r4) C E dX5_lengthIn_43 (Nat.le_of_ble_eq_true rfl) (Nat.le_of_ble_eq_true rfl) ⟨rfl, rfl⟩
  · refine g_aload_n (pc := 12) (x := (aM 0)) C dX5_lengthIn_12 rfl ?_
    refine g_iconst (pc := 13) (v := 1) C dX5_lengthIn_13 (by decide) ?_
    refine g_callW (wr := []) (pc' := 17) (cs' := 0) (sl' := 0) hf C (fun u => some (.int u.2)) (fun u => (wM (kD k) aM u.1)) (fun u hu => gr_V (rest := []) C (cX5_fails_ (kL k) C.tr (kD k) N aM ((mRow v), (mSav v), (mSvn v), (mSnp v), (mKep v), 0, (mFre v), (mFrn v), (mBuf v), (mLen v), (mSpt v), (mNum v), (mOrd v), (mLet v), (mFst v), (mSnd v), (mTok v), (mLft v)) 1 u hu) (fun ht => cwV 1 ht gX5_lengthIn_X5_fails rfl rfl rfl hdX5_fails ⟨(Nat.le_of_ble_eq_true rfl), (Nat.le_of_ble_eq_true rfl)⟩) 0 rfl rfl [0, 1, 2, 3, 4, 5, 6, 7, 8, 9] rfl (by decide) rfl rfl (Nat.le_of_ble_eq_true rfl) dX5_lengthIn_14 ⟨(Nat.le_of_ble_eq_true rfl), (Nat.le_of_ble_eq_true rfl)⟩) [0, 1, 2, 3, 4, 5, 6, 7, 8, 9] [] rfl rfl (by decide) (by decide) [0, 1, 2, 3, 4, 5, 6, 7, 8, 9] (by decide) (ws' := fun u => (wM (kD k) aM u.1)) (fun u => rfl) rfl rfl rfl (fun u => [.int u.2]) (fun u => rfl) (fun r5 hf => ?_)
    obtain rfl := Option.some.inj hf
    exact g_iret (v := r5.2) C E dX5_lengthIn_17 (Nat.le_of_ble_eq_true rfl) (Nat.le_of_ble_eq_true rfl) ⟨rfl, rfl⟩
set_option maxRecDepth 100000 in
set_option maxHeartbeats 4000000 in
theorem cX5_lengthIn_ (l : Launch) (htr : l.stackTraces = false) (D : va_G) (N : Nat) (aM : Nat → Nat) (v : VM) (p1 : Int32) (p2 : Int32) (r : VM × Int32) (hf : fX5_lengthIn N v p1 p2 = some r) : Tc l D yX5_lengthIn wsX5_lengthIn rmX5_lengthIn [.ref (aM 0), .int p1, .int p2] (wM D aM v) (fun rv w => rv = some (.int r.2) ∧ w = (wM D aM r.1)) (fun _ _ => False) 0 0 := Tc_of htr (by decide +kernel) rfl (Nat.le_of_ble_eq_true rfl) (fun k C E hl hD => by subst hD; exact wkX5_lengthIn C N aM v p1 p2 r hf E)
abbrev rmX5_meanError : Room := { frames := 2, cells := 0, slots := 0, locals := 43 }
theorem inX5_meanError_X5 : ∀ w ∈ wsX50, w ∈ wsX5_meanError := by decide +kernel
theorem lkX5_meanError_38 : Cond.fieldLink RX5 38 "GaugeBlocksModel" (TX5 5).2.1 (TX5 5).2.2.1 ∈ wsX5_meanError := by decide +kernel
theorem lkX5_meanError_7 : Cond.fieldLink RX5 7 "GaugeBlocksModel" (TX5 0).2.1 (TX5 0).2.2.1 ∈ wsX5_meanError := by decide +kernel
theorem hdX5_meanError : yX5_meanError.cls = RX5 ∧ yX5_meanError.cls ≠ "java/lang/invoke/MethodHandle" ∧ yX5_meanError.cls ≠ "java/lang/invoke/VarHandle" ∧ (parseMethodDescriptor yX5_meanError.desc).map (fun d => d.parameters.length) = some 0 := by decide +kernel
def lX5_meanError_9 (N : Nat) (v : VM) : Nat → Int32 → Int32 → Option ((Int32))
  | 0, _, _ => none
  | n + 1, l1, l2 => ck 8 149 ((if ((mRow v) (Int32.toNatClampNeg 8)) ≤ l2 then some l1 else ((fX5_error N v l2).bind fun r1 => ((fX5_size N r1).bind fun r2 => (lX5_meanError_9 N v n (l1 + r2) (l2 + 1))))))
set_option maxRecDepth 100000 in
set_option maxHeartbeats 4000000 in
theorem wlX5_meanError_9 {k : Kt} (C : gC k cX5_meanError 3 RX5 wsX5_meanError rmX5_meanError "meanError") (N : Nat) (aM : Nat → Nat) (v : VM) : ∀ (n : Nat) (l1 : Int32) (l2 : Int32) (u : (Int32)) (hf : lX5_meanError_9 N v n l1 l2 = some u) (hk0 : gG k (wM (kD k) aM v) [(0, .ref (aM 0)), (1, .int u)] 0 0 37 []), gG k (wM (kD k) aM v) [(0, .ref (aM 0)), (1, .int l1), (2, .int l2)] 0 0 9 [] := by
  intro n
  induction n with
  | zero => intro l1 l2 u hf hk0; rw [lX5_meanError_9] at hf; cases hf
  | succ n ih =>
    intro l1 l2 u hf hk0
    rw [lX5_meanError_9] at hf
    refine g_iload_n (pc := 9) (x := l2) C dX5_meanError_9 rfl ?_
    refine g_aload_n (pc := 10) (x := (aM 0)) C dX5_meanError_10 rfl ?_
    refine g_getf (pc := 11) C 0 rfl rfl inX5_meanError_X5 0 (by decide) lkX5_meanError_7 rfl rfl dX5_meanError_11 ?_
    refine g_bipush (pc := 14) (v := 8) C dX5_meanError_14 (by decide) ?_
    refine g_iald (pc := 16) (i := 8) hf C 1 rfl dX5_meanError_16 (fun hf => ?_)
    refine g_icmp_ge (pc := 17) (tgt := 37) (x := l2) (y := ((mRow v) (Int32.toNatClampNeg 8))) hf C dX5_meanError_17 (by decide) (fun hf => ?_) (fun hf => ?_)
    · obtain rfl := Option.some.inj hf
      refine g_lv [0, 1] (lv' := [(0, .ref (aM 0)), (1, .int l1)]) rfl ?_
      exact hk0
    · refine g_iload_n (pc := 20) (x := l1) C dX5_meanError_20 rfl ?_
      refine g_aload_n (pc := 21) (x := (aM 0)) C dX5_meanError_21 rfl ?_
      refine g_iload_n (pc := 22) (x := l2) C dX5_meanError_22 rfl ?_
      refine g_callR (pc' := 26) (cs' := 0) (sl' := 0) hf C (fun u => some (.int u)) (fun u hu => gr_V (rest := [.int l1]) C (cX5_error_ (kL k) C.tr (kD k) N aM v l2 u hu) (fun ht => cwV 1 ht gX5_meanError_X5_error rfl rfl rfl hdX5_error ⟨(Nat.le_of_ble_eq_true rfl), (Nat.le_of_ble_eq_true rfl)⟩) 0 rfl rfl [0, 1, 2, 3, 4, 5, 6, 7, 8, 9] rfl (by decide) rfl rfl (Nat.le_of_ble_eq_true rfl) dX5_meanError_23 ⟨(Nat.le_of_ble_eq_true rfl), (Nat.le_of_ble_eq_true rfl)⟩) [0, 1, 2, 3, 4, 5, 6, 7, 8, 9] rfl rfl rfl rfl (fun u => [.int u, .int l1]) (fun u => rfl) (fun r1 hf => ?_)
      refine g_callR (pc' := 29) (cs' := 0) (sl' := 0) hf C (fun u => some (.int u)) (fun u hu => gr_S (rest := [.int l1]) C (cX5_size_ (kL k) C.tr (kD k) N r1 u hu) (fun ht => va_cwS 1 ht gX5_meanError_X5_size rfl rfl rfl hsX5_size ⟨(Nat.le_of_ble_eq_true rfl), (Nat.le_of_ble_eq_true rfl)⟩) [] rfl (by decide) rfl rfl (Nat.le_of_ble_eq_true rfl) dX5_meanError_26 ⟨(Nat.le_of_ble_eq_true rfl), (Nat.le_of_ble_eq_true rfl)⟩) [] rfl rfl rfl rfl (fun u => [.int u, .int l1]) (fun u => rfl) (fun r2 hf => ?_)
      refine g_iadd (pc := 29) (x := l1) (y := r2) C dX5_meanError_29 ?_
      refine g_istore_n (pc := 30) (lv' := [(1, .int (l1 + r2)), (0, .ref (aM 0)), (2, .int l2)]) C dX5_meanError_30 (by decide) rfl ?_
      refine g_iinc (pc := 31) (x := l2) (v := (l2 + 1)) (lv' := [(2, .int (l2 + 1)), (1, .int (l1 + r2)), (0, .ref (aM 0))]) C dX5_meanError_31 rfl rfl (by decide) rfl ?_
      refine g_goto (pc := 34) (tgt := 9) C dX5_meanError_34 (by decide) ?_
      refine g_lv [2, 1, 0] (lv' := [(0, .ref (aM 0)), (1, .int (l1 + r2)), (2, .int (l2 + 1))]) rfl ?_
      exact ih (l1 + r2) (l2 + 1) u hf hk0
def fX5_meanError (N : Nat) (v : VM) : Option (VM × UInt64) := ((lX5_meanError_9 N ((mRow v), (mSav v), (mSvn v), (mSnp v), (mKep v), 0, (mFre v), (mFrn v), (mBuf v), (mLen v), (mSpt v), (mNum v), (mOrd v), (mLet v), (mFst v), (mSnd v), (mTok v), (mLft v)) N 0 0).bind fun r1 => ck 8 149 ((if ((mRow v) (Int32.toNatClampNeg 8)) = (0 : Int32) then some (((mRow v), (mSav v), (mSvn v), (mSnp v), (mKep v), 0, (mFre v), (mFrn v), (mBuf v), (mLen v), (mSpt v), (mNum v), (mOrd v), (mLet v), (mFst v), (mSnd v), (mTok v), (mLft v)), FP.dconst0) else ck 8 149 (cd (FP.ddiv (FP.i2d r1) (FP.i2d ((mRow v) (Int32.toNatClampNeg 8)))) (some (((mRow v), (mSav v), (mSvn v), (mSnp v), (mKep v), 0, (mFre v), (mFrn v), (mBuf v), (mLen v), (mSpt v), (mNum v), (mOrd v), (mLet v), (mFst v), (mSnd v), (mTok v), (mLft v)), (FP.ddiv (FP.i2d r1) (FP.i2d ((mRow v) (Int32.toNatClampNeg 8))))))))))
set_option maxRecDepth 100000 in
set_option maxHeartbeats 4000000 in
theorem wkX5_meanError {k : Kt} (C : gC k cX5_meanError 3 RX5 wsX5_meanError rmX5_meanError "meanError") (N : Nat) (aM : Nat → Nat) (v : VM) (r : VM × UInt64) (hf : fX5_meanError N v = some r) (E : gE k (wM (kD k) aM v) (fun rv w => rv = some (.double r.2) ∧ w = (wM (kD k) aM r.1)) (fun _ _ => False) 0 0 (some .double) []) : gG k (wM (kD k) aM v) [(0, .ref (aM 0))] 0 0 0 [] := by
  unfold fX5_meanError at hf
  refine g_aload_n (pc := 0) (x := (aM 0)) C dX5_meanError_0 rfl ?_
  refine g_iconst (pc := 1) (v := 0) C dX5_meanError_1 (by decide) ?_
  refine g_putf (pc := 2) C 0 rfl rfl inX5_meanError_X5 tyX5 tyX5_ok nmX5 5 (by decide) lkX5_meanError_38 rfl rfl pfX5_5 rfl rfl (Nat.le_of_ble_eq_true rfl) dX5_meanError_2 (ws' := (wM (kD k) aM ((mRow v), (mSav v), (mSvn v), (mSnp v), (mKep v), 0, (mFre v), (mFrn v), (mBuf v), (mLen v), (mSpt v), (mNum v), (mOrd v), (mLet v), (mFst v), (mSnd v), (mTok v), (mLft v)))) rfl ?_
  refine g_iconst (pc := 5) (v := 0) C dX5_meanError_5 (by decide) ?_
  refine g_istore_n (pc := 6) (lv' := [(1, .int 0), (0, .ref (aM 0))]) C dX5_meanError_6 (by decide) rfl ?_
  refine g_iconst (pc := 7) (v := 0) C dX5_meanError_7 (by decide) ?_
  refine g_istore_n (pc := 8) (lv' := [(2, .int 0), (1, .int 0), (0, .ref (aM 0))]) C dX5_meanError_8 (by decide) rfl ?_
  obtain ⟨r1, h1, hf⟩ := bd_e hf
  refine g_lv [2, 1, 0] (lv' := [(0, .ref (aM 0)), (1, .int 0), (2, .int 0)]) rfl ?_
  refine wlX5_meanError_9 C N aM ((mRow v), (mSav v), (mSvn v), (mSnp v), (mKep v), 0, (mFre v), (mFrn v), (mBuf v), (mLen v), (mSpt v), (mNum v), (mOrd v), (mLet v), (mFst v), (mSnd v), (mTok v), (mLft v)) N 0 0 r1 h1 ?_
  refine g_aload_n (pc := 37) (x := (aM 0)) C dX5_meanError_37 rfl ?_
  refine g_getf (pc := 38) C 0 rfl rfl inX5_meanError_X5 0 (by decide) lkX5_meanError_7 rfl rfl dX5_meanError_38 ?_
  refine g_bipush (pc := 41) (v := 8) C dX5_meanError_41 (by decide) ?_
  refine g_iald (pc := 43) (i := 8) hf C 1 rfl dX5_meanError_43 (fun hf => ?_)
  refine g_if_ne (pc := 44) (tgt := 51) (x := ((mRow v) (Int32.toNatClampNeg 8))) hf C dX5_meanError_44 (by decide) (fun hf => ?_) (fun hf => ?_)
  · refine g_iload_n (pc := 51) (x := r1) C dX5_meanError_51 rfl ?_
    refine g_i2d (pc := 52) C dX5_meanError_52 ?_
    refine g_aload_n (pc := 53) (x := (aM 0)) C dX5_meanError_53 rfl ?_
    refine g_getf (pc := 54) C 0 rfl rfl inX5_meanError_X5 0 (by decide) lkX5_meanError_7 rfl rfl dX5_meanError_54 ?_
    refine g_bipush (pc := 57) (v := 8) C dX5_meanError_57 (by decide) ?_
    refine g_iald (pc := 59) (i := 8) hf C 1 rfl dX5_meanError_59 (fun hf => ?_)
    refine g_i2d (pc := 60) C dX5_meanError_60 ?_
    refine g_ddiv (pc := 61) (x := (FP.i2d r1)) (y := (FP.i2d ((mRow v) (Int32.toNatClampNeg 8)))) hf C dX5_meanError_61 (fun hf => ?_)
    obtain rfl := Option.some.inj hf
    exact g_dret C E dX5_meanError_62 (Nat.le_of_ble_eq_true rfl) (Nat.le_of_ble_eq_true rfl) ⟨rfl, rfl⟩
  · refine g_dconst0 (pc := 47) C dX5_meanError_47 ?_
    refine g_goto (pc := 48) (tgt := 62) C dX5_meanError_48 (by decide) ?_
    obtain rfl := Option.some.inj hf
    exact g_dret C E dX5_meanError_62 (Nat.le_of_ble_eq_true rfl) (Nat.le_of_ble_eq_true rfl) ⟨rfl, rfl⟩
set_option maxRecDepth 100000 in
set_option maxHeartbeats 4000000 in
theorem cX5_meanError_ (l : Launch) (htr : l.stackTraces = false) (D : va_G) (N : Nat) (aM : Nat → Nat) (v : VM) (r : VM × UInt64) (hf : fX5_meanError N v = some r) : Tc l D yX5_meanError wsX5_meanError rmX5_meanError [.ref (aM 0)] (wM D aM v) (fun rv w => rv = some (.double r.2) ∧ w = (wM D aM r.1)) (fun _ _ => False) 0 0 := Tc_of htr (by decide +kernel) rfl (Nat.le_of_ble_eq_true rfl) (fun k C E hl hD => by subst hD; exact wkX5_meanError C N aM v r hf E)
