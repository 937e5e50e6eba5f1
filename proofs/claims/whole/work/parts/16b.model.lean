abbrev rmX5_fewestFor : Room := { frames := 3, cells := 0, slots := 0, locals := 64 }
theorem inX5_fewestFor_X5 : ∀ w ∈ wsX50, w ∈ wsX5_fewestFor := by decide +kernel
theorem lkX5_fewestFor_97 : Cond.fieldLink RX5 97 "GaugeBlocksModel" (TX5 7).2.1 (TX5 7).2.2.1 ∈ wsX5_fewestFor := by decide +kernel
theorem hdX5_fewestFor : yX5_fewestFor.cls = RX5 ∧ yX5_fewestFor.cls ≠ "java/lang/invoke/MethodHandle" ∧ yX5_fewestFor.cls ≠ "java/lang/invoke/VarHandle" ∧ (parseMethodDescriptor yX5_fewestFor.desc).map (fun d => d.parameters.length) = some 1 := by decide +kernel
def lX5_fewestFor_26 (N : Nat) (v : VM) (l1 : Int32) (l2 : Int32) : Nat → Int32 → Option ((Unit) ⊕ (Int32))
  | 0, _ => none
  | n + 1, l3 => (if ((1 : Int32) <<< ((mFrn v) &&& 31)) ≤ l3 then some (.inl ()) else ((fX5_sumOf N v l3).bind fun r1 => (if r1 = l1 then some (.inr l3) else ((fX5_nextSet N l3).bind fun r2 => (lX5_fewestFor_26 N v l1 l2 n r2)))))
set_option maxRecDepth 100000 in
set_option maxHeartbeats 4000000 in
theorem wlX5_fewestFor_26 {k : Kt} (C : gC k cX5_fewestFor 4 RX5 wsX5_fewestFor rmX5_fewestFor "fewestFor") (N : Nat) (aM : Nat → Nat) (v : VM) (l1 : Int32) (l2 : Int32) : ∀ (n : Nat) (l3 : Int32) (u : (Unit) ⊕ (Int32)) (hf : lX5_fewestFor_26 N v l1 l2 n l3 = some u) (hk0 : ∀ t : (Unit), u = (.inl t) → gG k (wM (kD k) aM v) [(0, .ref (aM 0)), (1, .int l1), (2, .int l2)] 0 0 59 []) (hk1 : ∀ t : (Int32), u = (.inr t) → gG k (wM (kD k) aM v) [(0, .ref (aM 0)), (3, .int t)] 0 0 45 []), gG k (wM (kD k) aM v) [(0, .ref (aM 0)), (1, .int l1), (2, .int l2), (3, .int l3)] 0 0 26 [] := by
  intro n
  induction n with
  | zero => intro l3 u hf hk0 hk1; rw [lX5_fewestFor_26] at hf; cases hf
  | succ n ih =>
    intro l3 u hf hk0 hk1
    rw [lX5_fewestFor_26] at hf
    refine g_iload_n (pc := 26) (x := l3) C dX5_fewestFor_26 rfl ?_
    refine g_iconst (pc := 27) (v := 1) C dX5_fewestFor_27 (by decide) ?_
    refine g_aload_n (pc := 28) (x := (aM 0)) C dX5_fewestFor_28 rfl ?_
    refine g_getf (pc := 29) C 0 rfl rfl inX5_fewestFor_X5 7 (by decide) lkX5_fewestFor_97 rfl rfl dX5_fewestFor_29 ?_
    refine g_ishl (pc := 32) (x := (1 : Int32)) (y := (mFrn v)) C dX5_fewestFor_32 ?_
    refine g_icmp_ge (pc := 33) (tgt := 59) (x := l3) (y := ((1 : Int32) <<< ((mFrn v) &&& 31))) hf C dX5_fewestFor_33 (by decide) (fun hf => ?_) (fun hf => ?_)
    · obtain rfl := Option.some.inj hf
      refine g_lv [0, 1, 2] (lv' := [(0, .ref (aM 0)), (1, .int l1), (2, .int l2)]) rfl ?_
      exact hk0 _ rfl
    · refine g_aload_n (pc := 36) (x := (aM 0)) C dX5_fewestFor_36 rfl ?_
      refine g_iload_n (pc := 37) (x := l3) C dX5_fewestFor_37 rfl ?_
      refine g_callR (pc' := 41) (cs' := 0) (sl' := 0) hf C (fun u => some (.int u)) (fun u hu => gr_V (rest := []) C (cX5_sumOf_ (kL k) C.tr (kD k) N aM v l3 u hu) (fun ht => cwV 1 ht gX5_fewestFor_X5_sumOf rfl rfl rfl hdX5_sumOf ⟨(Nat.le_of_ble_eq_true rfl), (Nat.le_of_ble_eq_true rfl)⟩) 0 rfl rfl [0, 1, 2, 3, 4, 5, 6, 7, 8, 9] rfl (by decide) rfl rfl (Nat.le_of_ble_eq_true rfl) dX5_fewestFor_38 ⟨(Nat.le_of_ble_eq_true rfl), (Nat.le_of_ble_eq_true rfl)⟩) [0, 1, 2, 3, 4, 5, 6, 7, 8, 9] rfl rfl rfl rfl (fun u => [.int u]) (fun u => rfl) (fun r1 hf => ?_)
      refine g_iload_n (pc := 41) (x := l1) C dX5_fewestFor_41 rfl ?_
      refine g_icmp_ne (pc := 42) (tgt := 51) (x := r1) (y := l1) hf C dX5_fewestFor_42 (by decide) (fun hf => ?_) (fun hf => ?_)
      · refine g_iload_n (pc := 51) (x := l3) C dX5_fewestFor_51 rfl ?_
        refine g_callR (pc' := 55) (cs' := 0) (sl' := 0) hf C (fun u => some (.int u)) (fun u hu => gr_S (rest := []) C (cX5_nextSet_ (kL k) C.tr (kD k) N l3 u hu) (fun ht => va_cwS 1 ht gX5_fewestFor_X5_nextSet rfl rfl rfl hsX5_nextSet ⟨(Nat.le_of_ble_eq_true rfl), (Nat.le_of_ble_eq_true rfl)⟩) [] rfl (by decide) rfl rfl (Nat.le_of_ble_eq_true rfl) dX5_fewestFor_52 ⟨(Nat.le_of_ble_eq_true rfl), (Nat.le_of_ble_eq_true rfl)⟩) [] rfl rfl rfl rfl (fun u => [.int u]) (fun u => rfl) (fun r2 hf => ?_)
        refine g_istore_n (pc := 55) (lv' := [(3, .int r2), (0, .ref (aM 0)), (1, .int l1), (2, .int l2)]) C dX5_fewestFor_55 (by decide) rfl ?_
        refine g_goto (pc := 56) (tgt := 26) C dX5_fewestFor_56 (by decide) ?_
        refine g_lv [1, 2, 3, 0] (lv' := [(0, .ref (aM 0)), (1, .int l1), (2, .int l2), (3, .int r2)]) rfl ?_
        exact ih r2 u hf hk0 hk1
      · obtain rfl := Option.some.inj hf
        refine g_lv [0, 3] (lv' := [(0, .ref (aM 0)), (3, .int l3)]) rfl ?_
        exact hk1 _ rfl
def lX5_fewestFor_6 (N : Nat) (v : VM) (l1 : Int32) : Nat → Int32 → Option ((Unit) ⊕ (Int32))
  | 0, _ => none
  | n + 1, l2 => (if (6 : Int32) < l2 then some (.inl ()) else (if (mFrn v) < l2 then some (.inl ()) else ((lX5_fewestFor_26 N v l1 l2 N (((1 : Int32) <<< (l2 &&& 31)) - 1)).bind fun r1 => Sum.elim (fun (t1 : (Unit)) => (lX5_fewestFor_6 N v l1 n (l2 + 1))) (fun (y0 : (Int32)) => (fun (t1 : (Int32)) => some (.inr t1)) y0) r1)))
set_option maxRecDepth 100000 in
set_option maxHeartbeats 4000000 in
theorem wlX5_fewestFor_6 {k : Kt} (C : gC k cX5_fewestFor 4 RX5 wsX5_fewestFor rmX5_fewestFor "fewestFor") (N : Nat) (aM : Nat → Nat) (v : VM) (l1 : Int32) : ∀ (n : Nat) (l2 : Int32) (u : (Unit) ⊕ (Int32)) (hf : lX5_fewestFor_6 N v l1 n l2 = some u) (hk0 : ∀ t : (Unit), u = (.inl t) → gG k (wM (kD k) aM v) [] 0 0 65 []) (hk1 : ∀ t : (Int32), u = (.inr t) → gG k (wM (kD k) aM v) [(0, .ref (aM 0)), (3, .int t)] 0 0 45 []), gG k (wM (kD k) aM v) [(0, .ref (aM 0)), (1, .int l1), (2, .int l2)] 0 0 6 [] := by
  intro n
  induction n with
  | zero => intro l2 u hf hk0 hk1; rw [lX5_fewestFor_6] at hf; cases hf
  | succ n ih =>
    intro l2 u hf hk0 hk1
    rw [lX5_fewestFor_6] at hf
    refine g_iload_n (pc := 6) (x := l2) C dX5_fewestFor_6 rfl ?_
    refine g_bipush (pc := 7) (v := 6) C dX5_fewestFor_7 (by decide) ?_
    refine g_icmp_gt (pc := 9) (tgt := 65) (x := l2) (y := 6) hf C dX5_fewestFor_9 (by decide) (fun hf => ?_) (fun hf => ?_)
    · obtain rfl := Option.some.inj hf
      refine g_lv [] (lv' := []) rfl ?_
      exact hk0 _ rfl
    · refine g_iload_n (pc := 12) (x := l2) C dX5_fewestFor_12 rfl ?_
      refine g_aload_n (pc := 13) (x := (aM 0)) C dX5_fewestFor_13 rfl ?_
      refine g_getf (pc := 14) C 0 rfl rfl inX5_fewestFor_X5 7 (by decide) lkX5_fewestFor_97 rfl rfl dX5_fewestFor_14 ?_
      refine g_icmp_gt (pc := 17) (tgt := 65) (x := l2) (y := (mFrn v)) hf C dX5_fewestFor_17 (by decide) (fun hf => ?_) (fun hf => ?_)
      · obtain rfl := Option.some.inj hf
        refine g_lv [] (lv' := []) rfl ?_
        exact hk0 _ rfl
      · refine g_iconst (pc := 20) (v := 1) C dX5_fewestFor_20 (by decide) ?_
        refine g_iload_n (pc := 21) (x := l2) C dX5_fewestFor_21 rfl ?_
        refine g_ishl (pc := 22) (x := (1 : Int32)) (y := l2) C dX5_fewestFor_22 ?_
        refine g_iconst (pc := 23) (v := 1) C dX5_fewestFor_23 (by decide) ?_
        refine g_isub (pc := 24) (x := ((1 : Int32) <<< (l2 &&& 31))) (y := 1) C dX5_fewestFor_24 ?_
        refine g_istore_n (pc := 25) (lv' := [(3, .int (((1 : Int32) <<< (l2 &&& 31)) - 1)), (0, .ref (aM 0)), (1, .int l1), (2, .int l2)]) C dX5_fewestFor_25 (by decide) rfl ?_
        obtain ⟨r1, h1, hf⟩ := bd_e hf
        refine g_lv [1, 2, 3, 0] (lv' := [(0, .ref (aM 0)), (1, .int l1), (2, .int l2), (3, .int (((1 : Int32) <<< (l2 &&& 31)) - 1))]) rfl ?_
        refine wlX5_fewestFor_26 C N aM v l1 l2 N (((1 : Int32) <<< (l2 &&& 31)) - 1) r1 h1 (fun t1 e => ?_) (fun t1 e => ?_)
        · subst e
          refine g_iinc (pc := 59) (x := l2) (v := (l2 + 1)) (lv' := [(2, .int (l2 + 1)), (0, .ref (aM 0)), (1, .int l1)]) C dX5_fewestFor_59 rfl rfl (by decide) rfl ?_
          refine g_goto (pc := 62) (tgt := 6) C dX5_fewestFor_62 (by decide) ?_
          refine g_lv [1, 2, 0] (lv' := [(0, .ref (aM 0)), (1, .int l1), (2, .int (l2 + 1))]) rfl ?_
          exact ih (l2 + 1) u hf hk0 hk1
        · subst e
          obtain rfl := Option.some.inj hf
          exact hk1 _ rfl
def fX5_fewestFor (N : Nat) (v : VM) (p1 : Int32) : Option (VM × Int32) := ((fX5_lookForFree N v).bind fun r1 => ((lX5_fewestFor_6 N r1 p1 N 1).bind fun r2 => Sum.elim (fun (t2 : (Unit)) => some (r1, 0)) (fun (y0 : (Int32)) => (fun (t2 : (Int32)) => ((fX5_byNumbers N r1 t2).bind fun r3 => some (r1, r3))) y0) r2))
set_option maxRecDepth 100000 in
set_option maxHeartbeats 4000000 in
theorem wkX5_fewestFor {k : Kt} (C : gC k cX5_fewestFor 4 RX5 wsX5_fewestFor rmX5_fewestFor "fewestFor") (N : Nat) (aM : Nat → Nat) (v : VM) (p1 : Int32) (r : VM × Int32) (hf : fX5_fewestFor N v p1 = some r) (E : gE k (wM (kD k) aM v) (fun rv w => rv = some (.int r.2) ∧ w = (wM (kD k) aM r.1)) (fun _ _ => False) 0 0 (some .int) []) : gG k (wM (kD k) aM v) [(0, .ref (aM 0)), (1, .int p1)] 0 0 0 [] := by
  unfold fX5_fewestFor at hf
  refine g_aload_n (pc := 0) (x := (aM 0)) C dX5_fewestFor_0 rfl ?_
  refine g_callW (wr := []) (pc' := 4) (cs' := 0) (sl' := 0) hf C (fun u => none) (fun u => (wM (kD k) aM u)) (fun u hu => gr_V (rest := []) C (cX5_lookForFree_ (kL k) C.tr (kD k) N aM v u hu) (fun ht => cwV 0 ht gX5_fewestFor_X5_lookForFree rfl rfl rfl hdX5_lookForFree ⟨(Nat.le_of_ble_eq_true rfl), (Nat.le_of_ble_eq_true rfl)⟩) 0 rfl rfl [0, 1, 2, 3, 4, 5, 6, 7, 8, 9] rfl (by decide) rfl rfl (Nat.le_of_ble_eq_true rfl) dX5_fewestFor_1 ⟨(Nat.le_of_ble_eq_true rfl), (Nat.le_of_ble_eq_true rfl)⟩) [0, 1, 2, 3, 4, 5, 6, 7, 8, 9] [] rfl rfl (by decide) (by decide) [0, 1, 2, 3, 4, 5, 6, 7, 8, 9] (by decide) (ws' := fun u => (wM (kD k) aM u)) (fun u => rfl) rfl rfl rfl (fun u => []) (fun u => rfl) (fun r1 hf => ?_)
  refine g_iconst (pc := 4) (v := 1) C dX5_fewestFor_4 (by decide) ?_
  refine g_istore_n (pc := 5) (lv' := [(2, .int 1), (0, .ref (aM 0)), (1, .int p1)]) C dX5_fewestFor_5 (by decide) rfl ?_
  obtain ⟨r2, h2, hf⟩ := bd_e hf
  refine g_lv [1, 2, 0] (lv' := [(0, .ref (aM 0)), (1, .int p1), (2, .int 1)]) rfl ?_
  refine wlX5_fewestFor_6 C N aM r1 p1 N 1 r2 h2 (fun t2 e => ?_) (fun t2 e => ?_)
  · subst e
    refine g_iconst (pc := 65) (v := 0) C dX5_fewestFor_65 (by decide) ?_
    obtain rfl := Option.some.inj hf
    exact g_iret (v := 0) C E dX5_fewestFor_66 (Nat.le_of_ble_eq_true rfl) (Nat.le_of_ble_eq_true rfl) ⟨rfl, rfl⟩
  · subst e
    refine g_aload_n (pc := 45) (x := (aM 0)) C dX5_fewestFor_45 rfl ?_
    refine g_iload_n (pc := 46) (x := t2) C dX5_fewestFor_46 rfl ?_
    refine g_callR (pc' := 50) (cs' := 0) (sl' := 0) hf C (fun u => some (.int u)) (fun u hu => gr_V (rest := []) C (cX5_byNumbers_ (kL k) C.tr (kD k) N aM r1 t2 u hu) (fun ht => cwV 1 ht gX5_fewestFor_X5_byNumbers rfl rfl rfl hdX5_byNumbers ⟨(Nat.le_of_ble_eq_true rfl), (Nat.le_of_ble_eq_true rfl)⟩) 0 rfl rfl [0, 1, 2, 3, 4, 5, 6, 7, 8, 9] rfl (by decide) rfl rfl (Nat.le_of_ble_eq_true rfl) dX5_fewestFor_47 ⟨(Nat.le_of_ble_eq_true rfl), (Nat.le_of_ble_eq_true rfl)⟩) [0, 1, 2, 3, 4, 5, 6, 7, 8, 9] rfl rfl rfl rfl (fun u => [.int u]) (fun u => rfl) (fun r3 hf => ?_)
    obtain rfl := Option.some.inj hf
    exact g_iret (v := r3) C E dX5_fewestFor_50 (Nat.le_of_ble_eq_true rfl) (Nat.le_of_ble_eq_true rfl) ⟨rfl, rfl⟩
set_option maxRecDepth 100000 in
set_option maxHeartbeats 4000000 in
theorem cX5_fewestFor_ (l : Launch) (htr : l.stackTraces = false) (D : va_G) (N : Nat) (aM : Nat → Nat) (v : VM) (p1 : Int32) (r : VM × Int32) (hf : fX5_fewestFor N v p1 = some r) : Tc l D yX5_fewestFor wsX5_fewestFor rmX5_fewestFor [.ref (aM 0), .int p1] (wM D aM v) (fun rv w => rv = some (.int r.2) ∧ w = (wM D aM r.1)) (fun _ _ => False) 0 0 := Tc_of htr (by decide +kernel) rfl (Nat.le_of_ble_eq_true rfl) (fun k C E hl hD => by subst hD; exact wkX5_fewestFor C N aM v p1 r hf E)
abbrev rmX5_ones : Room := { frames := 0, cells := 0, slots := 0, locals := 0 }
theorem hsX5_ones : yX5_ones.cls ≠ "java/lang/invoke/MethodHandle" ∧ yX5_ones.cls ≠ "java/lang/invoke/VarHandle" ∧ (parseMethodDescriptor yX5_ones.desc).map (fun d => d.parameters.length) = some 1 := by decide +kernel
def lX5_ones_4 (N : Nat)  : Nat → Int32 → Int32 → Option ((Int32))
  | 0, _, _ => none
  | n + 1, l1, l2 => (if l2 ≤ (0 : Int32) then some l1 else (lX5_ones_4 N n (l1 + (l2 &&& 1)) (l2 >>> (1 &&& 31))))
set_option maxRecDepth 100000 in
set_option maxHeartbeats 4000000 in
theorem wlX5_ones_4 {k : Kt} (C : gC k cX5_ones 3 RX5 wsX5_ones rmX5_ones "ones") (N : Nat) : ∀ (n : Nat) (l1 : Int32) (l2 : Int32) (u : (Int32)) (hf : lX5_ones_4 N n l1 l2 = some u) (hk0 : gG k [] [(1, .int u)] 0 0 21 []), gG k [] [(1, .int l1), (2, .int l2)] 0 0 4 [] := by
  intro n
  induction n with
  | zero => intro l1 l2 u hf hk0; rw [lX5_ones_4] at hf; cases hf
  | succ n ih =>
    intro l1 l2 u hf hk0
    rw [lX5_ones_4] at hf
    refine g_iload_n (pc := 4) (x := l2) C dX5_ones_4 rfl ?_
    refine g_if_le (pc := 5) (tgt := 21) (x := l2) hf C dX5_ones_5 (by decide) (fun hf => ?_) (fun hf => ?_)
    · obtain rfl := Option.some.inj hf
      refine g_lv [0] (lv' := [(1, .int l1)]) rfl ?_
      exact hk0
    · refine g_iload_n (pc := 8) (x := l1) C dX5_ones_8 rfl ?_
      refine g_iload_n (pc := 9) (x := l2) C dX5_ones_9 rfl ?_
      refine g_iconst (pc := 10) (v := 1) C dX5_ones_10 (by decide) ?_
      refine g_iand (pc := 11) (x := l2) (y := 1) C dX5_ones_11 ?_
      refine g_iadd (pc := 12) (x := l1) (y := (l2 &&& 1)) C dX5_ones_12 ?_
      refine g_istore_n (pc := 13) (lv' := [(1, .int (l1 + (l2 &&& 1))), (2, .int l2)]) C dX5_ones_13 (by decide) rfl ?_
      refine g_iload_n (pc := 14) (x := l2) C dX5_ones_14 rfl ?_
      refine g_iconst (pc := 15) (v := 1) C dX5_ones_15 (by decide) ?_
      refine g_ishr (pc := 16) (x := l2) (y := 1) C dX5_ones_16 ?_
      refine g_istore_n (pc := 17) (lv' := [(2, .int (l2 >>> (1 &&& 31))), (1, .int (l1 + (l2 &&& 1)))]) C dX5_ones_17 (by decide) rfl ?_
      refine g_goto (pc := 18) (tgt := 4) C dX5_ones_18 (by decide) ?_
      refine g_lv [1, 0] (lv' := [(1, .int (l1 + (l2 &&& 1))), (2, .int (l2 >>> (1 &&& 31)))]) rfl ?_
      exact ih (l1 + (l2 &&& 1)) (l2 >>> (1 &&& 31)) u hf hk0
def fX5_ones (N : Nat) (p0 : Int32) : Option (Int32) := ((lX5_ones_4 N N 0 p0).bind fun r1 => some r1)
set_option maxRecDepth 100000 in
set_option maxHeartbeats 4000000 in
theorem wkX5_ones {k : Kt} (C : gC k cX5_ones 3 RX5 wsX5_ones rmX5_ones "ones") (N : Nat) (p0 : Int32) (r : Int32) (hf : fX5_ones N p0 = some r) (E : gE k [] (fun rv w => rv = some (.int r) ∧ w = []) (fun _ _ => False) 0 0 (some .int) []) : gG k [] [(0, .int p0)] 0 0 0 [] := by
  unfold fX5_ones at hf
  refine g_iconst (pc := 0) (v := 0) C dX5_ones_0 (by decide) ?_
  refine g_istore_n (pc := 1) (lv' := [(1, .int 0), (0, .int p0)]) C dX5_ones_1 (by decide) rfl ?_
  refine g_iload_n (pc := 2) (x := p0) C dX5_ones_2 rfl ?_
  refine g_istore_n (pc := 3) (lv' := [(2, .int p0), (1, .int 0), (0, .int p0)]) C dX5_ones_3 (by decide) rfl ?_
  obtain ⟨r1, h1, hf⟩ := bd_e hf
  refine g_lv [1, 0] (lv' := [(1, .int 0), (2, .int p0)]) rfl ?_
  refine wlX5_ones_4 C N N 0 p0 r1 h1 ?_
  refine g_iload_n (pc := 21) (x := r1) C dX5_ones_21 rfl ?_
  obtain rfl := Option.some.inj hf
  exact g_iret (v := r1) C E dX5_ones_22 (Nat.le_of_ble_eq_true rfl) (Nat.le_of_ble_eq_true rfl) ⟨rfl, rfl⟩
set_option maxRecDepth 100000 in
set_option maxHeartbeats 4000000 in
theorem cX5_ones_ (l : Launch) (htr : l.stackTraces = false) (D : va_G) (N : Nat) (p0 : Int32) (r : Int32) (hf : fX5_ones N p0 = some r) : Tc l D yX5_ones wsX5_ones rmX5_ones [.int p0] [] (fun rv w => rv = some (.int r) ∧ w = []) (fun _ _ => False) 0 0 := Tc_of htr (by decide +kernel) rfl (Nat.le_of_ble_eq_true rfl) (fun k C E hl hD => by subst hD; exact wkX5_ones C N p0 r hf E)
abbrev rmX5_block : Room := { frames := 2, cells := 0, slots := 0, locals := 47 }
theorem inX5_block_X5 : ∀ w ∈ wsX50, w ∈ wsX5_block := by decide +kernel
theorem lkX5_block_38 : Cond.fieldLink RX5 38 "GaugeBlocksModel" (TX5 5).2.1 (TX5 5).2.2.1 ∈ wsX5_block := by decide +kernel
theorem kcX5_block_112 : Jvm.Cond.constant RX5 112 100000 ∈ wsX5_block := by decide +kernel
theorem lkX5_block_7 : Cond.fieldLink RX5 7 "GaugeBlocksModel" (TX5 0).2.1 (TX5 0).2.2.1 ∈ wsX5_block := by decide +kernel
theorem hdX5_block : yX5_block.cls = RX5 ∧ yX5_block.cls ≠ "java/lang/invoke/MethodHandle" ∧ yX5_block.cls ≠ "java/lang/invoke/VarHandle" ∧ (parseMethodDescriptor yX5_block.desc).map (fun d => d.parameters.length) = some 2 := by decide +kernel
def fX5_block (N : Nat) (v : VM) (p1 : Int32) (p2 : Int32) : Option (VM × Int32) := ((fX5_in N p1 500 100000).bind fun r1 => (if r1 = true then ((fX5_in N p2 (-900) 900).bind fun r3 => (if r3 = true then ck 8 149 ((if ((mRow v) (Int32.toNatClampNeg 8)) = (20 : Int32) then ((fX5_fails N ((mRow v), (mSav v), (mSvn v), (mSnp v), (mKep v), 0, (mFre v), (mFrn v), (mBuf v), (mLen v), (mSpt v), (mNum v), (mOrd v), (mLet v), (mFst v), (mSnd v), (mTok v), (mLft v)) 2).bind fun r6 => some (r6.1, r6.2)) else ((fX5_save N ((mRow v), (mSav v), (mSvn v), (mSnp v), (mKep v), 0, (mFre v), (mFrn v), (mBuf v), (mLen v), (mSpt v), (mNum v), (mOrd v), (mLet v), (mFst v), (mSnd v), (mTok v), (mLft v))).bind fun r4 => ((fX5_addBlock N r4 p1 p2).bind fun r5 => some (r5.1, r5.2))))) else ((fX5_fails N ((mRow v), (mSav v), (mSvn v), (mSnp v), (mKep v), 0, (mFre v), (mFrn v), (mBuf v), (mLen v), (mSpt v), (mNum v), (mOrd v), (mLet v), (mFst v), (mSnd v), (mTok v), (mLft v)) 1).bind fun r7 => some (r7.1, r7.2)))) else ((fX5_fails N ((mRow v), (mSav v), (mSvn v), (mSnp v), (mKep v), 0, (mFre v), (mFrn v), (mBuf v), (mLen v), (mSpt v), (mNum v), (mOrd v), (mLet v), (mFst v), (mSnd v), (mTok v), (mLft v)) 1).bind fun r2 => some (r2.1, r2.2))))
set_option maxRecDepth 100000 in
set_option maxHeartbeats 4000000 in
theorem wkX5_block {k : Kt} (C : gC k cX5_block 3 RX5 wsX5_block rmX5_block "block") (N : Nat) (aM : Nat → Nat) (v : VM) (p1 : Int32) (p2 : Int32) (r : VM × Int32) (hf : fX5_block N v p1 p2 = some r) (E : gE k (wM (kD k) aM v) (fun rv w => rv = some (.int r.2) ∧ w = (wM (kD k) aM r.1)) (fun _ _ => False) 0 0 (some .int) []) : gG k (wM (kD k) aM v) [(0, .ref (aM 0)), (1, .int p1), (2, .int p2)] 0 0 0 [] := by
  unfold fX5_block at hf
  refine g_aload_n (pc := 0) (x := (aM 0)) C dX5_block_0 rfl ?_
  refine g_iconst (pc := 1) (v := 0) C dX5_block_1 (by decide) ?_
  refine g_putf (pc := 2) C 0 rfl rfl inX5_block_X5 tyX5 tyX5_ok nmX5 5 (by decide) lkX5_block_38 rfl rfl pfX5_5 rfl rfl (Nat.le_of_ble_eq_true rfl) dX5_block_2 (ws' := (wM (kD k) aM ((mRow v), (mSav v), (mSvn v), (mSnp v), (mKep v), 0, (mFre v), (mFrn v), (mBuf v), (mLen v), (mSpt v), (mNum v), (mOrd v), (mLet v), (mFst v), (mSnd v), (mTok v), (mLft v)))) rfl ?_
  refine g_iload_n (pc := 5) (x := p1) C dX5_block_5 rfl ?_
  refine g_sipush (pc := 6) (v := 500) C dX5_block_6 (by decide) ?_
  refine g_ldc (pc := 9) (v := 100000) C dX5_block_9 kcX5_block_112 ?_
  refine g_callR (pc' := 14) (cs' := 0) (sl' := 0) hf C (fun u => some (.int (b2i u))) (fun u hu => gr_S (rest := []) C (cX5_in_ (kL k) C.tr (kD k) N p1 500 100000 u hu) (fun ht => va_cwS 3 ht gX5_block_X5_in rfl rfl rfl hsX5_in ⟨(Nat.le_of_ble_eq_true rfl), (Nat.le_of_ble_eq_true rfl)⟩) [] rfl (by decide) rfl rfl (Nat.le_of_ble_eq_true rfl) dX5_block_11 ⟨(Nat.le_of_ble_eq_true rfl), (Nat.le_of_ble_eq_true rfl)⟩) [] rfl rfl rfl rfl (fun u => [.int (b2i u)]) (fun u => rfl) (fun r1 hf => ?_)
  refine g_ifB_eq (pc := 14) (tgt := 30) (b := r1) hf C dX5_block_14 (by decide) (fun hf => ?_) (fun hf => ?_)
  · refine g_aload_n (pc := 30) (x := (aM 0)) C dX5_block_30 rfl ?_
    refine g_iconst (pc := 31) (v := 1) C dX5_block_31 (by decide) ?_
    refine g_callW (wr := []) (pc' := 35) (cs' := 0) (sl' := 0) hf C (fun u => some (.int u.2)) (fun u => (wM (kD k) aM u.1)) (fun u hu => gr_V (rest := []) C (cX5_fails_ (kL k) C.tr (kD k) N aM ((mRow v), (mSav v), (mSvn v), (mSnp v), (mKep v), 0, (mFre v), (mFrn v), (mBuf v), (mLen v), (mSpt v), (mNum v), (mOrd v), (mLet v), (mFst v), (mSnd v), (mTok v), (mLft v)) 1 u hu) (fun ht => cwV 1 ht gX5_block_X5_fails rfl rfl rfl hdX5_fails ⟨(Nat.le_of_ble_eq_true rfl), (Nat.le_of_ble_eq_true rfl)⟩) 0 rfl rfl [0, 1, 2, 3, 4, 5, 6, 7, 8, 9] rfl (by decide) rfl rfl (Nat.le_of_ble_eq_true rfl) dX5_block_32 ⟨(Nat.le_of_ble_eq_true rfl), (Nat.le_of_ble_eq_true rfl)⟩) [0, 1, 2, 3, 4, 5, 6, 7, 8, 9] [] rfl rfl (by decide) (by decide) [0, 1, 2, 3, 4, 5, 6, 7, 8, 9] (by decide) (ws' := fun u => (wM (kD k) aM u.1)) (fun u => rfl) rfl rfl rfl (fun u => [.int u.2]) (fun u => rfl) (fun r2 hf => ?_)
    obtain rfl := Option.some.inj hf
    exact g_iret (v := r2.2) C E dX5_block_35 (Nat.le_of_ble_eq_true rfl) (Nat.le_of_ble_eq_true rfl) ⟨rfl, rfl⟩
  · refine g_iload_n (pc := 17) (x := p2) C dX5_block_17 rfl ?_
    refine g_sipush (pc := 18) (v := (-900)) C dX5_block_18 (by decide) ?_
    refine g_sipush (pc := 21) (v := 900) C dX5_block_21 (by decide) ?_
    refine g_callR (pc' := 27) (cs' := 0) (sl' := 0) hf C (fun u => some (.int (b2i u))) (fun u hu => gr_S (rest := []) C (cX5_in_ (kL k) C.tr (kD k) N p2 (-900) 900 u hu) (fun ht => va_cwS 3 ht gX5_block_X5_in rfl rfl rfl hsX5_in ⟨(Nat.le_of_ble_eq_true rfl), (Nat.le_of_ble_eq_true rfl)⟩) [] rfl (by decide) rfl rfl (Nat.le_of_ble_eq_true rfl) dX5_block_24 ⟨(Nat.le_of_ble_eq_true rfl), (Nat.le_of_ble_eq_true rfl)⟩) [] rfl rfl rfl rfl (fun u => [.int (b2i u)]) (fun u => rfl) (fun r3 hf => ?_)
    refine g_ifB_ne (pc := 27) (tgt := 36) (b := r3) hf C dX5_block_27 (by decide) (fun hf => ?_) (fun hf => ?_)
    · refine g_aload_n (pc := 36) (x := (aM 0)) C dX5_block_36 rfl ?_
      refine g_getf (pc := 37) C 0 rfl rfl inX5_block_X5 0 (by decide) lkX5_block_7 rfl rfl dX5_block_37 ?_
      refine g_bipush (pc := 40) (v := 8) C dX5_block_40 (by decide) ?_
      refine g_iald (pc := 42) (i := 8) hf C 1 rfl dX5_block_42 (fun hf => ?_)
      refine g_bipush (pc := 43) (v := 20) C dX5_block_43 (by decide) ?_
      refine g_icmp_ne (pc := 45) (tgt := 54) (x := ((mRow v) (Int32.toNatClampNeg 8))) (y := 20) hf C dX5_block_45 (by decide) (fun hf => ?_) (fun hf => ?_)
      · refine g_aload_n (pc := 54) (x := (aM 0)) C dX5_block_54 rfl ?_
        refine g_callW (wr := []) (pc' := 58) (cs' := 0) (sl' := 0) hf C (fun u => none) (fun u => (wM (kD k) aM u)) (fun u hu => gr_V (rest := []) C (cX5_save_ (kL k) C.tr (kD k) N aM ((mRow v), (mSav v), (mSvn v), (mSnp v), (mKep v), 0, (mFre v), (mFrn v), (mBuf v), (mLen v), (mSpt v), (mNum v), (mOrd v), (mLet v), (mFst v), (mSnd v), (mTok v), (mLft v)) u hu) (fun ht => cwV 0 ht gX5_block_X5_save rfl rfl rfl hdX5_save ⟨(Nat.le_of_ble_eq_true rfl), (Nat.le_of_ble_eq_true rfl)⟩) 0 rfl rfl [0, 1, 2, 3, 4, 5, 6, 7, 8, 9] rfl (by decide) rfl rfl (Nat.le_of_ble_eq_true rfl) dX5_block_55 ⟨(Nat.le_of_ble_eq_true rfl), (Nat.le_of_ble_eq_true rfl)⟩) [0, 1, 2, 3, 4, 5, 6, 7, 8, 9] [] rfl rfl (by decide) (by decide) [0, 1, 2, 3, 4, 5, 6, 7, 8, 9] (by decide) (ws' := fun u => (wM (kD k) aM u)) (fun u => rfl) rfl rfl rfl (fun u => []) (fun u => rfl) (fun r4 hf => ?_)
        refine g_aload_n (pc := 58) (x := (aM 0)) C dX5_block_58 rfl ?_
        refine g_iload_n (pc := 59) (x := p1) C dX5_block_59 rfl ?_
        refine g_iload_n (pc := 60) (x := p2) C dX5_block_60 rfl ?_
        refine g_callW (wr := []) (pc' := 64) (cs' := 0) (sl' := 0) hf C (fun u => some (.int u.2)) (fun u => (wM (kD k) aM u.1)) (fun u hu => gr_V (rest := []) C (cX5_addBlock_ (kL k) C.tr (kD k) N aM r4 p1 p2 u hu) (fun ht => cwV 2 ht gX5_block_X5_addBlock rfl rfl rfl hdX5_addBlock ⟨(Nat.le_of_ble_eq_true rfl), (Nat.le_of_ble_eq_true rfl)⟩) 0 rfl rfl [0, 1, 2, 3, 4, 5, 6, 7, 8, 9] rfl (by decide) rfl rfl (Nat.le_of_ble_eq_true rfl) dX5_block_61 ⟨(Nat.le_of_ble_eq_true rfl), (Nat.le_of_ble_eq_true rfl)⟩) [0, 1, 2, 3, 4, 5, 6, 7, 8, 9] [] rfl rfl (by decide) (by decide) [0, 1, 2, 3, 4, 5, 6, 7, 8, 9] (by decide) (ws' := fun u => (wM (kD k) aM u.1)) (fun u => rfl) rfl rfl rfl (fun u => [.int u.2]) (fun u => rfl) (fun r5 hf => ?_)
        obtain rfl := Option.some.inj hf
        exact g_iret (v := r5.2) C E dX5_block_64 (Nat.le_of_ble_eq_true rfl) (Nat.le_of_ble_eq_true rfl) ⟨rfl, rfl⟩
      · refine g_aload_n (pc := 48) (x := (aM 0)) C dX5_block_48 rfl ?_
        refine g_iconst (pc := 49) (v := 2) C dX5_block_49 (by decide) ?_
        refine g_callW (wr := []) (pc' := 53) (cs' := 0) (sl' := 0) hf C (fun u => some (.int u.2)) (fun u => (wM (kD k) aM u.1)) (fun u hu => gr_V (rest := []) C (cX5_fails_ (kL k) C.tr (kD k) N aM ((mRow v), (mSav v), (mSvn v), (mSnp v), (mKep v), 0, (mFre v), (mFrn v), (mBuf v), (mLen v), (mSpt v), (mNum v), (mOrd v), (mLet v), (mFst v), (mSnd v), (mTok v), (mLft v)) 2 u hu) (fun ht => cwV 1 ht gX5_block_X5_fails rfl rfl rfl hdX5_fails ⟨(Nat.le_of_ble_eq_true rfl), (Nat.le_of_ble_eq_true rfl)⟩) 0 rfl rfl [0, 1, 2, 3, 4, 5, 6, 7, 8, 9] rfl (by decide) rfl rfl (Nat.le_of_ble_eq_true rfl) dX5_block_50 ⟨(Nat.le_of_ble_eq_true rfl), (Nat.le_of_ble_eq_true rfl)⟩) [0, 1, 2, 3, 4, 5, 6, 7, 8, 9] [] rfl rfl (by decide) (by decide) [0, 1, 2, 3, 4, 5, 6, 7, 8, 9] (by decide) (ws' := fun u => (wM (kD k) aM u.1)) (fun u => rfl) rfl rfl rfl (fun u => [.int u.2]) (fun u => rfl) (fun r6 hf => ?_)
        obtain rfl := Option.some.inj hf
        exact g_iret (v := r6.2) C E dX5_block_53 (Nat.le_of_ble_eq_true rfl) (Nat.le_of_ble_eq_true rfl) ⟨rfl, rfl⟩
    · refine g_aload_n (pc := 30) (x := (aM 0)) C dX5_block_30 rfl ?_
      refine g_iconst (pc := 31) (v := 1) C dX5_block_31 (by decide) ?_
      refine g_callW (wr := []) (pc' := 35) (cs' := 0) (sl' := 0) hf C (fun u => some (.int u.2)) (fun u => (wM (kD k) aM u.1)) (fun u hu => gr_V (rest := []) C (cX5_fails_ (kL k) C.tr (kD k) N aM ((mRow v), (mSav v), (mSvn v), (mSnp v), (mKep v), 0, (mFre v), (mFrn v), (mBuf v), (mLen v), (mSpt v), (mNum v), (mOrd v), (mLet v), (mFst v), (mSnd v), (mTok v), (mLft v)) 1 u hu) (fun ht => cwV 1 ht gX5_block_X5_fails rfl rfl rfl hdX5_fails ⟨(Nat.le_of_ble_eq_true rfl), (Nat.le_of_ble_eq_true rfl)⟩) 0 rfl rfl [0, 1, 2, 3, 4, 5, 6, 7, 8, 9] rfl (by decide) rfl rfl (Nat.le_of_ble_eq_true rfl) dX5_block_32 ⟨(Nat.le_of_ble_eq_true rfl), (Nat.le_of_ble_eq_true rfl)⟩) [0, 1, 2, 3, 4, 5, 6, 7, 8, 9] [] rfl rfl (by decide) (by decide) [0, 1, 2, 3, 4, 5, 6, 7, 8, 9] (by decide) (ws' := fun u => (wM (kD k) aM u.1)) (fun u => rfl) rfl rfl rfl (fun u => [.int u.2]) (fun u => rfl) (fun r7 hf => ?_)
      obtain rfl := Option.some.inj hf
      exact g_iret (v := r7.2) C E dX5_block_35 (Nat.le_of_ble_eq_true rfl) (Nat.le_of_ble_eq_true rfl) ⟨rfl, rfl⟩
set_option maxRecDepth 100000 in
set_option maxHeartbeats 4000000 in
theorem cX5_block_ (l : Launch) (htr : l.stackTraces = false) (D : va_G) (N : Nat) (aM : Nat → Nat) (v : VM) (p1 : Int32) (p2 : Int32) (r : VM × Int32) (hf : fX5_block N v p1 p2 = some r) : Tc l D yX5_block wsX5_block rmX5_block [.ref (aM 0), .int p1, .int p2] (wM D aM v) (fun rv w => rv = some (.int r.2) ∧ w = (wM D aM r.1)) (fun _ _ => False) 0 0 := Tc_of htr (by decide +kernel) rfl (Nat.le_of_ble_eq_true rfl) (fun k C E hl hD => by subst hD; exact wkX5_block C N aM v p1 p2 r hf E)
abbrev rmX5_discard : Room := { frames := 2, cells := 0, slots := 0, locals := 43 }
theorem inX5_discard_X5 : ∀ w ∈ wsX50, w ∈ wsX5_discard := by decide +kernel
theorem lkX5_discard_38 : Cond.fieldLink RX5 38 "GaugeBlocksModel" (TX5 5).2.1 (TX5 5).2.2.1 ∈ wsX5_discard := by decide +kernel
theorem lkX5_discard_7 : Cond.fieldLink RX5 7 "GaugeBlocksModel" (TX5 0).2.1 (TX5 0).2.2.1 ∈ wsX5_discard := by decide +kernel
theorem hdX5_discard : yX5_discard.cls = RX5 ∧ yX5_discard.cls ≠ "java/lang/invoke/MethodHandle" ∧ yX5_discard.cls ≠ "java/lang/invoke/VarHandle" ∧ (parseMethodDescriptor yX5_discard.desc).map (fun d => d.parameters.length) = some 1 := by decide +kernel
def lX5_discard_70 (N : Nat) (l2 : Int32) : Nat → VM → Int32 → Option ((VM))
  | 0, _, _ => none
  | n + 1, v, l3 => (if l2 ≤ l3 then some v else ck (l3 + 7) 149 (ck l3 149 ((lX5_discard_70 N l2 n ((upd (mRow v) (Int32.toNatClampNeg l3) ((mRow v) (Int32.toNatClampNeg (l3 + 7)))), (mSav v), (mSvn v), (mSnp v), (mKep v), (mThr v), (mFre v), (mFrn v), (mBuf v), (mLen v), (mSpt v), (mNum v), (mOrd v), (mLet v), (mFst v), (mSnd v), (mTok v), (mLft v)) (l3 + 1)))))
set_option maxRecDepth 100000 in
set_option maxHeartbeats 4000000 in
theorem wlX5_discard_70 {k : Kt} (C : gC k cX5_discard 4 RX5 wsX5_discard rmX5_discard "discard") (N : Nat) (aM : Nat → Nat) (l2 : Int32) : ∀ (n : Nat) (v : VM) (l3 : Int32) (u : (VM)) (hf : lX5_discard_70 N l2 n v l3 = some u) (hk0 : gG k (wM (kD k) aM u) [(0, .ref (aM 0)), (2, .int l2)] 0 0 96 []), gG k (wM (kD k) aM v) [(0, .ref (aM 0)), (2, .int l2), (3, .int l3)] 0 0 70 [] := by
  intro n
  induction n with
  | zero => intro v l3 u hf hk0; rw [lX5_discard_70] at hf; cases hf
  | succ n ih =>
    intro v l3 u hf hk0
    rw [lX5_discard_70] at hf
    refine g_iload_n (pc := 70) (x := l3) C dX5_discard_70 rfl ?_
    refine g_iload_n (pc := 71) (x := l2) C dX5_discard_71 rfl ?_
    refine g_icmp_ge (pc := 72) (tgt := 96) (x := l3) (y := l2) hf C dX5_discard_72 (by decide) (fun hf => ?_) (fun hf => ?_)
    · obtain rfl := Option.some.inj hf
      refine g_lv [0, 1] (lv' := [(0, .ref (aM 0)), (2, .int l2)]) rfl ?_
      exact hk0
    · refine g_aload_n (pc := 75) (x := (aM 0)) C dX5_discard_75 rfl ?_
      refine g_getf (pc := 76) C 0 rfl rfl inX5_discard_X5 0 (by decide) lkX5_discard_7 rfl rfl dX5_discard_76 ?_
      refine g_iload_n (pc := 79) (x := l3) C dX5_discard_79 rfl ?_
      refine g_aload_n (pc := 80) (x := (aM 0)) C dX5_discard_80 rfl ?_
      refine g_getf (pc := 81) C 0 rfl rfl inX5_discard_X5 0 (by decide) lkX5_discard_7 rfl rfl dX5_discard_81 ?_
      refine g_iload_n (pc := 84) (x := l3) C dX5_discard_84 rfl ?_
      refine g_bipush (pc := 85) (v := 7) C dX5_discard_85 (by decide) ?_
      refine g_iadd (pc := 87) (x := l3) (y := 7) C dX5_discard_87 ?_
      refine g_iald (pc := 88) (i := (l3 + 7)) hf C 1 rfl dX5_discard_88 (fun hf => ?_)
      refine g_iast (pc := 89) (i := l3) (x := ((mRow v) (Int32.toNatClampNeg (l3 + 7)))) hf C 1 rfl dX5_discard_89 (ws' := (wM (kD k) aM ((upd (mRow v) (Int32.toNatClampNeg l3) ((mRow v) (Int32.toNatClampNeg (l3 + 7)))), (mSav v), (mSvn v), (mSnp v), (mKep v), (mThr v), (mFre v), (mFrn v), (mBuf v), (mLen v), (mSpt v), (mNum v), (mOrd v), (mLet v), (mFst v), (mSnd v), (mTok v), (mLft v)))) rfl (fun hf => ?_)
      refine g_iinc (pc := 90) (x := l3) (v := (l3 + 1)) (lv' := [(3, .int (l3 + 1)), (0, .ref (aM 0)), (2, .int l2)]) C dX5_discard_90 rfl rfl (by decide) rfl ?_
      refine g_goto (pc := 93) (tgt := 70) C dX5_discard_93 (by decide) ?_
      refine g_lv [1, 2, 0] (lv' := [(0, .ref (aM 0)), (2, .int l2), (3, .int (l3 + 1))]) rfl ?_
      exact ih ((upd (mRow v) (Int32.toNatClampNeg l3) ((mRow v) (Int32.toNatClampNeg (l3 + 7)))), (mSav v), (mSvn v), (mSnp v), (mKep v), (mThr v), (mFre v), (mFrn v), (mBuf v), (mLen v), (mSpt v), (mNum v), (mOrd v), (mLet v), (mFst v), (mSnd v), (mTok v), (mLft v)) (l3 + 1) u hf hk0
def lX5_discard_98 (N : Nat) (l2 : Int32) : Nat → VM → Int32 → Option ((VM))
  | 0, _, _ => none
  | n + 1, v, l3 => (if (l2 + 7) ≤ l3 then some v else ck l3 149 ((lX5_discard_98 N l2 n ((upd (mRow v) (Int32.toNatClampNeg l3) 0), (mSav v), (mSvn v), (mSnp v), (mKep v), (mThr v), (mFre v), (mFrn v), (mBuf v), (mLen v), (mSpt v), (mNum v), (mOrd v), (mLet v), (mFst v), (mSnd v), (mTok v), (mLft v)) (l3 + 1))))
set_option maxRecDepth 100000 in
set_option maxHeartbeats 4000000 in
theorem wlX5_discard_98 {k : Kt} (C : gC k cX5_discard 4 RX5 wsX5_discard rmX5_discard "discard") (N : Nat) (aM : Nat → Nat) (l2 : Int32) : ∀ (n : Nat) (v : VM) (l3 : Int32) (u : (VM)) (hf : lX5_discard_98 N l2 n v l3 = some u) (hk0 : gG k (wM (kD k) aM u) [(0, .ref (aM 0))] 0 0 119 []), gG k (wM (kD k) aM v) [(0, .ref (aM 0)), (2, .int l2), (3, .int l3)] 0 0 98 [] := by
  intro n
  induction n with
  | zero => intro v l3 u hf hk0; rw [lX5_discard_98] at hf; cases hf
  | succ n ih =>
    intro v l3 u hf hk0
    rw [lX5_discard_98] at hf
    refine g_iload_n (pc := 98) (x := l3) C dX5_discard_98 rfl ?_
    refine g_iload_n (pc := 99) (x := l2) C dX5_discard_99 rfl ?_
    refine g_bipush (pc := 100) (v := 7) C dX5_discard_100 (by decide) ?_
    refine g_iadd (pc := 102) (x := l2) (y := 7) C dX5_discard_102 ?_
    refine g_icmp_ge (pc := 103) (tgt := 119) (x := l3) (y := (l2 + 7)) hf C dX5_discard_103 (by decide) (fun hf => ?_) (fun hf => ?_)
    · obtain rfl := Option.some.inj hf
      refine g_lv [0] (lv' := [(0, .ref (aM 0))]) rfl ?_
      exact hk0
    · refine g_aload_n (pc := 106) (x := (aM 0)) C dX5_discard_106 rfl ?_
      refine g_getf (pc := 107) C 0 rfl rfl inX5_discard_X5 0 (by decide) lkX5_discard_7 rfl rfl dX5_discard_107 ?_
      refine g_iload_n (pc := 110) (x := l3) C dX5_discard_110 rfl ?_
      refine g_iconst (pc := 111) (v := 0) C dX5_discard_111 (by decide) ?_
      refine g_iast (pc := 112) (i := l3) (x := 0) hf C 1 rfl dX5_discard_112 (ws' := (wM (kD k) aM ((upd (mRow v) (Int32.toNatClampNeg l3) 0), (mSav v), (mSvn v), (mSnp v), (mKep v), (mThr v), (mFre v), (mFrn v), (mBuf v), (mLen v), (mSpt v), (mNum v), (mOrd v), (mLet v), (mFst v), (mSnd v), (mTok v), (mLft v)))) rfl (fun hf => ?_)
      refine g_iinc (pc := 113) (x := l3) (v := (l3 + 1)) (lv' := [(3, .int (l3 + 1)), (0, .ref (aM 0)), (2, .int l2)]) C dX5_discard_113 rfl rfl (by decide) rfl ?_
      refine g_goto (pc := 116) (tgt := 98) C dX5_discard_116 (by decide) ?_
      refine g_lv [1, 2, 0] (lv' := [(0, .ref (aM 0)), (2, .int l2), (3, .int (l3 + 1))]) rfl ?_
      exact ih ((upd (mRow v) (Int32.toNatClampNeg l3) 0), (mSav v), (mSvn v), (mSnp v), (mKep v), (mThr v), (mFre v), (mFrn v), (mBuf v), (mLen v), (mSpt v), (mNum v), (mOrd v), (mLet v), (mFst v), (mSnd v), (mTok v), (mLft v)) (l3 + 1) u hf hk0
def fX5_discard (N : Nat) (v : VM) (p1 : Int32) : Option (VM × Int32) := ((fX5_isBlock N ((mRow v), (mSav v), (mSvn v), (mSnp v), (mKep v), 0, (mFre v), (mFrn v), (mBuf v), (mLen v), (mSpt v), (mNum v), (mOrd v), (mLet v), (mFst v), (mSnd v), (mTok v), (mLft v)) p1).bind fun r1 => (if r1 = true then ((fX5_isFree N ((mRow v), (mSav v), (mSvn v), (mSnp v), (mKep v), 0, (mFre v), (mFrn v), (mBuf v), (mLen v), (mSpt v), (mNum v), (mOrd v), (mLet v), (mFst v), (mSnd v), (mTok v), (mLft v)) p1).bind fun r2 => (if r2 = true then ((fX5_save N ((mRow v), (mSav v), (mSvn v), (mSnp v), (mKep v), 0, (mFre v), (mFrn v), (mBuf v), (mLen v), (mSpt v), (mNum v), (mOrd v), (mLet v), (mFst v), (mSnd v), (mTok v), (mLft v))).bind fun r3 => ck 8 149 (ck 8 149 (ck 8 149 (((lX5_discard_70 N (9 + (7 * ((upd (mRow r3) (Int32.toNatClampNeg 8) (((mRow r3) (Int32.toNatClampNeg 8)) - 1)) (Int32.toNatClampNeg 8)))) N ((upd (mRow r3) (Int32.toNatClampNeg 8) (((mRow r3) (Int32.toNatClampNeg 8)) - 1)), (mSav r3), (mSvn r3), (mSnp r3), (mKep r3), (mThr r3), (mFre r3), (mFrn r3), (mBuf r3), (mLen r3), (mSpt r3), (mNum r3), (mOrd r3), (mLet r3), (mFst r3), (mSnd r3), (mTok r3), (mLft r3)) (9 + (7 * p1))).bind fun r4 => ((lX5_discard_98 N (9 + (7 * ((upd (mRow r3) (Int32.toNatClampNeg 8) (((mRow r3) (Int32.toNatClampNeg 8)) - 1)) (Int32.toNatClampNeg 8)))) N r4 (9 + (7 * ((upd (mRow r3) (Int32.toNatClampNeg 8) (((mRow r3) (Int32.toNatClampNeg 8)) - 1)) (Int32.toNatClampNeg 8))))).bind fun r5 => ck 8 149 (some (r5, ((mRow r5) (Int32.toNatClampNeg 8)))))))))) else ((fX5_fails N ((mRow v), (mSav v), (mSvn v), (mSnp v), (mKep v), 0, (mFre v), (mFrn v), (mBuf v), (mLen v), (mSpt v), (mNum v), (mOrd v), (mLet v), (mFst v), (mSnd v), (mTok v), (mLft v)) 2).bind fun r6 => some (r6.1, r6.2)))) else ((fX5_fails N ((mRow v), (mSav v), (mSvn v), (mSnp v), (mKep v), 0, (mFre v), (mFrn v), (mBuf v), (mLen v), (mSpt v), (mNum v), (mOrd v), (mLet v), (mFst v), (mSnd v), (mTok v), (mLft v)) 1).bind fun r7 => some (r7.1, r7.2))))
set_option maxRecDepth 100000 in
set_option maxHeartbeats 4000000 in
theorem wkX5_discard {k : Kt} (C : gC k cX5_discard 4 RX5 wsX5_discard rmX5_discard "discard") (N : Nat) (aM : Nat → Nat) (v : VM) (p1 : Int32) (r : VM × Int32) (hf : fX5_discard N v p1 = some r) (E : gE k (wM (kD k) aM v) (fun rv w => rv = some (.int r.2) ∧ w = (wM (kD k) aM r.1)) (fun _ _ => False) 0 0 (some .int) []) : gG k (wM (kD k) aM v) [(0, .ref (aM 0)), (1, .int p1)] 0 0 0 [] := by
  unfold fX5_discard at hf
  refine g_aload_n (pc := 0) (x := (aM 0)) C dX5_discard_0 rfl ?_
  refine g_iconst (pc := 1) (v := 0) C dX5_discard_1 (by decide) ?_
  refine g_putf (pc := 2) C 0 rfl rfl inX5_discard_X5 tyX5 tyX5_ok nmX5 5 (by decide) lkX5_discard_38 rfl rfl pfX5_5 rfl rfl (Nat.le_of_ble_eq_true rfl) dX5_discard_2 (ws' := (wM (kD k) aM ((mRow v), (mSav v), (mSvn v), (mSnp v), (mKep v), 0, (mFre v), (mFrn v), (mBuf v), (mLen v), (mSpt v), (mNum v), (mOrd v), (mLet v), (mFst v), (mSnd v), (mTok v), (mLft v)))) rfl ?_
  refine g_aload_n (pc := 5) (x := (aM 0)) C dX5_discard_5 rfl ?_
  refine g_iload_n (pc := 6) (x := p1) C dX5_discard_6 rfl ?_
  refine g_callR (pc' := 10) (cs' := 0) (sl' := 0) hf C (fun u => some (.int (b2i u))) (fun u hu => gr_V (rest := []) C (cX5_isBlock_ (kL k) C.tr (kD k) N aM ((mRow v), (mSav v), (mSvn v), (mSnp v), (mKep v), 0, (mFre v), (mFrn v), (mBuf v), (mLen v), (mSpt v), (mNum v), (mOrd v), (mLet v), (mFst v), (mSnd v), (mTok v), (mLft v)) p1 u hu) (fun ht => cwV 1 ht gX5_discard_X5_isBlock rfl rfl rfl hdX5_isBlock ⟨(Nat.le_of_ble_eq_true rfl), (Nat.le_of_ble_eq_true rfl)⟩) 0 rfl rfl [0, 1, 2, 3, 4, 5, 6, 7, 8, 9] rfl (by decide) rfl rfl (Nat.le_of_ble_eq_true rfl) dX5_discard_7 ⟨(Nat.le_of_ble_eq_true rfl), (Nat.le_of_ble_eq_true rfl)⟩) [0, 1, 2, 3, 4, 5, 6, 7, 8, 9] rfl rfl rfl rfl (fun u => [.int (b2i u)]) (fun u => rfl) (fun r1 hf => ?_)
  refine g_ifB_ne (pc := 10) (tgt := 19) (b := r1) hf C dX5_discard_10 (by decide) (fun hf => ?_) (fun hf => ?_)
  · refine g_aload_n (pc := 19) (x := (aM 0)) C dX5_discard_19 rfl ?_
    refine g_iload_n (pc := 20) (x := p1) C dX5_discard_20 rfl ?_
    refine g_callR (pc' := 24) (cs' := 0) (sl' := 0) hf C (fun u => some (.int (b2i u))) (fun u hu => gr_V (rest := []) C (cX5_isFree_ (kL k) C.tr (kD k) N aM ((mRow v), (mSav v), (mSvn v), (mSnp v), (mKep v), 0, (mFre v), (mFrn v), (mBuf v), (mLen v), (mSpt v), (mNum v), (mOrd v), (mLet v), (mFst v), (mSnd v), (mTok v), (mLft v)) p1 u hu) (fun ht => cwV 1 ht gX5_discard_X5_isFree rfl rfl rfl hdX5_isFree ⟨(Nat.le_of_ble_eq_true rfl), (Nat.le_of_ble_eq_true rfl)⟩) 0 rfl rfl [0, 1, 2, 3, 4, 5, 6, 7, 8, 9] rfl (by decide) rfl rfl (Nat.le_of_ble_eq_true rfl) dX5_discard_21 ⟨(Nat.le_of_ble_eq_true rfl), (Nat.le_of_ble_eq_true rfl)⟩) [0, 1, 2, 3, 4, 5, 6, 7, 8, 9] rfl rfl rfl rfl (fun u => [.int (b2i u)]) (fun u => rfl) (fun r2 hf => ?_)
    refine g_ifB_ne (pc := 24) (tgt := 33) (b := r2) hf C dX5_discard_24 (by decide) (fun hf => ?_) (fun hf => ?_)
    · refine g_aload_n (pc := 33) (x := (aM 0)) C dX5_discard_33 rfl ?_
      refine g_callW (wr := []) (pc' := 37) (cs' := 0) (sl' := 0) hf C (fun u => none) (fun u => (wM (kD k) aM u)) (fun u hu => gr_V (rest := []) C (cX5_save_ (kL k) C.tr (kD k) N aM ((mRow v), (mSav v), (mSvn v), (mSnp v), (mKep v), 0, (mFre v), (mFrn v), (mBuf v), (mLen v), (mSpt v), (mNum v), (mOrd v), (mLet v), (mFst v), (mSnd v), (mTok v), (mLft v)) u hu) (fun ht => cwV 0 ht gX5_discard_X5_save rfl rfl rfl hdX5_save ⟨(Nat.le_of_ble_eq_true rfl), (Nat.le_of_ble_eq_true rfl)⟩) 0 rfl rfl [0, 1, 2, 3, 4, 5, 6, 7, 8, 9] rfl (by decide) rfl rfl (Nat.le_of_ble_eq_true rfl) dX5_discard_34 ⟨(Nat.le_of_ble_eq_true rfl), (Nat.le_of_ble_eq_true rfl)⟩) [0, 1, 2, 3, 4, 5, 6, 7, 8, 9] [] rfl rfl (by decide) (by decide) [0, 1, 2, 3, 4, 5, 6, 7, 8, 9] (by decide) (ws' := fun u => (wM (kD k) aM u)) (fun u => rfl) rfl rfl rfl (fun u => []) (fun u => rfl) (fun r3 hf => ?_)
      refine g_aload_n (pc := 37) (x := (aM 0)) C dX5_discard_37 rfl ?_
      refine g_getf (pc := 38) C 0 rfl rfl inX5_discard_X5 0 (by decide) lkX5_discard_7 rfl rfl dX5_discard_38 ?_
      refine g_bipush (pc := 41) (v := 8) C dX5_discard_41 (by decide) ?_
      refine g_dup2 (pc := 43) C dX5_discard_43 rfl rfl ?_
      refine g_iald (pc := 44) (i := 8) hf C 1 rfl dX5_discard_44 (fun hf => ?_)
      refine g_iconst (pc := 45) (v := 1) C dX5_discard_45 (by decide) ?_
      refine g_isub (pc := 46) (x := ((mRow r3) (Int32.toNatClampNeg 8))) (y := 1) C dX5_discard_46 ?_
      refine g_iast (pc := 47) (i := 8) (x := (((mRow r3) (Int32.toNatClampNeg 8)) - 1)) hf C 1 rfl dX5_discard_47 (ws' := (wM (kD k) aM ((upd (mRow r3) (Int32.toNatClampNeg 8) (((mRow r3) (Int32.toNatClampNeg 8)) - 1)), (mSav r3), (mSvn r3), (mSnp r3), (mKep r3), (mThr r3), (mFre r3), (mFrn r3), (mBuf r3), (mLen r3), (mSpt r3), (mNum r3), (mOrd r3), (mLet r3), (mFst r3), (mSnd r3), (mTok r3), (mLft r3)))) rfl (fun hf => ?_)
      refine g_bipush (pc := 48) (v := 9) C dX5_discard_48 (by decide) ?_
      refine g_bipush (pc := 50) (v := 7) C dX5_discard_50 (by decide) ?_
      refine g_aload_n (pc := 52) (x := (aM 0)) C dX5_discard_52 rfl ?_
      refine g_getf (pc := 53) C 0 rfl rfl inX5_discard_X5 0 (by decide) lkX5_discard_7 rfl rfl dX5_discard_53 ?_
      refine g_bipush (pc := 56) (v := 8) C dX5_discard_56 (by decide) ?_
      refine g_iald (pc := 58) (i := 8) hf C 1 rfl dX5_discard_58 (fun hf => ?_)
      refine g_imul (pc := 59) (x := 7) (y := ((upd (mRow r3) (Int32.toNatClampNeg 8) (((mRow r3) (Int32.toNatClampNeg 8)) - 1)) (Int32.toNatClampNeg 8))) C dX5_discard_59 ?_
      refine g_iadd (pc := 60) (x := 9) (y := (7 * ((upd (mRow r3) (Int32.toNatClampNeg 8) (((mRow r3) (Int32.toNatClampNeg 8)) - 1)) (Int32.toNatClampNeg 8)))) C dX5_discard_60 ?_
      refine g_istore_n (pc := 61) (lv' := [(2, .int (9 + (7 * ((upd (mRow r3) (Int32.toNatClampNeg 8) (((mRow r3) (Int32.toNatClampNeg 8)) - 1)) (Int32.toNatClampNeg 8))))), (0, .ref (aM 0)), (1, .int p1)]) C dX5_discard_61 (by decide) rfl ?_
      refine g_bipush (pc := 62) (v := 9) C dX5_discard_62 (by decide) ?_
      refine g_bipush (pc := 64) (v := 7) C dX5_discard_64 (by decide) ?_
      refine g_iload_n (pc := 66) (x := p1) C dX5_discard_66 rfl ?_
      refine g_imul (pc := 67) (x := 7) (y := p1) C dX5_discard_67 ?_
      refine g_iadd (pc := 68) (x := 9) (y := (7 * p1)) C dX5_discard_68 ?_
      refine g_istore_n (pc := 69) (lv' := [(3, .int (9 + (7 * p1))), (2, .int (9 + (7 * ((upd (mRow r3) (Int32.toNatClampNeg 8) (((mRow r3) (Int32.toNatClampNeg 8)) - 1)) (Int32.toNatClampNeg 8))))), (0, .ref (aM 0)), (1, .int p1)]) C dX5_discard_69 (by decide) rfl ?_
      obtain ⟨r4, h4, hf⟩ := bd_e hf
      refine g_lv [2, 1, 0] (lv' := [(0, .ref (aM 0)), (2, .int (9 + (7 * ((upd (mRow r3) (Int32.toNatClampNeg 8) (((mRow r3) (Int32.toNatClampNeg 8)) - 1)) (Int32.toNatClampNeg 8))))), (3, .int (9 + (7 * p1)))]) rfl ?_
      refine wlX5_discard_70 C N aM (9 + (7 * ((upd (mRow r3) (Int32.toNatClampNeg 8) (((mRow r3) (Int32.toNatClampNeg 8)) - 1)) (Int32.toNatClampNeg 8)))) N ((upd (mRow r3) (Int32.toNatClampNeg 8) (((mRow r3) (Int32.toNatClampNeg 8)) - 1)), (mSav r3), (mSvn r3), (mSnp r3), (mKep r3), (mThr r3), (mFre r3), (mFrn r3), (mBuf r3), (mLen r3), (mSpt r3), (mNum r3), (mOrd r3), (mLet r3), (mFst r3), (mSnd r3), (mTok r3), (mLft r3)) (9 + (7 * p1)) r4 h4 ?_
      refine g_iload_n (pc := 96) (x := (9 + (7 * ((upd (mRow r3) (Int32.toNatClampNeg 8) (((mRow r3) (Int32.toNatClampNeg 8)) - 1)) (Int32.toNatClampNeg 8))))) C dX5_discard_96 rfl ?_
      refine g_istore_n (pc := 97) (lv' := [(3, .int (9 + (7 * ((upd (mRow r3) (Int32.toNatClampNeg 8) (((mRow r3) (Int32.toNatClampNeg 8)) - 1)) (Int32.toNatClampNeg 8))))), (0, .ref (aM 0)), (2, .int (9 + (7 * ((upd (mRow r3) (Int32.toNatClampNeg 8) (((mRow r3) (Int32.toNatClampNeg 8)) - 1)) (Int32.toNatClampNeg 8)))))]) C dX5_discard_97 (by decide) rfl ?_
      obtain ⟨r5, h5, hf⟩ := bd_e hf
      refine g_lv [1, 2, 0] (lv' := [(0, .ref (aM 0)), (2, .int (9 + (7 * ((upd (mRow r3) (Int32.toNatClampNeg 8) (((mRow r3) (Int32.toNatClampNeg 8)) - 1)) (Int32.toNatClampNeg 8))))), (3, .int (9 + (7 * ((upd (mRow r3) (Int32.toNatClampNeg 8) (((mRow r3) (Int32.toNatClampNeg 8)) - 1)) (Int32.toNatClampNeg 8)))))]) rfl ?_
      refine wlX5_discard_98 C N aM (9 + (7 * ((upd (mRow r3) (Int32.toNatClampNeg 8) (((mRow r3) (Int32.toNatClampNeg 8)) - 1)) (Int32.toNatClampNeg 8)))) N r4 (9 + (7 * ((upd (mRow r3) (Int32.toNatClampNeg 8) (((mRow r3) (Int32.toNatClampNeg 8)) - 1)) (Int32.toNatClampNeg 8)))) r5 h5 ?_
      refine g_aload_n (pc := 119) (x := (aM 0)) C dX5_discard_119 rfl ?_
      refine g_getf (pc := 120) C 0 rfl rfl inX5_discard_X5 0 (by decide) lkX5_discard_7 rfl rfl dX5_discard_120 ?_
      refine g_bipush (pc := 123) (v := 8) C dX5_discard_123 (by decide) ?_
      refine g_iald (pc := 125) (i := 8) hf C 1 rfl dX5_discard_125 (fun hf => ?_)
      obtain rfl := Option.some.inj hf
      exact g_iret (v := ((mRow r5) (Int32.toNatClampNeg 8))) C E dX5_discard_126 (Nat.le_of_ble_eq_true rfl) (Nat.le_of_ble_eq_true rfl) ⟨rfl, rfl⟩
    · refine g_aload_n (pc := 27) (x := (aM 0)) C dX5_discard_27 rfl ?_
      refine g_iconst (pc := 28) (v := 2) C dX5_discard_28 (by decide) ?_
      refine g_callW (wr := []) (pc' := 32) (cs' := 0) (sl' := 0) hf C (fun u => some (.int u.2)) (fun u => (wM (kD k) aM u.1)) (fun u hu => gr_V (rest := []) C (cX5_fails_ (kL k) C.tr (kD k) N aM ((mRow v), (mSav v), (mSvn v), (mSnp v), (mKep v), 0, (mFre v), (mFrn v), (mBuf v), (mLen v), (mSpt v), (mNum v), (mOrd v), (mLet v), (mFst v), (mSnd v), (mTok v), (mLft v)) 2 u hu) (fun ht => cwV 1 ht gX5_discard_X5_fails rfl rfl rfl hdX5_fails ⟨(Nat.le_of_ble_eq_true rfl), (Nat.le_of_ble_eq_true rfl)⟩) 0 rfl rfl [0, 1, 2, 3, 4, 5, 6, 7, 8, 9] rfl (by decide) rfl rfl (Nat.le_of_ble_eq_true rfl) dX5_discard_29 ⟨(Nat.le_of_ble_eq_true rfl), (Nat.le_of_ble_eq_true rfl)⟩) [0, 1, 2, 3, 4, 5, 6, 7, 8, 9] [] rfl rfl (by decide) (by decide) [0, 1, 2, 3, 4, 5, 6, 7, 8, 9] (by decide) (ws' := fun u => (wM (kD k) aM u.1)) (fun u => rfl) rfl rfl rfl (fun u => [.int u.2]) (fun u => rfl) (fun r6 hf => ?_)
      obtain rfl := Option.some.inj hf
      exact g_iret (v := r6.2) C E dX5_discard_32 (Nat.le_of_ble_eq_true rfl) (Nat.le_of_ble_eq_true rfl) ⟨rfl, rfl⟩
  · refine g_aload_n (pc := 13) (x := (aM 0)) C dX5_discard_13 rfl ?_
    refine g_iconst (pc := 14) (v := 1) C dX5_discard_14 (by decide) ?_
    refine g_callW (wr := []) (pc' := 18) (cs' := 0) (sl' := 0) hf C (fun u => some (.int u.2)) (fun u => (wM (kD k) aM u.1)) (fun u hu => gr_V (rest := []) C (cX5_fails_ (kL k) C.tr (kD k) N aM ((mRow v), (mSav v), (mSvn v), (mSnp v), (mKep v), 0, (mFre v), (mFrn v), (mBuf v), (mLen v), (mSpt v), (mNum v), (mOrd v), (mLet v), (mFst v), (mSnd v), (mTok v), (mLft v)) 1 u hu) (fun ht => cwV 1 ht gX5_discard_X5_fails rfl rfl rfl hdX5_fails ⟨(Nat.le_of_ble_eq_true rfl), (Nat.le_of_ble_eq_true rfl)⟩) 0 rfl rfl [0, 1, 2, 3, 4, 5, 6, 7, 8, 9] rfl (by decide) rfl rfl (Nat.le_of_ble_eq_true rfl) dX5_discard_15 ⟨(Nat.le_of_ble_eq_true rfl), (Nat.le_of_ble_eq_true rfl)⟩) [0, 1, 2, 3, 4, 5, 6, 7, 8, 9] [] rfl rfl (by decide) (by decide) [0, 1, 2, 3, 4, 5, 6, 7, 8, 9] (by decide) (ws' := fun u => (wM (kD k) aM u.1)) (fun u => rfl) rfl rfl rfl (fun u => [.int u.2]) (fun u => rfl) (fun r7 hf => ?_)
    obtain rfl := Option.some.inj hf
    exact g_iret (v := r7.2) C E dX5_discard_18 (Nat.le_of_ble_eq_true rfl) (Nat.le_of_ble_eq_true rfl) ⟨rfl, rfl⟩
set_option maxRecDepth 100000 in
set_option maxHeartbeats 4000000 in
theorem cX5_discard_ (l : Launch) (htr : l.stackTraces = false) (D : va_G) (N : Nat) (aM : Nat → Nat) (v : VM) (p1 : Int32) (r : VM × Int32) (hf : fX5_discard N v p1 = some r) : Tc l D yX5_discard wsX5_discard rmX5_discard [.ref (aM 0), .int p1] (wM D aM v) (fun rv w => rv = some (.int r.2) ∧ w = (wM D aM r.1)) (fun _ _ => False) 0 0 := Tc_of htr (by decide +kernel) rfl (Nat.le_of_ble_eq_true rfl) (fun k C E hl hD => by subst hD; exact wkX5_discard C N aM v p1 r hf E)
abbrev rmX5_calibrate : Room := { frames := 3, cells := 0, slots := 0, locals := 65 }
theorem inX5_calibrate_X5 : ∀ w ∈ wsX50, w ∈ wsX5_calibrate := by decide +kernel
theorem lkX5_calibrate_38 : Cond.fieldLink RX5 38 "GaugeBlocksModel" (TX5 5).2.1 (TX5 5).2.2.1 ∈ wsX5_calibrate := by decide +kernel
theorem hdX5_calibrate : yX5_calibrate.cls = RX5 ∧ yX5_calibrate.cls ≠ "java/lang/invoke/MethodHandle" ∧ yX5_calibrate.cls ≠ "java/lang/invoke/VarHandle" ∧ (parseMethodDescriptor yX5_calibrate.desc).map (fun d => d.parameters.length) = some 1 := by decide +kernel
def fX5_calibrate (N : Nat) (v : VM) (p1 : Int32) : Option (VM × Int32) := ((fX5_isBlock N ((mRow v), (mSav v), (mSvn v), (mSnp v), (mKep v), 0, (mFre v), (mFrn v), (mBuf v), (mLen v), (mSpt v), (mNum v), (mOrd v), (mLet v), (mFst v), (mSnd v), (mTok v), (mLft v)) p1).bind fun r1 => (if r1 = true then ((fX5_isFree N ((mRow v), (mSav v), (mSvn v), (mSnp v), (mKep v), 0, (mFre v), (mFrn v), (mBuf v), (mLen v), (mSpt v), (mNum v), (mOrd v), (mLet v), (mFst v), (mSnd v), (mTok v), (mLft v)) p1).bind fun r2 => (if r2 = true then ((fX5_save N ((mRow v), (mSav v), (mSvn v), (mSnp v), (mKep v), 0, (mFre v), (mFrn v), (mBuf v), (mLen v), (mSpt v), (mNum v), (mOrd v), (mLet v), (mFst v), (mSnd v), (mTok v), (mLft v))).bind fun r3 => ((fX5_error N r3 p1).bind fun r4 => (if ((-900) : Int32) ≤ r4 then ((fX5_error N r3 p1).bind fun r5 => ((fX5_put N r3 p1 1 r5).bind fun r6 => ((fX5_put N r6 p1 2 0).bind fun r7 => ((fX5_grade N r7 p1).bind fun r8 => some (r7, r8))))) else ((fX5_put N r3 p1 1 (-900)).bind fun r9 => ((fX5_put N r9 p1 2 0).bind fun r10 => ((fX5_grade N r10 p1).bind fun r11 => some (r10, r11))))))) else ((fX5_fails N ((mRow v), (mSav v), (mSvn v), (mSnp v), (mKep v), 0, (mFre v), (mFrn v), (mBuf v), (mLen v), (mSpt v), (mNum v), (mOrd v), (mLet v), (mFst v), (mSnd v), (mTok v), (mLft v)) 2).bind fun r12 => some (r12.1, r12.2)))) else ((fX5_fails N ((mRow v), (mSav v), (mSvn v), (mSnp v), (mKep v), 0, (mFre v), (mFrn v), (mBuf v), (mLen v), (mSpt v), (mNum v), (mOrd v), (mLet v), (mFst v), (mSnd v), (mTok v), (mLft v)) 1).bind fun r13 => some (r13.1, r13.2))))
set_option maxRecDepth 100000 in
set_option maxHeartbeats 4000000 in
theorem wkX5_calibrate {k : Kt} (C : gC k cX5_calibrate 2 RX5 wsX5_calibrate rmX5_calibrate "calibrate") (N : Nat) (aM : Nat → Nat) (v : VM) (p1 : Int32) (r : VM × Int32) (hf : fX5_calibrate N v p1 = some r) (E : gE k (wM (kD k) aM v) (fun rv w => rv = some (.int r.2) ∧ w = (wM (kD k) aM r.1)) (fun _ _ => False) 0 0 (some .int) []) : gG k (wM (kD k) aM v) [(0, .ref (aM 0)), (1, .int p1)] 0 0 0 [] := by
  unfold fX5_calibrate at hf
  refine g_aload_n (pc := 0) (x := (aM 0)) C dX5_calibrate_0 rfl ?_
  refine g_iconst (pc := 1) (v := 0) C dX5_calibrate_1 (by decide) ?_
  refine g_putf (pc := 2) C 0 rfl rfl inX5_calibrate_X5 tyX5 tyX5_ok nmX5 5 (by decide) lkX5_calibrate_38 rfl rfl pfX5_5 rfl rfl (Nat.le_of_ble_eq_true rfl) dX5_calibrate_2 (ws' := (wM (kD k) aM ((mRow v), (mSav v), (mSvn v), (mSnp v), (mKep v), 0, (mFre v), (mFrn v), (mBuf v), (mLen v), (mSpt v), (mNum v), (mOrd v), (mLet v), (mFst v), (mSnd v), (mTok v), (mLft v)))) rfl ?_
  refine g_aload_n (pc := 5) (x := (aM 0)) C dX5_calibrate_5 rfl ?_
  refine g_iload_n (pc := 6) (x := p1) C dX5_calibrate_6 rfl ?_
  refine g_callR (pc' := 10) (cs' := 0) (sl' := 0) hf C (fun u => some (.int (b2i u))) (fun u hu => gr_V (rest := []) C (cX5_isBlock_ (kL k) C.tr (kD k) N aM ((mRow v), (mSav v), (mSvn v), (mSnp v), (mKep v), 0, (mFre v), (mFrn v), (mBuf v), (mLen v), (mSpt v), (mNum v), (mOrd v), (mLet v), (mFst v), (mSnd v), (mTok v), (mLft v)) p1 u hu) (fun ht => cwV 1 ht gX5_calibrate_X5_isBlock rfl rfl rfl hdX5_isBlock ⟨(Nat.le_of_ble_eq_true rfl), (Nat.le_of_ble_eq_true rfl)⟩) 0 rfl rfl [0, 1, 2, 3, 4, 5, 6, 7, 8, 9] rfl (by decide) rfl rfl (Nat.le_of_ble_eq_true rfl) dX5_calibrate_7 ⟨(Nat.le_of_ble_eq_true rfl), (Nat.le_of_ble_eq_true rfl)⟩) [0, 1, 2, 3, 4, 5, 6, 7, 8, 9] rfl rfl rfl rfl (fun u => [.int (b2i u)]) (fun u => rfl) (fun r1 hf => ?_)
  refine g_ifB_ne (pc := 10) (tgt := 19) (b := r1) hf C dX5_calibrate_10 (by decide) (fun hf => ?_) (fun hf => ?_)
  · refine g_aload_n (pc := 19) (x := (aM 0)) C dX5_calibrate_19 rfl ?_
    refine g_iload_n (pc := 20) (x := p1) C dX5_calibrate_20 rfl ?_
    refine g_callR (pc' := 24) (cs' := 0) (sl' := 0) hf C (fun u => some (.int (b2i u))) (fun u hu => gr_V (rest := []) C (cX5_isFree_ (kL k) C.tr (kD k) N aM ((mRow v), (mSav v), (mSvn v), (mSnp v), (mKep v), 0, (mFre v), (mFrn v), (mBuf v), (mLen v), (mSpt v), (mNum v), (mOrd v), (mLet v), (mFst v), (mSnd v), (mTok v), (mLft v)) p1 u hu) (fun ht => cwV 1 ht gX5_calibrate_X5_isFree rfl rfl rfl hdX5_isFree ⟨(Nat.le_of_ble_eq_true rfl), (Nat.le_of_ble_eq_true rfl)⟩) 0 rfl rfl [0, 1, 2, 3, 4, 5, 6, 7, 8, 9] rfl (by decide) rfl rfl (Nat.le_of_ble_eq_true rfl) dX5_calibrate_21 ⟨(Nat.le_of_ble_eq_true rfl), (Nat.le_of_ble_eq_true rfl)⟩) [0, 1, 2, 3, 4, 5, 6, 7, 8, 9] rfl rfl rfl rfl (fun u => [.int (b2i u)]) (fun u => rfl) (fun r2 hf => ?_)
    refine g_ifB_ne (pc := 24) (tgt := 33) (b := r2) hf C dX5_calibrate_24 (by decide) (fun hf => ?_) (fun hf => ?_)
    · refine g_aload_n (pc := 33) (x := (aM 0)) C dX5_calibrate_33 rfl ?_
      refine g_callW (wr := []) (pc' := 37) (cs' := 0) (sl' := 0) hf C (fun u => none) (fun u => (wM (kD k) aM u)) (fun u hu => gr_V (rest := []) C (cX5_save_ (kL k) C.tr (kD k) N aM ((mRow v), (mSav v), (mSvn v), (mSnp v), (mKep v), 0, (mFre v), (mFrn v), (mBuf v), (mLen v), (mSpt v), (mNum v), (mOrd v), (mLet v), (mFst v), (mSnd v), (mTok v), (mLft v)) u hu) (fun ht => cwV 0 ht gX5_calibrate_X5_save rfl rfl rfl hdX5_save ⟨(Nat.le_of_ble_eq_true rfl), (Nat.le_of_ble_eq_true rfl)⟩) 0 rfl rfl [0, 1, 2, 3, 4, 5, 6, 7, 8, 9] rfl (by decide) rfl rfl (Nat.le_of_ble_eq_true rfl) dX5_calibrate_34 ⟨(Nat.le_of_ble_eq_true rfl), (Nat.le_of_ble_eq_true rfl)⟩) [0, 1, 2, 3, 4, 5, 6, 7, 8, 9] [] rfl rfl (by decide) (by decide) [0, 1, 2, 3, 4, 5, 6, 7, 8, 9] (by decide) (ws' := fun u => (wM (kD k) aM u)) (fun u => rfl) rfl rfl rfl (fun u => []) (fun u => rfl) (fun r3 hf => ?_)
      refine g_aload_n (pc := 37) (x := (aM 0)) C dX5_calibrate_37 rfl ?_
      refine g_iload_n (pc := 38) (x := p1) C dX5_calibrate_38 rfl ?_
      refine g_iconst (pc := 39) (v := 1) C dX5_calibrate_39 (by decide) ?_
      refine g_aload_n (pc := 40) (x := (aM 0)) C dX5_calibrate_40 rfl ?_
      refine g_iload_n (pc := 41) (x := p1) C dX5_calibrate_41 rfl ?_
      refine g_callR (pc' := 45) (cs' := 0) (sl' := 0) hf C (fun u => some (.int u)) (fun u hu => gr_V (rest := [.int 1, .int p1, .ref (aM 0)]) C (cX5_error_ (kL k) C.tr (kD k) N aM r3 p1 u hu) (fun ht => cwV 1 ht gX5_calibrate_X5_error rfl rfl rfl hdX5_error ⟨(Nat.le_of_ble_eq_true rfl), (Nat.le_of_ble_eq_true rfl)⟩) 0 rfl rfl [0, 1, 2, 3, 4, 5, 6, 7, 8, 9] rfl (by decide) rfl rfl (Nat.le_of_ble_eq_true rfl) dX5_calibrate_42 ⟨(Nat.le_of_ble_eq_true rfl), (Nat.le_of_ble_eq_true rfl)⟩) [0, 1, 2, 3, 4, 5, 6, 7, 8, 9] rfl rfl rfl rfl (fun u => [.int u, .int 1, .int p1, .ref (aM 0)]) (fun u => rfl) (fun r4 hf => ?_)
      refine g_sipush (pc := 45) (v := (-900)) C dX5_calibrate_45 (by decide) ?_
      refine g_icmp_ge (pc := 48) (tgt := 57) (x := r4) (y := (-900)) hf C dX5_calibrate_48 (by decide) (fun hf => ?_) (fun hf => ?_)
      · refine g_aload_n (pc := 57) (x := (aM 0)) C dX5_calibrate_57 rfl ?_
        refine g_iload_n (pc := 58) (x := p1) C dX5_calibrate_58 rfl ?_
        refine g_callR (pc' := 62) (cs' := 0) (sl' := 0) hf C (fun u => some (.int u)) (fun u hu => gr_V (rest := [.int 1, .int p1, .ref (aM 0)]) C (cX5_error_ (kL k) C.tr (kD k) N aM r3 p1 u hu) (fun ht => cwV 1 ht gX5_calibrate_X5_error rfl rfl rfl hdX5_error ⟨(Nat.le_of_ble_eq_true rfl), (Nat.le_of_ble_eq_true rfl)⟩) 0 rfl rfl [0, 1, 2, 3, 4, 5, 6, 7, 8, 9] rfl (by decide) rfl rfl (Nat.le_of_ble_eq_true rfl) dX5_calibrate_59 ⟨(Nat.le_of_ble_eq_true rfl), (Nat.le_of_ble_eq_true rfl)⟩) [0, 1, 2, 3, 4, 5, 6, 7, 8, 9] rfl rfl rfl rfl (fun u => [.int u, .int 1, .int p1, .ref (aM 0)]) (fun u => rfl) (fun r5 hf => ?_)
        refine g_callW (wr := []) (pc' := 65) (cs' := 0) (sl' := 0) hf C (fun u => none) (fun u => (wM (kD k) aM u)) (fun u hu => gr_V (rest := []) C (cX5_put_ (kL k) C.tr (kD k) N aM r3 p1 1 r5 u hu) (fun ht => cwV 3 ht gX5_calibrate_X5_put rfl rfl rfl hdX5_put ⟨(Nat.le_of_ble_eq_true rfl), (Nat.le_of_ble_eq_true rfl)⟩) 0 rfl rfl [0, 1, 2, 3, 4, 5, 6, 7, 8, 9] rfl (by decide) rfl rfl (Nat.le_of_ble_eq_true rfl) dX5_calibrate_62 ⟨(Nat.le_of_ble_eq_true rfl), (Nat.le_of_ble_eq_true rfl)⟩) [0, 1, 2, 3, 4, 5, 6, 7, 8, 9] [] rfl rfl (by decide) (by decide) [0, 1, 2, 3, 4, 5, 6, 7, 8, 9] (by decide) (ws' := fun u => (wM (kD k) aM u)) (fun u => rfl) rfl rfl rfl (fun u => []) (fun u => rfl) (fun r6 hf => ?_)
        refine g_aload_n (pc := 65) (x := (aM 0)) C dX5_calibrate_65 rfl ?_
        refine g_iload_n (pc := 66) (x := p1) C dX5_calibrate_66 rfl ?_
        refine g_iconst (pc := 67) (v := 2) C dX5_calibrate_67 (by decide) ?_
        refine g_iconst (pc := 68) (v := 0) C dX5_calibrate_68 (by decide) ?_
        refine g_callW (wr := []) (pc' := 72) (cs' := 0) (sl' := 0) hf C (fun u => none) (fun u => (wM (kD k) aM u)) (fun u hu => gr_V (rest := []) C (cX5_put_ (kL k) C.tr (kD k) N aM r6 p1 2 0 u hu) (fun ht => cwV 3 ht gX5_calibrate_X5_put rfl rfl rfl hdX5_put ⟨(Nat.le_of_ble_eq_true rfl), (Nat.le_of_ble_eq_true rfl)⟩) 0 rfl rfl [0, 1, 2, 3, 4, 5, 6, 7, 8, 9] rfl (by decide) rfl rfl (Nat.le_of_ble_eq_true rfl) dX5_calibrate_69 ⟨(Nat.le_of_ble_eq_true rfl), (Nat.le_of_ble_eq_true rfl)⟩) [0, 1, 2, 3, 4, 5, 6, 7, 8, 9] [] rfl rfl (by decide) (by decide) [0, 1, 2, 3, 4, 5, 6, 7, 8, 9] (by decide) (ws' := fun u => (wM (kD k) aM u)) (fun u => rfl) rfl rfl rfl (fun u => []) (fun u => rfl) (fun r7 hf => ?_)
        refine g_aload_n (pc := 72) (x := (aM 0)) C dX5_calibrate_72 rfl ?_
        refine g_iload_n (pc := 73) (x := p1) C dX5_calibrate_73 rfl ?_
        refine g_callR (pc' := 77) (cs' := 0) (sl' := 0) hf C (fun u => some (.int u)) (fun u hu => gr_V (rest := []) C (cX5_grade_ (kL k) C.tr (kD k) N aM r7 p1 u hu) (fun ht => cwV 1 ht gX5_calibrate_X5_grade rfl rfl rfl hdX5_grade ⟨(Nat.le_of_ble_eq_true rfl), (Nat.le_of_ble_eq_true rfl)⟩) 0 rfl rfl [0, 1, 2, 3, 4, 5, 6, 7, 8, 9] rfl (by decide) rfl rfl (Nat.le_of_ble_eq_true rfl) dX5_calibrate_74 ⟨(Nat.le_of_ble_eq_true rfl), (Nat.le_of_ble_eq_true rfl)⟩) [0, 1, 2, 3, 4, 5, 6, 7, 8, 9] rfl rfl rfl rfl (fun u => [.int u]) (fun u => rfl) (fun r8 hf => ?_)
        obtain rfl := Option.some.inj hf
        exact g_iret (v := r8) C E dX5_calibrate_77 (Nat.le_of_ble_eq_true rfl) (Nat.le_of_ble_eq_true rfl) ⟨rfl, rfl⟩
      · refine g_sipush (pc := 51) (v := (-900)) C dX5_calibrate_51 (by decide) ?_
        refine g_goto (pc := 54) (tgt := 62) C dX5_calibrate_54 (by decide) ?_
        refine g_callW (wr := []) (pc' := 65) (cs' := 0) (sl' := 0) hf C (fun u => none) (fun u => (wM (kD k) aM u)) (fun u hu => gr_V (rest := []) C (cX5_put_ (kL k) C.tr (kD k) N aM r3 p1 1 (-900) u hu) (fun ht => cwV 3 ht gX5_calibrate_X5_put rfl rfl rfl hdX5_put ⟨(Nat.le_of_ble_eq_true rfl), (Nat.le_of_ble_eq_true rfl)⟩) 0 rfl rfl [0, 1, 2, 3, 4, 5, 6, 7, 8, 9] rfl (by decide) rfl rfl (Nat.le_of_ble_eq_true rfl) dX5_calibrate_62 ⟨(Nat.le_of_ble_eq_true rfl), (Nat.le_of_ble_eq_true rfl)⟩) [0, 1, 2, 3, 4, 5, 6, 7, 8, 9] [] rfl rfl (by decide) (by decide) [0, 1, 2, 3, 4, 5, 6, 7, 8, 9] (by decide) (ws' := fun u => (wM (kD k) aM u)) (fun u => rfl) rfl rfl rfl (fun u => []) (fun u => rfl) (fun r9 hf => ?_)
        refine g_aload_n (pc := 65) (x := (aM 0)) C dX5_calibrate_65 rfl ?_
        refine g_iload_n (pc := 66) (x := p1) C dX5_calibrate_66 rfl ?_
        refine g_iconst (pc := 67) (v := 2) C dX5_calibrate_67 (by decide) ?_
        refine g_iconst (pc := 68) (v := 0) C dX5_calibrate_68 (by decide) ?_
        refine g_callW (wr := []) (pc' := 72) (cs' := 0) (sl' := 0) hf C (fun u => none) (fun u => (wM (kD k) aM u)) (fun u hu => gr_V (rest := []) C (cX5_put_ (kL k) C.tr (kD k) N aM r9 p1 2 0 u hu) (fun ht => cwV 3 ht gX5_calibrate_X5_put rfl rfl rfl hdX5_put ⟨(Nat.le_of_ble_eq_true rfl), (Nat.le_of_ble_eq_true rfl)⟩) 0 rfl rfl [0, 1, 2, 3, 4, 5, 6, 7, 8, 9] rfl (by decide) rfl rfl (Nat.le_of_ble_eq_true rfl) dX5_calibrate_69 ⟨(Nat.le_of_ble_eq_true rfl), (Nat.le_of_ble_eq_true rfl)⟩) [0, 1, 2, 3, 4, 5, 6, 7, 8, 9] [] rfl rfl (by decide) (by decide) [0, 1, 2, 3, 4, 5, 6, 7, 8, 9] (by decide) (ws' := fun u => (wM (kD k) aM u)) (fun u => rfl) rfl rfl rfl (fun u => []) (fun u => rfl) (fun r10 hf => ?_)
        refine g_aload_n (pc := 72) (x := (aM 0)) C dX5_calibrate_72 rfl ?_
        refine g_iload_n (pc := 73) (x := p1) C dX5_calibrate_73 rfl ?_
        refine g_callR (pc' := 77) (cs' := 0) (sl' := 0) hf C (fun u => some (.int u)) (fun u hu => gr_V (rest := []) C (cX5_grade_ (kL k) C.tr (kD k) N aM r10 p1 u hu) (fun ht => cwV 1 ht gX5_calibrate_X5_grade rfl rfl rfl hdX5_grade ⟨(Nat.le_of_ble_eq_true rfl), (Nat.le_of_ble_eq_true rfl)⟩) 0 rfl rfl [0, 1, 2, 3, 4, 5, 6, 7, 8, 9] rfl (by decide) rfl rfl (Nat.le_of_ble_eq_true rfl) dX5_calibrate_74 ⟨(Nat.le_of_ble_eq_true rfl), (Nat.le_of_ble_eq_true rfl)⟩) [0, 1, 2, 3, 4, 5, 6, 7, 8, 9] rfl rfl rfl rfl (fun u => [.int u]) (fun u => rfl) (fun r11 hf => ?_)
        obtain rfl := Option.some.inj hf
        exact g_iret (v := r11) C E dX5_calibrate_77 (Nat.le_of_ble_eq_true rfl) (Nat.le_of_ble_eq_true rfl) ⟨rfl, rfl⟩
    · refine g_aload_n (pc := 27) (x := (aM 0)) C dX5_calibrate_27 rfl ?_
      refine g_iconst (pc := 28) (v := 2) C dX5_calibrate_28 (by decide) ?_
      refine g_callW (wr := []) (pc' := 32) (cs' := 0) (sl' := 0) hf C (fun u => some (.int u.2)) (fun u => (wM (kD k) aM u.1)) (fun u hu => gr_V (rest := []) C (cX5_fails_ (kL k) C.tr (kD k) N aM ((mRow v), (mSav v), (mSvn v), (mSnp v), (mKep v), 0, (mFre v), (mFrn v), (mBuf v), (mLen v), (mSpt v), (mNum v), (mOrd v), (mLet v), (mFst v), (mSnd v), (mTok v), (mLft v)) 2 u hu) (fun ht => cwV 1 ht gX5_calibrate_X5_fails rfl rfl rfl hdX5_fails ⟨(Nat.le_of_ble_eq_true rfl), (Nat.le_of_ble_eq_true rfl)⟩) 0 rfl rfl [0, 1, 2, 3, 4, 5, 6, 7, 8, 9] rfl (by decide) rfl rfl (Nat.le_of_ble_eq_true rfl) dX5_calibrate_29 ⟨(Nat.le_of_ble_eq_true rfl), (Nat.le_of_ble_eq_true rfl)⟩) [0, 1, 2, 3, 4, 5, 6, 7, 8, 9] [] rfl rfl (by decide) (by decide) [0, 1, 2, 3, 4, 5, 6, 7, 8, 9] (by decide) (ws' := fun u => (wM (kD k) aM u.1)) (fun u => rfl) rfl rfl rfl (fun u => [.int u.2]) (fun u => rfl) (fun r12 hf => ?_)
      obtain rfl := Option.some.inj hf
      exact g_iret (v := r12.2) C E dX5_calibrate_32 (Nat.le_of_ble_eq_true rfl) (Nat.le_of_ble_eq_true rfl) ⟨rfl, rfl⟩
  · refine g_aload_n (pc := 13) (x := (aM 0)) C dX5_calibrate_13 rfl ?_
    refine g_iconst (pc := 14) (v := 1) C dX5_calibrate_14 (by decide) ?_
    refine g_callW (wr := []) (pc' := 18) (cs' := 0) (sl' := 0) hf C (fun u => some (.int u.2)) (fun u => (wM (kD k) aM u.1)) (fun u hu => gr_V (rest := []) C (cX5_fails_ (kL k) C.tr (kD k) N aM ((mRow v), (mSav v), (mSvn v), (mSnp v), (mKep v), 0, (mFre v), (mFrn v), (mBuf v), (mLen v), (mSpt v), (mNum v), (mOrd v), (mLet v), (mFst v), (mSnd v), (mTok v), (mLft v)) 1 u hu) (fun ht => cwV 1 ht gX5_calibrate_X5_fails rfl rfl rfl hdX5_fails ⟨(Nat.le_of_ble_eq_true rfl), (Nat.le_of_ble_eq_true rfl)⟩) 0 rfl rfl [0, 1, 2, 3, 4, 5, 6, 7, 8, 9] rfl (by decide) rfl rfl (Nat.le_of_ble_eq_true rfl) dX5_calibrate_15 ⟨(Nat.le_of_ble_eq_true rfl), (Nat.le_of_ble_eq_true rfl)⟩) [0, 1, 2, 3, 4, 5, 6, 7, 8, 9] [] rfl rfl (by decide) (by decide) [0, 1, 2, 3, 4, 5, 6, 7, 8, 9] (by decide) (ws' := fun u => (wM (kD k) aM u.1)) (fun u => rfl) rfl rfl rfl (fun u => [.int u.2]) (fun u => rfl) (fun r13 hf => ?_)
    obtain rfl := Option.some.inj hf
    exact g_iret (v := r13.2) C E dX5_calibrate_18 (Nat.le_of_ble_eq_true rfl) (Nat.le_of_ble_eq_true rfl) ⟨rfl, rfl⟩
set_option maxRecDepth 100000 in
set_option maxHeartbeats 4000000 in
theorem cX5_calibrate_ (l : Launch) (htr : l.stackTraces = false) (D : va_G) (N : Nat) (aM : Nat → Nat) (v : VM) (p1 : Int32) (r : VM × Int32) (hf : fX5_calibrate N v p1 = some r) : Tc l D yX5_calibrate wsX5_calibrate rmX5_calibrate [.ref (aM 0), .int p1] (wM D aM v) (fun rv w => rv = some (.int r.2) ∧ w = (wM D aM r.1)) (fun _ _ => False) 0 0 := Tc_of htr (by decide +kernel) rfl (Nat.le_of_ble_eq_true rfl) (fun k C E hl hD => by subst hD; exact wkX5_calibrate C N aM v p1 r hf E)
abbrev rmX5_hold : Room := { frames := 3, cells := 0, slots := 0, locals := 68 }
theorem inX5_hold_X5 : ∀ w ∈ wsX50, w ∈ wsX5_hold := by decide +kernel
theorem lkX5_hold_38 : Cond.fieldLink RX5 38 "GaugeBlocksModel" (TX5 5).2.1 (TX5 5).2.2.1 ∈ wsX5_hold := by decide +kernel
theorem hdX5_hold : yX5_hold.cls = RX5 ∧ yX5_hold.cls ≠ "java/lang/invoke/MethodHandle" ∧ yX5_hold.cls ≠ "java/lang/invoke/VarHandle" ∧ (parseMethodDescriptor yX5_hold.desc).map (fun d => d.parameters.length) = some 2 := by decide +kernel
def fX5_hold (N : Nat) (v : VM) (p1 : Int32) (p2 : Int32) : Option (VM × Int32) := ((fX5_isBlock N ((mRow v), (mSav v), (mSvn v), (mSnp v), (mKep v), 0, (mFre v), (mFrn v), (mBuf v), (mLen v), (mSpt v), (mNum v), (mOrd v), (mLet v), (mFst v), (mSnd v), (mTok v), (mLft v)) p1).bind fun r1 => (if r1 = true then ((fX5_in N p2 1 60).bind fun r2 => (if r2 = true then ((fX5_save N ((mRow v), (mSav v), (mSvn v), (mSnp v), (mKep v), 0, (mFre v), (mFrn v), (mBuf v), (mLen v), (mSpt v), (mNum v), (mOrd v), (mLet v), (mFst v), (mSnd v), (mTok v), (mLft v))).bind fun r3 => ((fX5_holdNow N r3 p1 p2).bind fun r4 => some (r4.1, r4.2))) else ((fX5_fails N ((mRow v), (mSav v), (mSvn v), (mSnp v), (mKep v), 0, (mFre v), (mFrn v), (mBuf v), (mLen v), (mSpt v), (mNum v), (mOrd v), (mLet v), (mFst v), (mSnd v), (mTok v), (mLft v)) 2).bind fun r5 => some (r5.1, r5.2)))) else ((fX5_fails N ((mRow v), (mSav v), (mSvn v), (mSnp v), (mKep v), 0, (mFre v), (mFrn v), (mBuf v), (mLen v), (mSpt v), (mNum v), (mOrd v), (mLet v), (mFst v), (mSnd v), (mTok v), (mLft v)) 1).bind fun r6 => some (r6.1, r6.2))))
set_option maxRecDepth 100000 in
set_option maxHeartbeats 4000000 in
theorem wkX5_hold {k : Kt} (C : gC k cX5_hold 3 RX5 wsX5_hold rmX5_hold "hold") (N : Nat) (aM : Nat → Nat) (v : VM) (p1 : Int32) (p2 : Int32) (r : VM × Int32) (hf : fX5_hold N v p1 p2 = some r) (E : gE k (wM (kD k) aM v) (fun rv w => rv = some (.int r.2) ∧ w = (wM (kD k) aM r.1)) (fun _ _ => False) 0 0 (some .int) []) : gG k (wM (kD k) aM v) [(0, .ref (aM 0)), (1, .int p1), (2, .int p2)] 0 0 0 [] := by
  unfold fX5_hold at hf
  refine g_aload_n (pc := 0) (x := (aM 0)) C dX5_hold_0 rfl ?_
  refine g_iconst (pc := 1) (v := 0) C dX5_hold_1 (by decide) ?_
  refine g_putf (pc := 2) C 0 rfl rfl inX5_hold_X5 tyX5 tyX5_ok nmX5 5 (by decide) lkX5_hold_38 rfl rfl pfX5_5 rfl rfl (Nat.le_of_ble_eq_true rfl) dX5_hold_2 (ws' := (wM (kD k) aM ((mRow v), (mSav v), (mSvn v), (mSnp v), (mKep v), 0, (mFre v), (mFrn v), (mBuf v), (mLen v), (mSpt v), (mNum v), (mOrd v), (mLet v), (mFst v), (mSnd v), (mTok v), (mLft v)))) rfl ?_
  refine g_aload_n (pc := 5) (x := (aM 0)) C dX5_hold_5 rfl ?_
  refine g_iload_n (pc := 6) (x := p1) C dX5_hold_6 rfl ?_
  refine g_callR (pc' := 10) (cs' := 0) (sl' := 0) hf C (fun u => some (.int (b2i u))) (fun u hu => gr_V (rest := []) C (cX5_isBlock_ (kL k) C.tr (kD k) N aM ((mRow v), (mSav v), (mSvn v), (mSnp v), (mKep v), 0, (mFre v), (mFrn v), (mBuf v), (mLen v), (mSpt v), (mNum v), (mOrd v), (mLet v), (mFst v), (mSnd v), (mTok v), (mLft v)) p1 u hu) (fun ht => cwV 1 ht gX5_hold_X5_isBlock rfl rfl rfl hdX5_isBlock ⟨(Nat.le_of_ble_eq_true rfl), (Nat.le_of_ble_eq_true rfl)⟩) 0 rfl rfl [0, 1, 2, 3, 4, 5, 6, 7, 8, 9] rfl (by decide) rfl rfl (Nat.le_of_ble_eq_true rfl) dX5_hold_7 ⟨(Nat.le_of_ble_eq_true rfl), (Nat.le_of_ble_eq_true rfl)⟩) [0, 1, 2, 3, 4, 5, 6, 7, 8, 9] rfl rfl rfl rfl (fun u => [.int (b2i u)]) (fun u => rfl) (fun r1 hf => ?_)
  refine g_ifB_ne (pc := 10) (tgt := 19) (b := r1) hf C dX5_hold_10 (by decide) (fun hf => ?_) (fun hf => ?_)
  · refine g_iload_n (pc := 19) (x := p2) C dX5_hold_19 rfl ?_
    refine g_iconst (pc := 20) (v := 1) C dX5_hold_20 (by decide) ?_
    refine g_bipush (pc := 21) (v := 60) C dX5_hold_21 (by decide) ?_
    refine g_callR (pc' := 26) (cs' := 0) (sl' := 0) hf C (fun u => some (.int (b2i u))) (fun u hu => gr_S (rest := []) C (cX5_in_ (kL k) C.tr (kD k) N p2 1 60 u hu) (fun ht => va_cwS 3 ht gX5_hold_X5_in rfl rfl rfl hsX5_in ⟨(Nat.le_of_ble_eq_true rfl), (Nat.le_of_ble_eq_true rfl)⟩) [] rfl (by decide) rfl rfl (Nat.le_of_ble_eq_true rfl) dX5_hold_23 ⟨(Nat.le_of_ble_eq_true rfl), (Nat.le_of_ble_eq_true rfl)⟩) [] rfl rfl rfl rfl (fun u => [.int (b2i u)]) (fun u => rfl) (fun r2 hf => ?_)
    refine g_ifB_ne (pc := 26) (tgt := 35) (b := r2) hf C dX5_hold_26 (by decide) (fun hf => ?_) (fun hf => ?_)
    · refine g_aload_n (pc := 35) (x := (aM 0)) C dX5_hold_35 rfl ?_
      refine g_callW (wr := []) (pc' := 39) (cs' := 0) (sl' := 0) hf C (fun u => none) (fun u => (wM (kD k) aM u)) (fun u hu => gr_V (rest := []) C (cX5_save_ (kL k) C.tr (kD k) N aM ((mRow v), (mSav v), (mSvn v), (mSnp v), (mKep v), 0, (mFre v), (mFrn v), (mBuf v), (mLen v), (mSpt v), (mNum v), (mOrd v), (mLet v), (mFst v), (mSnd v), (mTok v), (mLft v)) u hu) (fun ht => cwV 0 ht gX5_hold_X5_save rfl rfl rfl hdX5_save ⟨(Nat.le_of_ble_eq_true rfl), (Nat.le_of_ble_eq_true rfl)⟩) 0 rfl rfl [0, 1, 2, 3, 4, 5, 6, 7, 8, 9] rfl (by decide) rfl rfl (Nat.le_of_ble_eq_true rfl) dX5_hold_36 ⟨(Nat.le_of_ble_eq_true rfl), (Nat.le_of_ble_eq_true rfl)⟩) [0, 1, 2, 3, 4, 5, 6, 7, 8, 9] [] rfl rfl (by decide) (by decide) [0, 1, 2, 3, 4, 5, 6, 7, 8, 9] (by decide) (ws' := fun u => (wM (kD k) aM u)) (fun u => rfl) rfl rfl rfl (fun u => []) (fun u => rfl) (fun r3 hf => ?_)
      refine g_aload_n (pc := 39) (x := (aM 0)) C dX5_hold_39 rfl ?_
      refine g_iload_n (pc := 40) (x := p1) C dX5_hold_40 rfl ?_
      refine g_iload_n (pc := 41) (x := p2) C dX5_hold_41 rfl ?_
      refine g_callW (wr := []) (pc' := 45) (cs' := 0) (sl' := 0) hf C (fun u => some (.int u.2)) (fun u => (wM (kD k) aM u.1)) (fun u hu => gr_V (rest := []) C (cX5_holdNow_ (kL k) C.tr (kD k) N aM r3 p1 p2 u hu) (fun ht => cwV 2 ht gX5_hold_X5_holdNow rfl rfl rfl hdX5_holdNow ⟨(Nat.le_of_ble_eq_true rfl), (Nat.le_of_ble_eq_true rfl)⟩) 0 rfl rfl [0, 1, 2, 3, 4, 5, 6, 7, 8, 9] rfl (by decide) rfl rfl (Nat.le_of_ble_eq_true rfl) dX5_hold_42 ⟨(Nat.le_of_ble_eq_true rfl), (Nat.le_of_ble_eq_true rfl)⟩) [0, 1, 2, 3, 4, 5, 6, 7, 8, 9] [] rfl rfl (by decide) (by decide) [0, 1, 2, 3, 4, 5, 6, 7, 8, 9] (by decide) (ws' := fun u => (wM (kD k) aM u.1)) (fun u => rfl) rfl rfl rfl (fun u => [.int u.2]) (fun u => rfl) (fun r4 hf => ?_)
      obtain rfl := Option.some.inj hf
      exact g_iret (v := r4.2) C E dX5_hold_45 (Nat.le_of_ble_eq_true rfl) (Nat.le_of_ble_eq_true rfl) ⟨rfl, rfl⟩
    · refine g_aload_n (pc := 29) (x := (aM 0)) C dX5_hold_29 rfl ?_
      refine g_iconst (pc := 30) (v := 2) C dX5_hold_30 (by decide) ?_
      refine g_callW (wr := []) (pc' := 34) (cs' := 0) (sl' := 0) hf C (fun u => some (.int u.2)) (fun u => (wM (kD k) aM u.1)) (fun u hu => gr_V (rest := []) C (cX5_fails_ (kL k) C.tr (kD k) N aM ((mRow v), (mSav v), (mSvn v), (mSnp v), (mKep v), 0, (mFre v), (mFrn v), (mBuf v), (mLen v), (mSpt v), (mNum v), (mOrd v), (mLet v), (mFst v), (mSnd v), (mTok v), (mLft v)) 2 u hu) (fun ht => cwV 1 ht gX5_hold_X5_fails rfl rfl rfl hdX5_fails ⟨(Nat.le_of_ble_eq_true rfl), (Nat.le_of_ble_eq_true rfl)⟩) 0 rfl rfl [0, 1, 2, 3, 4, 5, 6, 7, 8, 9] rfl (by decide) rfl rfl (Nat.le_of_ble_eq_true rfl) dX5_hold_31 ⟨(Nat.le_of_ble_eq_true rfl), (Nat.le_of_ble_eq_true rfl)⟩) [0, 1, 2, 3, 4, 5, 6, 7, 8, 9] [] rfl rfl (by decide) (by decide) [0, 1, 2, 3, 4, 5, 6, 7, 8, 9] (by decide) (ws' := fun u => (wM (kD k) aM u.1)) (fun u => rfl) rfl rfl rfl (fun u => [.int u.2]) (fun u => rfl) (fun r5 hf => ?_)
      obtain rfl := Option.some.inj hf
      exact g_iret (v := r5.2) C E dX5_hold_34 (Nat.le_of_ble_eq_true rfl) (Nat.le_of_ble_eq_true rfl) ⟨rfl, rfl⟩
  · refine g_aload_n (pc := 13) (x := (aM 0)) C dX5_hold_13 rfl ?_
    refine g_iconst (pc := 14) (v := 1) C dX5_hold_14 (by decide) ?_
    refine g_callW (wr := []) (pc' := 18) (cs' := 0) (sl' := 0) hf C (fun u => some (.int u.2)) (fun u => (wM (kD k) aM u.1)) (fun u hu => gr_V (rest := []) C (cX5_fails_ (kL k) C.tr (kD k) N aM ((mRow v), (mSav v), (mSvn v), (mSnp v), (mKep v), 0, (mFre v), (mFrn v), (mBuf v), (mLen v), (mSpt v), (mNum v), (mOrd v), (mLet v), (mFst v), (mSnd v), (mTok v), (mLft v)) 1 u hu) (fun ht => cwV 1 ht gX5_hold_X5_fails rfl rfl rfl hdX5_fails ⟨(Nat.le_of_ble_eq_true rfl), (Nat.le_of_ble_eq_true rfl)⟩) 0 rfl rfl [0, 1, 2, 3, 4, 5, 6, 7, 8, 9] rfl (by decide) rfl rfl (Nat.le_of_ble_eq_true rfl) dX5_hold_15 ⟨(Nat.le_of_ble_eq_true rfl), (Nat.le_of_ble_eq_true rfl)⟩) [0, 1, 2, 3, 4, 5, 6, 7, 8, 9] [] rfl rfl (by decide) (by decide) [0, 1, 2, 3, 4, 5, 6, 7, 8, 9] (by decide) (ws' := fun u => (wM (kD k) aM u.1)) (fun u => rfl) rfl rfl rfl (fun u => [.int u.2]) (fun u => rfl) (fun r6 hf => ?_)
    obtain rfl := Option.some.inj hf
    exact g_iret (v := r6.2) C E dX5_hold_18 (Nat.le_of_ble_eq_true rfl) (Nat.le_of_ble_eq_true rfl) ⟨rfl, rfl⟩
set_option maxRecDepth 100000 in
set_option maxHeartbeats 4000000 in
theorem cX5_hold_ (l : Launch) (htr : l.stackTraces = false) (D : va_G) (N : Nat) (aM : Nat → Nat) (v : VM) (p1 : Int32) (p2 : Int32) (r : VM × Int32) (hf : fX5_hold N v p1 p2 = some r) : Tc l D yX5_hold wsX5_hold rmX5_hold [.ref (aM 0), .int p1, .int p2] (wM D aM v) (fun rv w => rv = some (.int r.2) ∧ w = (wM D aM r.1)) (fun _ _ => False) 0 0 := Tc_of htr (by decide +kernel) rfl (Nat.le_of_ble_eq_true rfl) (fun k C E hl hD => by subst hD; exact wkX5_hold C N aM v p1 p2 r hf E)
abbrev rmX5_rest : Room := { frames := 2, cells := 0, slots := 0, locals := 47 }
theorem inX5_rest_X5 : ∀ w ∈ wsX50, w ∈ wsX5_rest := by decide +kernel
theorem lkX5_rest_38 : Cond.fieldLink RX5 38 "GaugeBlocksModel" (TX5 5).2.1 (TX5 5).2.2.1 ∈ wsX5_rest := by decide +kernel
theorem hdX5_rest : yX5_rest.cls = RX5 ∧ yX5_rest.cls ≠ "java/lang/invoke/MethodHandle" ∧ yX5_rest.cls ≠ "java/lang/invoke/VarHandle" ∧ (parseMethodDescriptor yX5_rest.desc).map (fun d => d.parameters.length) = some 1 := by decide +kernel
def fX5_rest (N : Nat) (v : VM) (p1 : Int32) : Option (VM × Int32) := ((fX5_in N p1 1 60).bind fun r1 => (if r1 = true then ((fX5_save N ((mRow v), (mSav v), (mSvn v), (mSnp v), (mKep v), 0, (mFre v), (mFrn v), (mBuf v), (mLen v), (mSpt v), (mNum v), (mOrd v), (mLet v), (mFst v), (mSnd v), (mTok v), (mLft v))).bind fun r2 => ((fX5_restNow N r2 p1).bind fun r3 => some (r3.1, r3.2))) else ((fX5_fails N ((mRow v), (mSav v), (mSvn v), (mSnp v), (mKep v), 0, (mFre v), (mFrn v), (mBuf v), (mLen v), (mSpt v), (mNum v), (mOrd v), (mLet v), (mFst v), (mSnd v), (mTok v), (mLft v)) 1).bind fun r4 => some (r4.1, r4.2))))
set_option maxRecDepth 100000 in
set_option maxHeartbeats 4000000 in
theorem wkX5_rest {k : Kt} (C : gC k cX5_rest 2 RX5 wsX5_rest rmX5_rest "rest") (N : Nat) (aM : Nat → Nat) (v : VM) (p1 : Int32) (r : VM × Int32) (hf : fX5_rest N v p1 = some r) (E : gE k (wM (kD k) aM v) (fun rv w => rv = some (.int r.2) ∧ w = (wM (kD k) aM r.1)) (fun _ _ => False) 0 0 (some .int) []) : gG k (wM (kD k) aM v) [(0, .ref (aM 0)), (1, .int p1)] 0 0 0 [] := by
  unfold fX5_rest at hf
  refine g_aload_n (pc := 0) (x := (aM 0)) C dX5_rest_0 rfl ?_
  refine g_iconst (pc := 1) (v := 0) C dX5_rest_1 (by decide) ?_
  refine g_putf (pc := 2) C 0 rfl rfl inX5_rest_X5 tyX5 tyX5_ok nmX5 5 (by decide) lkX5_rest_38 rfl rfl pfX5_5 rfl rfl (Nat.le_of_ble_eq_true rfl) dX5_rest_2 (ws' := (wM (kD k) aM ((mRow v), (mSav v), (mSvn v), (mSnp v), (mKep v), 0, (mFre v), (mFrn v), (mBuf v), (mLen v), (mSpt v), (mNum v), (mOrd v), (mLet v), (mFst v), (mSnd v), (mTok v), (mLft v)))) rfl ?_
  refine g_iload_n (pc := 5) (x := p1) C dX5_rest_5 rfl ?_
  refine g_iconst (pc := 6) (v := 1) C dX5_rest_6 (by decide) ?_
  refine g_bipush (pc := 7) (v := 60) C dX5_rest_7 (by decide) ?_
  refine g_callR (pc' := 12) (cs' := 0) (sl' := 0) hf C (fun u => some (.int (b2i u))) (fun u hu => gr_S (rest := []) C (cX5_in_ (kL k) C.tr (kD k) N p1 1 60 u hu) (fun ht => va_cwS 3 ht gX5_rest_X5_in rfl rfl rfl hsX5_in ⟨(Nat.le_of_ble_eq_true rfl), (Nat.le_of_ble_eq_true rfl)⟩) [] rfl (by decide) rfl rfl (Nat.le_of_ble_eq_true rfl) dX5_rest_9 ⟨(Nat.le_of_ble_eq_true rfl), (Nat.le_of_ble_eq_true rfl)⟩) [] rfl rfl rfl rfl (fun u => [.int (b2i u)]) (fun u => rfl) (fun r1 hf => ?_)
  refine g_ifB_ne (pc := 12) (tgt := 21) (b := r1) hf C dX5_rest_12 (by decide) (fun hf => ?_) (fun hf => ?_)
  · refine g_aload_n (pc := 21) (x := (aM 0)) C dX5_rest_21 rfl ?_
    refine g_callW (wr := []) (pc' := 25) (cs' := 0) (sl' := 0) hf C (fun u => none) (fun u => (wM (kD k) aM u)) (fun u hu => gr_V (rest := []) C (cX5_save_ (kL k) C.tr (kD k) N aM ((mRow v), (mSav v), (mSvn v), (mSnp v), (mKep v), 0, (mFre v), (mFrn v), (mBuf v), (mLen v), (mSpt v), (mNum v), (mOrd v), (mLet v), (mFst v), (mSnd v), (mTok v), (mLft v)) u hu) (fun ht => cwV 0 ht gX5_rest_X5_save rfl rfl rfl hdX5_save ⟨(Nat.le_of_ble_eq_true rfl), (Nat.le_of_ble_eq_true rfl)⟩) 0 rfl rfl [0, 1, 2, 3, 4, 5, 6, 7, 8, 9] rfl (by decide) rfl rfl (Nat.le_of_ble_eq_true rfl) dX5_rest_22 ⟨(Nat.le_of_ble_eq_true rfl), (Nat.le_of_ble_eq_true rfl)⟩) [0, 1, 2, 3, 4, 5, 6, 7, 8, 9] [] rfl rfl (by decide) (by decide) [0, 1, 2, 3, 4, 5, 6, 7, 8, 9] (by decide) (ws' := fun u => (wM (kD k) aM u)) (fun u => rfl) rfl rfl rfl (fun u => []) (fun u => rfl) (fun r2 hf => ?_)
    refine g_aload_n (pc := 25) (x := (aM 0)) C dX5_rest_25 rfl ?_
    refine g_iload_n (pc := 26) (x := p1) C dX5_rest_26 rfl ?_
    refine g_callW (wr := []) (pc' := 30) (cs' := 0) (sl' := 0) hf C (fun u => some (.int u.2)) (fun u => (wM (kD k) aM u.1)) (fun u hu => gr_V (rest := []) C (cX5_restNow_ (kL k) C.tr (kD k) N aM r2 p1 u hu) (fun ht => cwV 1 ht gX5_rest_X5_restNow rfl rfl rfl hdX5_restNow ⟨(Nat.le_of_ble_eq_true rfl), (Nat.le_of_ble_eq_true rfl)⟩) 0 rfl rfl [0, 1, 2, 3, 4, 5, 6, 7, 8, 9] rfl (by decide) rfl rfl (Nat.le_of_ble_eq_true rfl) dX5_rest_27 ⟨(Nat.le_of_ble_eq_true rfl), (Nat.le_of_ble_eq_true rfl)⟩) [0, 1, 2, 3, 4, 5, 6, 7, 8, 9] [] rfl rfl (by decide) (by decide) [0, 1, 2, 3, 4, 5, 6, 7, 8, 9] (by decide) (ws' := fun u => (wM (kD k) aM u.1)) (fun u => rfl) rfl rfl rfl (fun u => [.int u.2]) (fun u => rfl) (fun r3 hf => ?_)
    obtain rfl := Option.some.inj hf
    exact g_iret (v := r3.2) C E dX5_rest_30 (Nat.le_of_ble_eq_true rfl) (Nat.le_of_ble_eq_true rfl) ⟨rfl, rfl⟩
  · refine g_aload_n (pc := 15) (x := (aM 0)) C dX5_rest_15 rfl ?_
    refine g_iconst (pc := 16) (v := 1) C dX5_rest_16 (by decide) ?_
    refine g_callW (wr := []) (pc' := 20) (cs' := 0) (sl' := 0) hf C (fun u => some (.int u.2)) (fun u => (wM (kD k) aM u.1)) (fun u hu => gr_V (rest := []) C (cX5_fails_ (kL k) C.tr (kD k) N aM ((mRow v), (mSav v), (mSvn v), (mSnp v), (mKep v), 0, (mFre v), (mFrn v), (mBuf v), (mLen v), (mSpt v), (mNum v), (mOrd v), (mLet v), (mFst v), (mSnd v), (mTok v), (mLft v)) 1 u hu) (fun ht => cwV 1 ht gX5_rest_X5_fails rfl rfl rfl hdX5_fails ⟨(Nat.le_of_ble_eq_true rfl), (Nat.le_of_ble_eq_true rfl)⟩) 0 rfl rfl [0, 1, 2, 3, 4, 5, 6, 7, 8, 9] rfl (by decide) rfl rfl (Nat.le_of_ble_eq_true rfl) dX5_rest_17 ⟨(Nat.le_of_ble_eq_true rfl), (Nat.le_of_ble_eq_true rfl)⟩) [0, 1, 2, 3, 4, 5, 6, 7, 8, 9] [] rfl rfl (by decide) (by decide) [0, 1, 2, 3, 4, 5, 6, 7, 8, 9] (by decide) (ws' := fun u => (wM (kD k) aM u.1)) (fun u => rfl) rfl rfl rfl (fun u => [.int u.2]) (fun u => rfl) (fun r4 hf => ?_)
    obtain rfl := Option.some.inj hf
    exact g_iret (v := r4.2) C E dX5_rest_20 (Nat.le_of_ble_eq_true rfl) (Nat.le_of_ble_eq_true rfl) ⟨rfl, rfl⟩
set_option maxRecDepth 100000 in
set_option maxHeartbeats 4000000 in
theorem cX5_rest_ (l : Launch) (htr : l.stackTraces = false) (D : va_G) (N : Nat) (aM : Nat → Nat) (v : VM) (p1 : Int32) (r : VM × Int32) (hf : fX5_rest N v p1 = some r) : Tc l D yX5_rest wsX5_rest rmX5_rest [.ref (aM 0), .int p1] (wM D aM v) (fun rv w => rv = some (.int r.2) ∧ w = (wM D aM r.1)) (fun _ _ => False) 0 0 := Tc_of htr (by decide +kernel) rfl (Nat.le_of_ble_eq_true rfl) (fun k C E hl hD => by subst hD; exact wkX5_rest C N aM v p1 r hf E)
abbrev rmX5_maySet : Room := { frames := 1, cells := 0, slots := 0, locals := 22 }
theorem hsX5_maySet : yX5_maySet.cls ≠ "java/lang/invoke/MethodHandle" ∧ yX5_maySet.cls ≠ "java/lang/invoke/VarHandle" ∧ (parseMethodDescriptor yX5_maySet.desc).map (fun d => d.parameters.length) = some 2 := by decide +kernel
def fX5_maySet (N : Nat) (p0 : Int32) (p1 : Int32) : Option (Bool) := (if p0 = 0 then ((fX5_in N p1 0 60).bind fun r1 => some r1) else (if p0 = 1 then ((fX5_in N p1 0 1000).bind fun r2 => some r2) else (if p0 = 2 then ((fX5_in N p1 0 20).bind fun r3 => some r3) else ((fX5_in N p1 0 200).bind fun r4 => some r4))))
set_option maxRecDepth 100000 in
set_option maxHeartbeats 4000000 in
theorem wkX5_maySet {k : Kt} (C : gC k cX5_maySet 2 RX5 wsX5_maySet rmX5_maySet "maySet") (N : Nat) (p0 : Int32) (p1 : Int32) (r : Bool) (hf : fX5_maySet N p0 p1 = some r) (E : gE k [] (fun rv w => rv = some (.int (b2i r)) ∧ w = []) (fun _ _ => False) 0 0 (some .boolean) []) : gG k [] [(0, .int p0), (1, .int p1)] 0 0 0 [] := by
  unfold fX5_maySet at hf
  refine g_iload_n (pc := 0) (x := p0) C dX5_maySet_0 rfl ?_
  refine g_split hf (fun e hf => ?_) (fun n1_0 hf => ?_)
  · refine g_tsw (pc := 1) (tgt := 28) C dX5_maySet_1 e (by decide) (by decide) rfl (by decide) ?_
    refine g_iload_n (pc := 28) (x := p1) C dX5_maySet_28 rfl ?_
    refine g_iconst (pc := 29) (v := 0) C dX5_maySet_29 (by decide) ?_
    refine g_bipush (pc := 30) (v := 60) C dX5_maySet_30 (by decide) ?_
    refine g_callR (pc' := 35) (cs' := 0) (sl' := 0) hf C (fun u => some (.int (b2i u))) (fun u hu => gr_S (rest := []) C (cX5_in_ (kL k) C.tr (kD k) N p1 0 60 u hu) (fun ht => va_cwS 3 ht gX5_maySet_X5_in rfl rfl rfl hsX5_in ⟨(Nat.le_of_ble_eq_true rfl), (Nat.le_of_ble_eq_true rfl)⟩) [] rfl (by decide) rfl rfl (Nat.le_of_ble_eq_true rfl) dX5_maySet_32 ⟨(Nat.le_of_ble_eq_true rfl), (Nat.le_of_ble_eq_true rfl)⟩) [] rfl rfl rfl rfl (fun u => [.int (b2i u)]) (fun u => rfl) (fun r1 hf => ?_)
    obtain rfl := Option.some.inj hf
    exact g_bret (b := r1) C E dX5_maySet_35 (Nat.le_of_ble_eq_true rfl) (Nat.le_of_ble_eq_true rfl) ⟨rfl, rfl⟩
  refine g_split hf (fun e hf => ?_) (fun n1_1 hf => ?_)
  · refine g_tsw (pc := 1) (tgt := 36) C dX5_maySet_1 e (by decide) (by decide) rfl (by decide) ?_
    refine g_iload_n (pc := 36) (x := p1) C dX5_maySet_36 rfl ?_
    refine g_iconst (pc := 37) (v := 0) C dX5_maySet_37 (by decide) ?_
    refine g_sipush (pc := 38) (v := 1000) C dX5_maySet_38 (by decide) ?_
    refine g_callR (pc' := 44) (cs' := 0) (sl' := 0) hf C (fun u => some (.int (b2i u))) (fun u hu => gr_S (rest := []) C (cX5_in_ (kL k) C.tr (kD k) N p1 0 1000 u hu) (fun ht => va_cwS 3 ht gX5_maySet_X5_in rfl rfl rfl hsX5_in ⟨(Nat.le_of_ble_eq_true rfl), (Nat.le_of_ble_eq_true rfl)⟩) [] rfl (by decide) rfl rfl (Nat.le_of_ble_eq_true rfl) dX5_maySet_41 ⟨(Nat.le_of_ble_eq_true rfl), (Nat.le_of_ble_eq_true rfl)⟩) [] rfl rfl rfl rfl (fun u => [.int (b2i u)]) (fun u => rfl) (fun r2 hf => ?_)
    obtain rfl := Option.some.inj hf
    exact g_bret (b := r2) C E dX5_maySet_44 (Nat.le_of_ble_eq_true rfl) (Nat.le_of_ble_eq_true rfl) ⟨rfl, rfl⟩
  refine g_split hf (fun e hf => ?_) (fun n1_2 hf => ?_)
  · refine g_tsw (pc := 1) (tgt := 45) C dX5_maySet_1 e (by decide) (by decide) rfl (by decide) ?_
    refine g_iload_n (pc := 45) (x := p1) C dX5_maySet_45 rfl ?_
    refine g_iconst (pc := 46) (v := 0) C dX5_maySet_46 (by decide) ?_
    refine g_bipush (pc := 47) (v := 20) C dX5_maySet_47 (by decide) ?_
    refine g_callR (pc' := 52) (cs' := 0) (sl' := 0) hf C (fun u => some (.int (b2i u))) (fun u hu => gr_S (rest := []) C (cX5_in_ (kL k) C.tr (kD k) N p1 0 20 u hu) (fun ht => va_cwS 3 ht gX5_maySet_X5_in rfl rfl rfl hsX5_in ⟨(Nat.le_of_ble_eq_true rfl), (Nat.le_of_ble_eq_true rfl)⟩) [] rfl (by decide) rfl rfl (Nat.le_of_ble_eq_true rfl) dX5_maySet_49 ⟨(Nat.le_of_ble_eq_true rfl), (Nat.le_of_ble_eq_true rfl)⟩) [] rfl rfl rfl rfl (fun u => [.int (b2i u)]) (fun u => rfl) (fun r3 hf => ?_)
    obtain rfl := Option.some.inj hf
    exact g_bret (b := r3) C E dX5_maySet_52 (Nat.le_of_ble_eq_true rfl) (Nat.le_of_ble_eq_true rfl) ⟨rfl, rfl⟩
  refine g_tswd (pc := 1) (x := p0) (tgt := 53) C dX5_maySet_1 (by have e1_0 : (p0).toInt ≠ 0 := fun h => n1_0 (Int32.toInt_inj.mp (h.trans (by decide))); have e1_1 : (p0).toInt ≠ 1 := fun h => n1_1 (Int32.toInt_inj.mp (h.trans (by decide))); have e1_2 : (p0).toInt ≠ 2 := fun h => n1_2 (Int32.toInt_inj.mp (h.trans (by decide))); omega) (by decide) ?_
  refine g_iload_n (pc := 53) (x := p1) C dX5_maySet_53 rfl ?_
  refine g_iconst (pc := 54) (v := 0) C dX5_maySet_54 (by decide) ?_
  refine g_sipush (pc := 55) (v := 200) C dX5_maySet_55 (by decide) ?_
  refine g_callR (pc' := 61) (cs' := 0) (sl' := 0) hf C (fun u => some (.int (b2i u))) (fun u hu => gr_S (rest := []) C (cX5_in_ (kL k) C.tr (kD k) N p1 0 200 u hu) (fun ht => va_cwS 3 ht gX5_maySet_X5_in rfl rfl rfl hsX5_in ⟨(Nat.le_of_ble_eq_true rfl), (Nat.le_of_ble_eq_true rfl)⟩) [] rfl (by decide) rfl rfl (Nat.le_of_ble_eq_true rfl) dX5_maySet_58 ⟨(Nat.le_of_ble_eq_true rfl), (Nat.le_of_ble_eq_true rfl)⟩) [] rfl rfl rfl rfl (fun u => [.int (b2i u)]) (fun u => rfl) (fun r4 hf => ?_)
  obtain rfl := Option.some.inj hf
  exact g_bret (b := r4) C E dX5_maySet_61 (Nat.le_of_ble_eq_true rfl) (Nat.le_of_ble_eq_true rfl) ⟨rfl, rfl⟩
set_option maxRecDepth 100000 in
set_option maxHeartbeats 4000000 in
theorem cX5_maySet_ (l : Launch) (htr : l.stackTraces = false) (D : va_G) (N : Nat) (p0 : Int32) (p1 : Int32) (r : Bool) (hf : fX5_maySet N p0 p1 = some r) : Tc l D yX5_maySet wsX5_maySet rmX5_maySet [.int p0, .int p1] [] (fun rv w => rv = some (.int (b2i r)) ∧ w = []) (fun _ _ => False) 0 0 := Tc_of htr (by decide +kernel) rfl (Nat.le_of_ble_eq_true rfl) (fun k C E hl hD => by subst hD; exact wkX5_maySet C N p0 p1 r hf E)
abbrev rmX5_set : Room := { frames := 2, cells := 0, slots := 0, locals := 43 }
theorem inX5_set_X5 : ∀ w ∈ wsX50, w ∈ wsX5_set := by decide +kernel
theorem lkX5_set_38 : Cond.fieldLink RX5 38 "GaugeBlocksModel" (TX5 5).2.1 (TX5 5).2.2.1 ∈ wsX5_set := by decide +kernel
theorem lkX5_set_7 : Cond.fieldLink RX5 7 "GaugeBlocksModel" (TX5 0).2.1 (TX5 0).2.2.1 ∈ wsX5_set := by decide +kernel
theorem hdX5_set : yX5_set.cls = RX5 ∧ yX5_set.cls ≠ "java/lang/invoke/MethodHandle" ∧ yX5_set.cls ≠ "java/lang/invoke/VarHandle" ∧ (parseMethodDescriptor yX5_set.desc).map (fun d => d.parameters.length) = some 2 := by decide +kernel
def fX5_set (N : Nat) (v : VM) (p1 : Int32) (p2 : Int32) : Option (VM × Int32) := ((fX5_in N p1 0 3).bind fun r1 => (if r1 = true then ((fX5_maySet N p1 p2).bind fun r2 => (if r2 = true then ((fX5_save N ((mRow v), (mSav v), (mSvn v), (mSnp v), (mKep v), 0, (mFre v), (mFrn v), (mBuf v), (mLen v), (mSpt v), (mNum v), (mOrd v), (mLet v), (mFst v), (mSnd v), (mTok v), (mLft v))).bind fun r3 => ck p1 149 (ck p1 149 (some (((upd (mRow r3) (Int32.toNatClampNeg p1) p2), (mSav r3), (mSvn r3), (mSnp r3), (mKep r3), (mThr r3), (mFre r3), (mFrn r3), (mBuf r3), (mLen r3), (mSpt r3), (mNum r3), (mOrd r3), (mLet r3), (mFst r3), (mSnd r3), (mTok r3), (mLft r3)), ((mRow r3) (Int32.toNatClampNeg p1)))))) else ((fX5_fails N ((mRow v), (mSav v), (mSvn v), (mSnp v), (mKep v), 0, (mFre v), (mFrn v), (mBuf v), (mLen v), (mSpt v), (mNum v), (mOrd v), (mLet v), (mFst v), (mSnd v), (mTok v), (mLft v)) 2).bind fun r4 => some (r4.1, r4.2)))) else ((fX5_fails N ((mRow v), (mSav v), (mSvn v), (mSnp v), (mKep v), 0, (mFre v), (mFrn v), (mBuf v), (mLen v), (mSpt v), (mNum v), (mOrd v), (mLet v), (mFst v), (mSnd v), (mTok v), (mLft v)) 1).bind fun r5 => some (r5.1, r5.2))))
set_option maxRecDepth 100000 in
set_option maxHeartbeats 4000000 in
theorem wkX5_set {k : Kt} (C : gC k cX5_set 4 RX5 wsX5_set rmX5_set "set") (N : Nat) (aM : Nat → Nat) (v : VM) (p1 : Int32) (p2 : Int32) (r : VM × Int32) (hf : fX5_set N v p1 p2 = some r) (E : gE k (wM (kD k) aM v) (fun rv w => rv = some (.int r.2) ∧ w = (wM (kD k) aM r.1)) (fun _ _ => False) 0 0 (some .int) []) : gG k (wM (kD k) aM v) [(0, .ref (aM 0)), (1, .int p1), (2, .int p2)] 0 0 0 [] := by
  unfold fX5_set at hf
  refine g_aload_n (pc := 0) (x := (aM 0)) C dX5_set_0 rfl ?_
  refine g_iconst (pc := 1) (v := 0) C dX5_set_1 (by decide) ?_
  refine g_putf (pc := 2) C 0 rfl rfl inX5_set_X5 tyX5 tyX5_ok nmX5 5 (by decide) lkX5_set_38 rfl rfl pfX5_5 rfl rfl (Nat.le_of_ble_eq_true rfl) dX5_set_2 (ws' := (wM (kD k) aM ((mRow v), (mSav v), (mSvn v), (mSnp v), (mKep v), 0, (mFre v), (mFrn v), (mBuf v), (mLen v), (mSpt v), (mNum v), (mOrd v), (mLet v), (mFst v), (mSnd v), (mTok v), (mLft v)))) rfl ?_
  refine g_iload_n (pc := 5) (x := p1) C dX5_set_5 rfl ?_
  refine g_iconst (pc := 6) (v := 0) C dX5_set_6 (by decide) ?_
  refine g_iconst (pc := 7) (v := 3) C dX5_set_7 (by decide) ?_
  refine g_callR (pc' := 11) (cs' := 0) (sl' := 0) hf C (fun u => some (.int (b2i u))) (fun u hu => gr_S (rest := []) C (cX5_in_ (kL k) C.tr (kD k) N p1 0 3 u hu) (fun ht => va_cwS 3 ht gX5_set_X5_in rfl rfl rfl hsX5_in ⟨(Nat.le_of_ble_eq_true rfl), (Nat.le_of_ble_eq_true rfl)⟩) [] rfl (by decide) rfl rfl (Nat.le_of_ble_eq_true rfl) dX5_set_8 ⟨(Nat.le_of_ble_eq_true rfl), (Nat.le_of_ble_eq_true rfl)⟩) [] rfl rfl rfl rfl (fun u => [.int (b2i u)]) (fun u => rfl) (fun r1 hf => ?_)
  refine g_ifB_ne (pc := 11) (tgt := 20) (b := r1) hf C dX5_set_11 (by decide) (fun hf => ?_) (fun hf => ?_)
  · refine g_iload_n (pc := 20) (x := p1) C dX5_set_20 rfl ?_
    refine g_iload_n (pc := 21) (x := p2) C dX5_set_21 rfl ?_
    refine g_callR (pc' := 25) (cs' := 0) (sl' := 0) hf C (fun u => some (.int (b2i u))) (fun u hu => gr_S (rest := []) C (cX5_maySet_ (kL k) C.tr (kD k) N p1 p2 u hu) (fun ht => va_cwS 2 ht gX5_set_X5_maySet rfl rfl rfl hsX5_maySet ⟨(Nat.le_of_ble_eq_true rfl), (Nat.le_of_ble_eq_true rfl)⟩) [] rfl (by decide) rfl rfl (Nat.le_of_ble_eq_true rfl) dX5_set_22 ⟨(Nat.le_of_ble_eq_true rfl), (Nat.le_of_ble_eq_true rfl)⟩) [] rfl rfl rfl rfl (fun u => [.int (b2i u)]) (fun u => rfl) (fun r2 hf => ?_)
    refine g_ifB_ne (pc := 25) (tgt := 34) (b := r2) hf C dX5_set_25 (by decide) (fun hf => ?_) (fun hf => ?_)
    · refine g_aload_n (pc := 34) (x := (aM 0)) C dX5_set_34 rfl ?_
      refine g_callW (wr := []) (pc' := 38) (cs' := 0) (sl' := 0) hf C (fun u => none) (fun u => (wM (kD k) aM u)) (fun u hu => gr_V (rest := []) C (cX5_save_ (kL k) C.tr (kD k) N aM ((mRow v), (mSav v), (mSvn v), (mSnp v), (mKep v), 0, (mFre v), (mFrn v), (mBuf v), (mLen v), (mSpt v), (mNum v), (mOrd v), (mLet v), (mFst v), (mSnd v), (mTok v), (mLft v)) u hu) (fun ht => cwV 0 ht gX5_set_X5_save rfl rfl rfl hdX5_save ⟨(Nat.le_of_ble_eq_true rfl), (Nat.le_of_ble_eq_true rfl)⟩) 0 rfl rfl [0, 1, 2, 3, 4, 5, 6, 7, 8, 9] rfl (by decide) rfl rfl (Nat.le_of_ble_eq_true rfl) dX5_set_35 ⟨(Nat.le_of_ble_eq_true rfl), (Nat.le_of_ble_eq_true rfl)⟩) [0, 1, 2, 3, 4, 5, 6, 7, 8, 9] [] rfl rfl (by decide) (by decide) [0, 1, 2, 3, 4, 5, 6, 7, 8, 9] (by decide) (ws' := fun u => (wM (kD k) aM u)) (fun u => rfl) rfl rfl rfl (fun u => []) (fun u => rfl) (fun r3 hf => ?_)
      refine g_aload_n (pc := 38) (x := (aM 0)) C dX5_set_38 rfl ?_
      refine g_getf (pc := 39) C 0 rfl rfl inX5_set_X5 0 (by decide) lkX5_set_7 rfl rfl dX5_set_39 ?_
      refine g_iload_n (pc := 42) (x := p1) C dX5_set_42 rfl ?_
      refine g_iald (pc := 43) (i := p1) hf C 1 rfl dX5_set_43 (fun hf => ?_)
      refine g_istore_n (pc := 44) (lv' := [(3, .int ((mRow r3) (Int32.toNatClampNeg p1))), (0, .ref (aM 0)), (1, .int p1), (2, .int p2)]) C dX5_set_44 (by decide) rfl ?_
      refine g_aload_n (pc := 45) (x := (aM 0)) C dX5_set_45 rfl ?_
      refine g_getf (pc := 46) C 0 rfl rfl inX5_set_X5 0 (by decide) lkX5_set_7 rfl rfl dX5_set_46 ?_
      refine g_iload_n (pc := 49) (x := p1) C dX5_set_49 rfl ?_
      refine g_iload_n (pc := 50) (x := p2) C dX5_set_50 rfl ?_
      refine g_iast (pc := 51) (i := p1) (x := p2) hf C 1 rfl dX5_set_51 (ws' := (wM (kD k) aM ((upd (mRow r3) (Int32.toNatClampNeg p1) p2), (mSav r3), (mSvn r3), (mSnp r3), (mKep r3), (mThr r3), (mFre r3), (mFrn r3), (mBuf r3), (mLen r3), (mSpt r3), (mNum r3), (mOrd r3), (mLet r3), (mFst r3), (mSnd r3), (mTok r3), (mLft r3)))) rfl (fun hf => ?_)
      refine g_iload_n (pc := 52) (x := ((mRow r3) (Int32.toNatClampNeg p1))) C dX5_set_52 rfl ?_
      obtain rfl := Option.some.inj hf
      exact g_iret (v := ((mRow r3) (Int32.toNatClampNeg p1))) C E dX5_set_53 (Nat.le_of_ble_eq_true rfl) (Nat.le_of_ble_eq_true rfl) ⟨rfl, rfl⟩
    · refine g_aload_n (pc := 28) (x := (aM 0)) C dX5_set_28 rfl ?_
      refine g_iconst (pc := 29) (v := 2) C dX5_set_29 (by decide) ?_
      refine g_callW (wr := []) (pc' := 33) (cs' := 0) (sl' := 0) hf C (fun u => some (.int u.2)) (fun u => (wM (kD k) aM u.1)) (fun u hu => gr_V (rest := []) C (cX5_fails_ (kL k) C.tr (kD k) N aM ((mRow v), (mSav v), (mSvn v), (mSnp v), (mKep v), 0, (mFre v), (mFrn v), (mBuf v), (mLen v), (mSpt v), (mNum v), (mOrd v), (mLet v), (mFst v), (mSnd v), (mTok v), (mLft v)) 2 u hu) (fun ht => cwV 1 ht gX5_set_X5_fails rfl rfl rfl hdX5_fails ⟨(Nat.le_of_ble_eq_true rfl), (Nat.le_of_ble_eq_true rfl)⟩) 0 rfl rfl [0, 1, 2, 3, 4, 5, 6, 7, 8, 9] rfl (by decide) rfl rfl (Nat.le_of_ble_eq_true rfl) dX5_set_30 ⟨(Nat.le_of_ble_eq_true rfl), (Nat.le_of_ble_eq_true rfl)⟩) [0, 1, 2, 3, 4, 5, 6, 7, 8, 9] [] rfl rfl (by decide) (by decide) [0, 1, 2, 3, 4, 5, 6, 7, 8, 9] (by decide) (ws' := fun u => (wM (kD k) aM u.1)) (fun u => rfl) rfl rfl rfl (fun u => [.int u.2]) (fun u => rfl) (fun r4 hf => ?_)
      obtain rfl := Option.some.inj hf
      exact g_iret (v := r4.2) C E dX5_set_33 (Nat.le_of_ble_eq_true rfl) (Nat.le_of_ble_eq_true rfl) ⟨rfl, rfl⟩
  · refine g_aload_n (pc := 14) (x := (aM 0)) C dX5_set_14 rfl ?_
    refine g_iconst (pc := 15) (v := 1) C dX5_set_15 (by decide) ?_
    refine g_callW (wr := []) (pc' := 19) (cs' := 0) (sl' := 0) hf C (fun u => some (.int u.2)) (fun u => (wM (kD k) aM u.1)) (fun u hu => gr_V (rest := []) C (cX5_fails_ (kL k) C.tr (kD k) N aM ((mRow v), (mSav v), (mSvn v), (mSnp v), (mKep v), 0, (mFre v), (mFrn v), (mBuf v), (mLen v), (mSpt v), (mNum v), (mOrd v), (mLet v), (mFst v), (mSnd v), (mTok v), (mLft v)) 1 u hu) (fun ht => cwV 1 ht gX5_set_X5_fails rfl rfl rfl hdX5_fails ⟨(Nat.le_of_ble_eq_true rfl), (Nat.le_of_ble_eq_true rfl)⟩) 0 rfl rfl [0, 1, 2, 3, 4, 5, 6, 7, 8, 9] rfl (by decide) rfl rfl (Nat.le_of_ble_eq_true rfl) dX5_set_16 ⟨(Nat.le_of_ble_eq_true rfl), (Nat.le_of_ble_eq_true rfl)⟩) [0, 1, 2, 3, 4, 5, 6, 7, 8, 9] [] rfl rfl (by decide) (by decide) [0, 1, 2, 3, 4, 5, 6, 7, 8, 9] (by decide) (ws' := fun u => (wM (kD k) aM u.1)) (fun u => rfl) rfl rfl rfl (fun u => [.int u.2]) (fun u => rfl) (fun r5 hf => ?_)
    obtain rfl := Option.some.inj hf
    exact g_iret (v := r5.2) C E dX5_set_19 (Nat.le_of_ble_eq_true rfl) (Nat.le_of_ble_eq_true rfl) ⟨rfl, rfl⟩
set_option maxRecDepth 100000 in
set_option maxHeartbeats 4000000 in
theorem cX5_set_ (l : Launch) (htr : l.stackTraces = false) (D : va_G) (N : Nat) (aM : Nat → Nat) (v : VM) (p1 : Int32) (p2 : Int32) (r : VM × Int32) (hf : fX5_set N v p1 p2 = some r) : Tc l D yX5_set wsX5_set rmX5_set [.ref (aM 0), .int p1, .int p2] (wM D aM v) (fun rv w => rv = some (.int r.2) ∧ w = (wM D aM r.1)) (fun _ _ => False) 0 0 := Tc_of htr (by decide +kernel) rfl (Nat.le_of_ble_eq_true rfl) (fun k C E hl hD => by subst hD; exact wkX5_set C N aM v p1 p2 r hf E)
abbrev rmX5_wring : Room := { frames := 5, cells := 0, slots := 0, locals := 110 }
theorem inX5_wring_X5 : ∀ w ∈ wsX50, w ∈ wsX5_wring := by decide +kernel
theorem lkX5_wring_38 : Cond.fieldLink RX5 38 "GaugeBlocksModel" (TX5 5).2.1 (TX5 5).2.2.1 ∈ wsX5_wring := by decide +kernel
theorem hdX5_wring : yX5_wring.cls = RX5 ∧ yX5_wring.cls ≠ "java/lang/invoke/MethodHandle" ∧ yX5_wring.cls ≠ "java/lang/invoke/VarHandle" ∧ (parseMethodDescriptor yX5_wring.desc).map (fun d => d.parameters.length) = some 2 := by decide +kernel
def fX5_wring (N : Nat) (v : VM) (p1 : Int32) (p2 : Int32) : Option (VM × Int32) := ((fX5_isStack N p1).bind fun r1 => (if r1 = true then ((fX5_isBlock N ((mRow v), (mSav v), (mSvn v), (mSnp v), (mKep v), 0, (mFre v), (mFrn v), (mBuf v), (mLen v), (mSpt v), (mNum v), (mOrd v), (mLet v), (mFst v), (mSnd v), (mTok v), (mLft v)) p2).bind fun r3 => (if r3 = true then ((fX5_save N ((mRow v), (mSav v), (mSvn v), (mSnp v), (mKep v), 0, (mFre v), (mFrn v), (mBuf v), (mLen v), (mSpt v), (mNum v), (mOrd v), (mLet v), (mFst v), (mSnd v), (mTok v), (mLft v))).bind fun r4 => ((fX5_wringNow N r4 p1 p2).bind fun r5 => some (r5.1, r5.2))) else ((fX5_fails N ((mRow v), (mSav v), (mSvn v), (mSnp v), (mKep v), 0, (mFre v), (mFrn v), (mBuf v), (mLen v), (mSpt v), (mNum v), (mOrd v), (mLet v), (mFst v), (mSnd v), (mTok v), (mLft v)) 1).bind fun r6 => some (r6.1, r6.2)))) else ((fX5_fails N ((mRow v), (mSav v), (mSvn v), (mSnp v), (mKep v), 0, (mFre v), (mFrn v), (mBuf v), (mLen v), (mSpt v), (mNum v), (mOrd v), (mLet v), (mFst v), (mSnd v), (mTok v), (mLft v)) 1).bind fun r2 => some (r2.1, r2.2))))
set_option maxRecDepth 100000 in
set_option maxHeartbeats 4000000 in
theorem wkX5_wring {k : Kt} (C : gC k cX5_wring 3 RX5 wsX5_wring rmX5_wring "wring") (N : Nat) (aM : Nat → Nat) (v : VM) (p1 : Int32) (p2 : Int32) (r : VM × Int32) (hf : fX5_wring N v p1 p2 = some r) (E : gE k (wM (kD k) aM v) (fun rv w => rv = some (.int r.2) ∧ w = (wM (kD k) aM r.1)) (fun _ _ => False) 0 0 (some .int) []) : gG k (wM (kD k) aM v) [(0, .ref (aM 0)), (1, .int p1), (2, .int p2)] 0 0 0 [] := by
  unfold fX5_wring at hf
  refine g_aload_n (pc := 0) (x := (aM 0)) C dX5_wring_0 rfl ?_
  refine g_iconst (pc := 1) (v := 0) C dX5_wring_1 (by decide) ?_
  refine g_putf (pc := 2) C 0 rfl rfl inX5_wring_X5 tyX5 tyX5_ok nmX5 5 (by decide) lkX5_wring_38 rfl rfl pfX5_5 rfl rfl (Nat.le_of_ble_eq_true rfl) dX5_wring_2 (ws' := (wM (kD k) aM ((mRow v), (mSav v), (mSvn v), (mSnp v), (mKep v), 0, (mFre v), (mFrn v), (mBuf v), (mLen v), (mSpt v), (mNum v), (mOrd v), (mLet v), (mFst v), (mSnd v), (mTok v), (mLft v)))) rfl ?_
  refine g_iload_n (pc := 5) (x := p1) C dX5_wring_5 rfl ?_
  refine g_callR (pc' := 9) (cs' := 0) (sl' := 0) hf C (fun u => some (.int (b2i u))) (fun u hu => gr_S (rest := []) C (cX5_isStack_ (kL k) C.tr (kD k) N p1 u hu) (fun ht => va_cwS 1 ht gX5_wring_X5_isStack rfl rfl rfl hsX5_isStack ⟨(Nat.le_of_ble_eq_true rfl), (Nat.le_of_ble_eq_true rfl)⟩) [] rfl (by decide) rfl rfl (Nat.le_of_ble_eq_true rfl) dX5_wring_6 ⟨(Nat.le_of_ble_eq_true rfl), (Nat.le_of_ble_eq_true rfl)⟩) [] rfl rfl rfl rfl (fun u => [.int (b2i u)]) (fun u => rfl) (fun r1 hf => ?_)
  refine g_ifB_eq (pc := 9) (tgt := 20) (b := r1) hf C dX5_wring_9 (by decide) (fun hf => ?_) (fun hf => ?_)
  · refine g_aload_n (pc := 20) (x := (aM 0)) C dX5_wring_20 rfl ?_
    refine g_iconst (pc := 21) (v := 1) C dX5_wring_21 (by decide) ?_
    refine g_callW (wr := []) (pc' := 25) (cs' := 0) (sl' := 0) hf C (fun u => some (.int u.2)) (fun u => (wM (kD k) aM u.1)) (fun u hu => gr_V (rest := []) C (cX5_fails_ (kL k) C.tr (kD k) N aM ((mRow v), (mSav v), (mSvn v), (mSnp v), (mKep v), 0, (mFre v), (mFrn v), (mBuf v), (mLen v), (mSpt v), (mNum v), (mOrd v), (mLet v), (mFst v), (mSnd v), (mTok v), (mLft v)) 1 u hu) (fun ht => cwV 1 ht gX5_wring_X5_fails rfl rfl rfl hdX5_fails ⟨(Nat.le_of_ble_eq_true rfl), (Nat.le_of_ble_eq_true rfl)⟩) 0 rfl rfl [0, 1, 2, 3, 4, 5, 6, 7, 8, 9] rfl (by decide) rfl rfl (Nat.le_of_ble_eq_true rfl) dX5_wring_22 ⟨(Nat.le_of_ble_eq_true rfl), (Nat.le_of_ble_eq_true rfl)⟩) [0, 1, 2, 3, 4, 5, 6, 7, 8, 9] [] rfl rfl (by decide) (by decide) [0, 1, 2, 3, 4, 5, 6, 7, 8, 9] (by decide) (ws' := fun u => (wM (kD k) aM u.1)) (fun u => rfl) rfl rfl rfl (fun u => [.int u.2]) (fun u => rfl) (fun r2 hf => ?_)
    obtain rfl := Option.some.inj hf
    exact g_iret (v := r2.2) C E dX5_wring_25 (Nat.le_of_ble_eq_true rfl) (Nat.le_of_ble_eq_true rfl) ⟨rfl, rfl⟩
  · refine g_aload_n (pc := 12) (x := (aM 0)) C dX5_wring_12 rfl ?_
    refine g_iload_n (pc := 13) (x := p2) C dX5_wring_13 rfl ?_
    refine g_callR (pc' := 17) (cs' := 0) (sl' := 0) hf C (fun u => some (.int (b2i u))) (fun u hu => gr_V (rest := []) C (cX5_isBlock_ (kL k) C.tr (kD k) N aM ((mRow v), (mSav v), (mSvn v), (mSnp v), (mKep v), 0, (mFre v), (mFrn v), (mBuf v), (mLen v), (mSpt v), (mNum v), (mOrd v), (mLet v), (mFst v), (mSnd v), (mTok v), (mLft v)) p2 u hu) (fun ht => cwV 1 ht gX5_wring_X5_isBlock rfl rfl rfl hdX5_isBlock ⟨(Nat.le_of_ble_eq_true rfl), (Nat.le_of_ble_eq_true rfl)⟩) 0 rfl rfl [0, 1, 2, 3, 4, 5, 6, 7, 8, 9] rfl (by decide) rfl rfl (Nat.le_of_ble_eq_true rfl) dX5_wring_14 ⟨(Nat.le_of_ble_eq_true rfl), (Nat.le_of_ble_eq_true rfl)⟩) [0, 1, 2, 3, 4, 5, 6, 7, 8, 9] rfl rfl rfl rfl (fun u => [.int (b2i u)]) (fun u => rfl) (fun r3 hf => ?_)
    refine g_ifB_ne (pc := 17) (tgt := 26) (b := r3) hf C dX5_wring_17 (by decide) (fun hf => ?_) (fun hf => ?_)
    · refine g_aload_n (pc := 26) (x := (aM 0)) C dX5_wring_26 rfl ?_
      refine g_callW (wr := []) (pc' := 30) (cs' := 0) (sl' := 0) hf C (fun u => none) (fun u => (wM (kD k) aM u)) (fun u hu => gr_V (rest := []) C (cX5_save_ (kL k) C.tr (kD k) N aM ((mRow v), (mSav v), (mSvn v), (mSnp v), (mKep v), 0, (mFre v), (mFrn v), (mBuf v), (mLen v), (mSpt v), (mNum v), (mOrd v), (mLet v), (mFst v), (mSnd v), (mTok v), (mLft v)) u hu) (fun ht => cwV 0 ht gX5_wring_X5_save rfl rfl rfl hdX5_save ⟨(Nat.le_of_ble_eq_true rfl), (Nat.le_of_ble_eq_true rfl)⟩) 0 rfl rfl [0, 1, 2, 3, 4, 5, 6, 7, 8, 9] rfl (by decide) rfl rfl (Nat.le_of_ble_eq_true rfl) dX5_wring_27 ⟨(Nat.le_of_ble_eq_true rfl), (Nat.le_of_ble_eq_true rfl)⟩) [0, 1, 2, 3, 4, 5, 6, 7, 8, 9] [] rfl rfl (by decide) (by decide) [0, 1, 2, 3, 4, 5, 6, 7, 8, 9] (by decide) (ws' := fun u => (wM (kD k) aM u)) (fun u => rfl) rfl rfl rfl (fun u => []) (fun u => rfl) (fun r4 hf => ?_)
      refine g_aload_n (pc := 30) (x := (aM 0)) C dX5_wring_30 rfl ?_
      refine g_iload_n (pc := 31) (x := p1) C dX5_wring_31 rfl ?_
      refine g_iload_n (pc := 32) (x := p2) C dX5_wring_32 rfl ?_
      refine g_callW (wr := []) (pc' := 36) (cs' := 0) (sl' := 0) hf C (fun u => some (.int u.2)) (fun u => (wM (kD k) aM u.1)) (fun u hu => gr_V (rest := []) C (cX5_wringNow_ (kL k) C.tr (kD k) N aM r4 p1 p2 u hu) (fun ht => cwV 2 ht gX5_wring_X5_wringNow rfl rfl rfl hdX5_wringNow ⟨(Nat.le_of_ble_eq_true rfl), (Nat.le_of_ble_eq_true rfl)⟩) 0 rfl rfl [0, 1, 2, 3, 4, 5, 6, 7, 8, 9] rfl (by decide) rfl rfl (Nat.le_of_ble_eq_true rfl) dX5_wring_33 ⟨(Nat.le_of_ble_eq_true rfl), (Nat.le_of_ble_eq_true rfl)⟩) [0, 1, 2, 3, 4, 5, 6, 7, 8, 9] [] rfl rfl (by decide) (by decide) [0, 1, 2, 3, 4, 5, 6, 7, 8, 9] (by decide) (ws' := fun u => (wM (kD k) aM u.1)) (fun u => rfl) rfl rfl rfl (fun u => [.int u.2]) (fun u => rfl) (fun r5 hf => ?_)
      obtain rfl := Option.some.inj hf
      exact g_iret (v := r5.2) C E dX5_wring_36 (Nat.le_of_ble_eq_true rfl) (Nat.le_of_ble_eq_true rfl) ⟨rfl, rfl⟩
    · refine g_aload_n (pc := 20) (x := (aM 0)) C dX5_wring_20 rfl ?_
      refine g_iconst (pc := 21) (v := 1) C dX5_wring_21 (by decide) ?_
      refine g_callW (wr := []) (pc' := 25) (cs' := 0) (sl' := 0) hf C (fun u => some (.int u.2)) (fun u => (wM (kD k) aM u.1)) (fun u hu => gr_V (rest := []) C (cX5_fails_ (kL k) C.tr (kD k) N aM ((mRow v), (mSav v), (mSvn v), (mSnp v), (mKep v), 0, (mFre v), (mFrn v), (mBuf v), (mLen v), (mSpt v), (mNum v), (mOrd v), (mLet v), (mFst v), (mSnd v), (mTok v), (mLft v)) 1 u hu) (fun ht => cwV 1 ht gX5_wring_X5_fails rfl rfl rfl hdX5_fails ⟨(Nat.le_of_ble_eq_true rfl), (Nat.le_of_ble_eq_true rfl)⟩) 0 rfl rfl [0, 1, 2, 3, 4, 5, 6, 7, 8, 9] rfl (by decide) rfl rfl (Nat.le_of_ble_eq_true rfl) dX5_wring_22 ⟨(Nat.le_of_ble_eq_true rfl), (Nat.le_of_ble_eq_true rfl)⟩) [0, 1, 2, 3, 4, 5, 6, 7, 8, 9] [] rfl rfl (by decide) (by decide) [0, 1, 2, 3, 4, 5, 6, 7, 8, 9] (by decide) (ws' := fun u => (wM (kD k) aM u.1)) (fun u => rfl) rfl rfl rfl (fun u => [.int u.2]) (fun u => rfl) (fun r6 hf => ?_)
      obtain rfl := Option.some.inj hf
      exact g_iret (v := r6.2) C E dX5_wring_25 (Nat.le_of_ble_eq_true rfl) (Nat.le_of_ble_eq_true rfl) ⟨rfl, rfl⟩
set_option maxRecDepth 100000 in
set_option maxHeartbeats 4000000 in
theorem cX5_wring_ (l : Launch) (htr : l.stackTraces = false) (D : va_G) (N : Nat) (aM : Nat → Nat) (v : VM) (p1 : Int32) (p2 : Int32) (r : VM × Int32) (hf : fX5_wring N v p1 p2 = some r) : Tc l D yX5_wring wsX5_wring rmX5_wring [.ref (aM 0), .int p1, .int p2] (wM D aM v) (fun rv w => rv = some (.int r.2) ∧ w = (wM D aM r.1)) (fun _ _ => False) 0 0 := Tc_of htr (by decide +kernel) rfl (Nat.le_of_ble_eq_true rfl) (fun k C E hl hD => by subst hD; exact wkX5_wring C N aM v p1 p2 r hf E)
abbrev rmX5_takeOff : Room := { frames := 4, cells := 0, slots := 0, locals := 91 }
theorem inX5_takeOff_X5 : ∀ w ∈ wsX50, w ∈ wsX5_takeOff := by decide +kernel
theorem lkX5_takeOff_38 : Cond.fieldLink RX5 38 "GaugeBlocksModel" (TX5 5).2.1 (TX5 5).2.2.1 ∈ wsX5_takeOff := by decide +kernel
theorem hdX5_takeOff : yX5_takeOff.cls = RX5 ∧ yX5_takeOff.cls ≠ "java/lang/invoke/MethodHandle" ∧ yX5_takeOff.cls ≠ "java/lang/invoke/VarHandle" ∧ (parseMethodDescriptor yX5_takeOff.desc).map (fun d => d.parameters.length) = some 1 := by decide +kernel
def fX5_takeOff (N : Nat) (v : VM) (p1 : Int32) : Option (VM × Int32) := ((fX5_isStack N p1).bind fun r1 => (if r1 = true then ((fX5_height N ((mRow v), (mSav v), (mSvn v), (mSnp v), (mKep v), 0, (mFre v), (mFrn v), (mBuf v), (mLen v), (mSpt v), (mNum v), (mOrd v), (mLet v), (mFst v), (mSnd v), (mTok v), (mLft v)) p1).bind fun r2 => (if r2 = (0 : Int32) then ((fX5_fails N ((mRow v), (mSav v), (mSvn v), (mSnp v), (mKep v), 0, (mFre v), (mFrn v), (mBuf v), (mLen v), (mSpt v), (mNum v), (mOrd v), (mLet v), (mFst v), (mSnd v), (mTok v), (mLft v)) 2).bind fun r5 => some (r5.1, r5.2)) else ((fX5_save N ((mRow v), (mSav v), (mSvn v), (mSnp v), (mKep v), 0, (mFre v), (mFrn v), (mBuf v), (mLen v), (mSpt v), (mNum v), (mOrd v), (mLet v), (mFst v), (mSnd v), (mTok v), (mLft v))).bind fun r3 => ((fX5_takeNow N r3 p1).bind fun r4 => some (r4.1, r4.2))))) else ((fX5_fails N ((mRow v), (mSav v), (mSvn v), (mSnp v), (mKep v), 0, (mFre v), (mFrn v), (mBuf v), (mLen v), (mSpt v), (mNum v), (mOrd v), (mLet v), (mFst v), (mSnd v), (mTok v), (mLft v)) 1).bind fun r6 => some (r6.1, r6.2))))
set_option maxRecDepth 100000 in
set_option maxHeartbeats 4000000 in
theorem wkX5_takeOff {k : Kt} (C : gC k cX5_takeOff 2 RX5 wsX5_takeOff rmX5_takeOff "takeOff") (N : Nat) (aM : Nat → Nat) (v : VM) (p1 : Int32) (r : VM × Int32) (hf : fX5_takeOff N v p1 = some r) (E : gE k (wM (kD k) aM v) (fun rv w => rv = some (.int r.2) ∧ w = (wM (kD k) aM r.1)) (fun _ _ => False) 0 0 (some .int) []) : gG k (wM (kD k) aM v) [(0, .ref (aM 0)), (1, .int p1)] 0 0 0 [] := by
  unfold fX5_takeOff at hf
  refine g_aload_n (pc := 0) (x := (aM 0)) C dX5_takeOff_0 rfl ?_
  refine g_iconst (pc := 1) (v := 0) C dX5_takeOff_1 (by decide) ?_
  refine g_putf (pc := 2) C 0 rfl rfl inX5_takeOff_X5 tyX5 tyX5_ok nmX5 5 (by decide) lkX5_takeOff_38 rfl rfl pfX5_5 rfl rfl (Nat.le_of_ble_eq_true rfl) dX5_takeOff_2 (ws' := (wM (kD k) aM ((mRow v), (mSav v), (mSvn v), (mSnp v), (mKep v), 0, (mFre v), (mFrn v), (mBuf v), (mLen v), (mSpt v), (mNum v), (mOrd v), (mLet v), (mFst v), (mSnd v), (mTok v), (mLft v)))) rfl ?_
  refine g_iload_n (pc := 5) (x := p1) C dX5_takeOff_5 rfl ?_
  refine g_callR (pc' := 9) (cs' := 0) (sl' := 0) hf C (fun u => some (.int (b2i u))) (fun u hu => gr_S (rest := []) C (cX5_isStack_ (kL k) C.tr (kD k) N p1 u hu) (fun ht => va_cwS 1 ht gX5_takeOff_X5_isStack rfl rfl rfl hsX5_isStack ⟨(Nat.le_of_ble_eq_true rfl), (Nat.le_of_ble_eq_true rfl)⟩) [] rfl (by decide) rfl rfl (Nat.le_of_ble_eq_true rfl) dX5_takeOff_6 ⟨(Nat.le_of_ble_eq_true rfl), (Nat.le_of_ble_eq_true rfl)⟩) [] rfl rfl rfl rfl (fun u => [.int (b2i u)]) (fun u => rfl) (fun r1 hf => ?_)
  refine g_ifB_ne (pc := 9) (tgt := 18) (b := r1) hf C dX5_takeOff_9 (by decide) (fun hf => ?_) (fun hf => ?_)
  · refine g_aload_n (pc := 18) (x := (aM 0)) C dX5_takeOff_18 rfl ?_
    refine g_iload_n (pc := 19) (x := p1) C dX5_takeOff_19 rfl ?_
    refine g_callR (pc' := 23) (cs' := 0) (sl' := 0) hf C (fun u => some (.int u)) (fun u hu => gr_V (rest := []) C (cX5_height_ (kL k) C.tr (kD k) N aM ((mRow v), (mSav v), (mSvn v), (mSnp v), (mKep v), 0, (mFre v), (mFrn v), (mBuf v), (mLen v), (mSpt v), (mNum v), (mOrd v), (mLet v), (mFst v), (mSnd v), (mTok v), (mLft v)) p1 u hu) (fun ht => cwV 1 ht gX5_takeOff_X5_height rfl rfl rfl hdX5_height ⟨(Nat.le_of_ble_eq_true rfl), (Nat.le_of_ble_eq_true rfl)⟩) 0 rfl rfl [0, 1, 2, 3, 4, 5, 6, 7, 8, 9] rfl (by decide) rfl rfl (Nat.le_of_ble_eq_true rfl) dX5_takeOff_20 ⟨(Nat.le_of_ble_eq_true rfl), (Nat.le_of_ble_eq_true rfl)⟩) [0, 1, 2, 3, 4, 5, 6, 7, 8, 9] rfl rfl rfl rfl (fun u => [.int u]) (fun u => rfl) (fun r2 hf => ?_)
    refine g_if_ne (pc := 23) (tgt := 32) (x := r2) hf C dX5_takeOff_23 (by decide) (fun hf => ?_) (fun hf => ?_)
    · refine g_aload_n (pc := 32) (x := (aM 0)) C dX5_takeOff_32 rfl ?_
      refine g_callW (wr := []) (pc' := 36) (cs' := 0) (sl' := 0) hf C (fun u => none) (fun u => (wM (kD k) aM u)) (fun u hu => gr_V (rest := []) C (cX5_save_ (kL k) C.tr (kD k) N aM ((mRow v), (mSav v), (mSvn v), (mSnp v), (mKep v), 0, (mFre v), (mFrn v), (mBuf v), (mLen v), (mSpt v), (mNum v), (mOrd v), (mLet v), (mFst v), (mSnd v), (mTok v), (mLft v)) u hu) (fun ht => cwV 0 ht gX5_takeOff_X5_save rfl rfl rfl hdX5_save ⟨(Nat.le_of_ble_eq_true rfl), (Nat.le_of_ble_eq_true rfl)⟩) 0 rfl rfl [0, 1, 2, 3, 4, 5, 6, 7, 8, 9] rfl (by decide) rfl rfl (Nat.le_of_ble_eq_true rfl) dX5_takeOff_33 ⟨(Nat.le_of_ble_eq_true rfl), (Nat.le_of_ble_eq_true rfl)⟩) [0, 1, 2, 3, 4, 5, 6, 7, 8, 9] [] rfl rfl (by decide) (by decide) [0, 1, 2, 3, 4, 5, 6, 7, 8, 9] (by decide) (ws' := fun u => (wM (kD k) aM u)) (fun u => rfl) rfl rfl rfl (fun u => []) (fun u => rfl) (fun r3 hf => ?_)
      refine g_aload_n (pc := 36) (x := (aM 0)) C dX5_takeOff_36 rfl ?_
      refine g_iload_n (pc := 37) (x := p1) C dX5_takeOff_37 rfl ?_
      refine g_callW (wr := []) (pc' := 41) (cs' := 0) (sl' := 0) hf C (fun u => some (.int u.2)) (fun u => (wM (kD k) aM u.1)) (fun u hu => gr_V (rest := []) C (cX5_takeNow_ (kL k) C.tr (kD k) N aM r3 p1 u hu) (fun ht => cwV 1 ht gX5_takeOff_X5_takeNow rfl rfl rfl hdX5_takeNow ⟨(Nat.le_of_ble_eq_true rfl), (Nat.le_of_ble_eq_true rfl)⟩) 0 rfl rfl [0, 1, 2, 3, 4, 5, 6, 7, 8, 9] rfl (by decide) rfl rfl (Nat.le_of_ble_eq_true rfl) dX5_takeOff_38 ⟨(Nat.le_of_ble_eq_true rfl), (Nat.le_of_ble_eq_true rfl)⟩) [0, 1, 2, 3, 4, 5, 6, 7, 8, 9] [] rfl rfl (by decide) (by decide) [0, 1, 2, 3, 4, 5, 6, 7, 8, 9] (by decide) (ws' := fun u => (wM (kD k) aM u.1)) (fun u => rfl) rfl rfl rfl (fun u => [.int u.2]) (fun u => rfl) (fun r4 hf => ?_)
      obtain rfl := Option.some.inj hf
      exact g_iret (v := r4.2) C E dX5_takeOff_41 (Nat.le_of_ble_eq_true rfl) (Nat.le_of_ble_eq_true rfl) ⟨rfl, rfl⟩
    · refine g_aload_n (pc := 26) (x := (aM 0)) C dX5_takeOff_26 rfl ?_
      refine g_iconst (pc := 27) (v := 2) C dX5_takeOff_27 (by decide) ?_
      refine g_callW (wr := []) (pc' := 31) (cs' := 0) (sl' := 0) hf C (fun u => some (.int u.2)) (fun u => (wM (kD k) aM u.1)) (fun u hu => gr_V (rest := []) C (cX5_fails_ (kL k) C.tr (kD k) N aM ((mRow v), (mSav v), (mSvn v), (mSnp v), (mKep v), 0, (mFre v), (mFrn v), (mBuf v), (mLen v), (mSpt v), (mNum v), (mOrd v), (mLet v), (mFst v), (mSnd v), (mTok v), (mLft v)) 2 u hu) (fun ht => cwV 1 ht gX5_takeOff_X5_fails rfl rfl rfl hdX5_fails ⟨(Nat.le_of_ble_eq_true rfl), (Nat.le_of_ble_eq_true rfl)⟩) 0 rfl rfl [0, 1, 2, 3, 4, 5, 6, 7, 8, 9] rfl (by decide) rfl rfl (Nat.le_of_ble_eq_true rfl) dX5_takeOff_28 ⟨(Nat.le_of_ble_eq_true rfl), (Nat.le_of_ble_eq_true rfl)⟩) [0, 1, 2, 3, 4, 5, 6, 7, 8, 9] [] rfl rfl (by decide) (by decide) [0, 1, 2, 3, 4, 5, 6, 7, 8, 9] (by decide) (ws' := fun u => (wM (kD k) aM u.1)) (fun u => rfl) rfl rfl rfl (fun u => [.int u.2]) (fun u => rfl) (fun r5 hf => ?_)
      obtain rfl := Option.some.inj hf
      exact g_iret (v := r5.2) C E dX5_takeOff_31 (Nat.le_of_ble_eq_true rfl) (Nat.le_of_ble_eq_true rfl) ⟨rfl, rfl⟩
  · refine g_aload_n (pc := 12) (x := (aM 0)) C dX5_takeOff_12 rfl ?_
    refine g_iconst (pc := 13) (v := 1) C dX5_takeOff_13 (by decide) ?_
    refine g_callW (wr := []) (pc' := 17) (cs' := 0) (sl' := 0) hf C (fun u => some (.int u.2)) (fun u => (wM (kD k) aM u.1)) (fun u hu => gr_V (rest := []) C (cX5_fails_ (kL k) C.tr (kD k) N aM ((mRow v), (mSav v), (mSvn v), (mSnp v), (mKep v), 0, (mFre v), (mFrn v), (mBuf v), (mLen v), (mSpt v), (mNum v), (mOrd v), (mLet v), (mFst v), (mSnd v), (mTok v), (mLft v)) 1 u hu) (fun ht => cwV 1 ht gX5_takeOff_X5_fails rfl rfl rfl hdX5_fails ⟨(Nat.le_of_ble_eq_true rfl), (Nat.le_of_ble_eq_true rfl)⟩) 0 rfl rfl [0, 1, 2, 3, 4, 5, 6, 7, 8, 9] rfl (by decide) rfl rfl (Nat.le_of_ble_eq_true rfl) dX5_takeOff_14 ⟨(Nat.le_of_ble_eq_true rfl), (Nat.le_of_ble_eq_true rfl)⟩) [0, 1, 2, 3, 4, 5, 6, 7, 8, 9] [] rfl rfl (by decide) (by decide) [0, 1, 2, 3, 4, 5, 6, 7, 8, 9] (by decide) (ws' := fun u => (wM (kD k) aM u.1)) (fun u => rfl) rfl rfl rfl (fun u => [.int u.2]) (fun u => rfl) (fun r6 hf => ?_)
    obtain rfl := Option.some.inj hf
    exact g_iret (v := r6.2) C E dX5_takeOff_17 (Nat.le_of_ble_eq_true rfl) (Nat.le_of_ble_eq_true rfl) ⟨rfl, rfl⟩
set_option maxRecDepth 100000 in
set_option maxHeartbeats 4000000 in
theorem cX5_takeOff_ (l : Launch) (htr : l.stackTraces = false) (D : va_G) (N : Nat) (aM : Nat → Nat) (v : VM) (p1 : Int32) (r : VM × Int32) (hf : fX5_takeOff N v p1 = some r) : Tc l D yX5_takeOff wsX5_takeOff rmX5_takeOff [.ref (aM 0), .int p1] (wM D aM v) (fun rv w => rv = some (.int r.2) ∧ w = (wM D aM r.1)) (fun _ _ => False) 0 0 := Tc_of htr (by decide +kernel) rfl (Nat.le_of_ble_eq_true rfl) (fun k C E hl hD => by subst hD; exact wkX5_takeOff C N aM v p1 r hf E)
abbrev rmX5_makeNow : Room := { frames := 5, cells := 0, slots := 0, locals := 110 }
theorem inX5_makeNow_X5 : ∀ w ∈ wsX50, w ∈ wsX5_makeNow := by decide +kernel
theorem lkX5_makeNow_7 : Cond.fieldLink RX5 7 "GaugeBlocksModel" (TX5 0).2.1 (TX5 0).2.2.1 ∈ wsX5_makeNow := by decide +kernel
theorem hdX5_makeNow : yX5_makeNow.cls = RX5 ∧ yX5_makeNow.cls ≠ "java/lang/invoke/MethodHandle" ∧ yX5_makeNow.cls ≠ "java/lang/invoke/VarHandle" ∧ (parseMethodDescriptor yX5_makeNow.desc).map (fun d => d.parameters.length) = some 2 := by decide +kernel
def lX5_makeNow_21 (N : Nat) (l1 : Int32) (l3 : Int32) : Nat → VM → Int32 → Int32 → Int32 → Option ((VM × Int32))
  | 0, _, _, _, _ => none
  | n + 1, v, l4, l5, l6 => ck 8 149 ((if ((mRow v) (Int32.toNatClampNeg 8)) ≤ l6 then some (v, l4) else (if l5 = (0 : Int32) then some (v, l4) else (if ((l3 >>> (l6 &&& 31)) &&& 1) = (1 : Int32) then ((fX5_wringNow N v l1 l6).bind fun r1 => (if r1.2 = (0 : Int32) then (if (1 : Int32) = (0 : Int32) then (lX5_makeNow_21 N l1 l3 n r1.1 (l4 + 0) 1 (l6 + 1)) else (lX5_makeNow_21 N l1 l3 n r1.1 (l4 + 1) 1 (l6 + 1))) else (if (0 : Int32) = (0 : Int32) then (lX5_makeNow_21 N l1 l3 n r1.1 (l4 + 0) 0 (l6 + 1)) else (lX5_makeNow_21 N l1 l3 n r1.1 (l4 + 1) 0 (l6 + 1))))) else (lX5_makeNow_21 N l1 l3 n v l4 l5 (l6 + 1))))))
set_option maxRecDepth 100000 in
set_option maxHeartbeats 4000000 in
theorem wlX5_makeNow_21 {k : Kt} (C : gC k cX5_makeNow 7 RX5 wsX5_makeNow rmX5_makeNow "makeNow") (N : Nat) (aM : Nat → Nat) (l1 : Int32) (l3 : Int32) : ∀ (n : Nat) (v : VM) (l4 : Int32) (l5 : Int32) (l6 : Int32) (u : (VM × Int32)) (hf : lX5_makeNow_21 N l1 l3 n v l4 l5 l6 = some u) (hk0 : gG k (wM (kD k) aM u.1) [(4, .int u.2)] 0 0 86 []), gG k (wM (kD k) aM v) [(0, .ref (aM 0)), (1, .int l1), (3, .int l3), (4, .int l4), (5, .int l5), (6, .int l6)] 0 0 21 [] := by
  intro n
  induction n with
  | zero => intro v l4 l5 l6 u hf hk0; rw [lX5_makeNow_21] at hf; cases hf
  | succ n ih =>
    intro v l4 l5 l6 u hf hk0
    rw [lX5_makeNow_21] at hf
    refine g_iload (pc := 21) (x := l6) C dX5_makeNow_21 rfl ?_
    refine g_aload_n (pc := 23) (x := (aM 0)) C dX5_makeNow_23 rfl ?_
    refine g_getf (pc := 24) C 0 rfl rfl inX5_makeNow_X5 0 (by decide) lkX5_makeNow_7 rfl rfl dX5_makeNow_24 ?_
    refine g_bipush (pc := 27) (v := 8) C dX5_makeNow_27 (by decide) ?_
    refine g_iald (pc := 29) (i := 8) hf C 1 rfl dX5_makeNow_29 (fun hf => ?_)
    refine g_icmp_ge (pc := 30) (tgt := 86) (x := l6) (y := ((mRow v) (Int32.toNatClampNeg 8))) hf C dX5_makeNow_30 (by decide) (fun hf => ?_) (fun hf => ?_)
    · obtain rfl := Option.some.inj hf
      refine g_lv [3] (lv' := [(4, .int l4)]) rfl ?_
      exact hk0
    · refine g_iload (pc := 33) (x := l5) C dX5_makeNow_33 rfl ?_
      refine g_if_eq (pc := 35) (tgt := 86) (x := l5) hf C dX5_makeNow_35 (by decide) (fun hf => ?_) (fun hf => ?_)
      · obtain rfl := Option.some.inj hf
        refine g_lv [3] (lv' := [(4, .int l4)]) rfl ?_
        exact hk0
      · refine g_iload_n (pc := 38) (x := l3) C dX5_makeNow_38 rfl ?_
        refine g_iload (pc := 39) (x := l6) C dX5_makeNow_39 rfl ?_
        refine g_ishr (pc := 41) (x := l3) (y := l6) C dX5_makeNow_41 ?_
        refine g_iconst (pc := 42) (v := 1) C dX5_makeNow_42 (by decide) ?_
        refine g_iand (pc := 43) (x := (l3 >>> (l6 &&& 31))) (y := 1) C dX5_makeNow_43 ?_
        refine g_iconst (pc := 44) (v := 1) C dX5_makeNow_44 (by decide) ?_
        refine g_icmp_ne (pc := 45) (tgt := 80) (x := ((l3 >>> (l6 &&& 31)) &&& 1)) (y := 1) hf C dX5_makeNow_45 (by decide) (fun hf => ?_) (fun hf => ?_)
        · refine g_iinc (pc := 80) (x := l6) (v := (l6 + 1)) (lv' := [(6, .int (l6 + 1)), (0, .ref (aM 0)), (1, .int l1), (3, .int l3), (4, .int l4), (5, .int l5)]) C dX5_makeNow_80 rfl rfl (by decide) rfl ?_
          refine g_goto (pc := 83) (tgt := 21) C dX5_makeNow_83 (by decide) ?_
          refine g_lv [1, 2, 3, 4, 5, 0] (lv' := [(0, .ref (aM 0)), (1, .int l1), (3, .int l3), (4, .int l4), (5, .int l5), (6, .int (l6 + 1))]) rfl ?_
          exact ih v l4 l5 (l6 + 1) u hf hk0
        · refine g_aload_n (pc := 48) (x := (aM 0)) C dX5_makeNow_48 rfl ?_
          refine g_iload_n (pc := 49) (x := l1) C dX5_makeNow_49 rfl ?_
          refine g_iload (pc := 50) (x := l6) C dX5_makeNow_50 rfl ?_
          refine g_callW (wr := []) (pc' := 55) (cs' := 0) (sl' := 0) hf C (fun u => some (.int u.2)) (fun u => (wM (kD k) aM u.1)) (fun u hu => gr_V (rest := []) C (cX5_wringNow_ (kL k) C.tr (kD k) N aM v l1 l6 u hu) (fun ht => cwV 2 ht gX5_makeNow_X5_wringNow rfl rfl rfl hdX5_wringNow ⟨(Nat.le_of_ble_eq_true rfl), (Nat.le_of_ble_eq_true rfl)⟩) 0 rfl rfl [0, 1, 2, 3, 4, 5, 6, 7, 8, 9] rfl (by decide) rfl rfl (Nat.le_of_ble_eq_true rfl) dX5_makeNow_52 ⟨(Nat.le_of_ble_eq_true rfl), (Nat.le_of_ble_eq_true rfl)⟩) [0, 1, 2, 3, 4, 5, 6, 7, 8, 9] [] rfl rfl (by decide) (by decide) [0, 1, 2, 3, 4, 5, 6, 7, 8, 9] (by decide) (ws' := fun u => (wM (kD k) aM u.1)) (fun u => rfl) rfl rfl rfl (fun u => [.int u.2]) (fun u => rfl) (fun r1 hf => ?_)
          refine g_if_ne (pc := 55) (tgt := 62) (x := r1.2) hf C dX5_makeNow_55 (by decide) (fun hf => ?_) (fun hf => ?_)
          · refine g_iconst (pc := 62) (v := 0) C dX5_makeNow_62 (by decide) ?_
            refine g_istore (pc := 63) (lv' := [(5, .int 0), (0, .ref (aM 0)), (1, .int l1), (3, .int l3), (4, .int l4), (6, .int l6)]) C dX5_makeNow_63 (by decide) rfl ?_
            refine g_iload (pc := 65) (x := l4) C dX5_makeNow_65 rfl ?_
            refine g_iload (pc := 67) (x := 0) C dX5_makeNow_67 rfl ?_
            refine g_if_eq (pc := 69) (tgt := 76) (x := 0) hf C dX5_makeNow_69 (by decide) (fun hf => ?_) (fun hf => ?_)
            · refine g_iconst (pc := 76) (v := 0) C dX5_makeNow_76 (by decide) ?_
              refine g_iadd (pc := 77) (x := l4) (y := 0) C dX5_makeNow_77 ?_
              refine g_istore (pc := 78) (lv' := [(4, .int (l4 + 0)), (5, .int 0), (0, .ref (aM 0)), (1, .int l1), (3, .int l3), (6, .int l6)]) C dX5_makeNow_78 (by decide) rfl ?_
              refine g_iinc (pc := 80) (x := l6) (v := (l6 + 1)) (lv' := [(6, .int (l6 + 1)), (4, .int (l4 + 0)), (5, .int 0), (0, .ref (aM 0)), (1, .int l1), (3, .int l3)]) C dX5_makeNow_80 rfl rfl (by decide) rfl ?_
              refine g_goto (pc := 83) (tgt := 21) C dX5_makeNow_83 (by decide) ?_
              refine g_lv [3, 4, 5, 1, 2, 0] (lv' := [(0, .ref (aM 0)), (1, .int l1), (3, .int l3), (4, .int (l4 + 0)), (5, .int 0), (6, .int (l6 + 1))]) rfl ?_
              exact ih r1.1 (l4 + 0) 0 (l6 + 1) u hf hk0
            · refine g_iconst (pc := 72) (v := 1) C dX5_makeNow_72 (by decide) ?_
              refine g_goto (pc := 73) (tgt := 77) C dX5_makeNow_73 (by decide) ?_
              refine g_iadd (pc := 77) (x := l4) (y := 1) C dX5_makeNow_77 ?_
              refine g_istore (pc := 78) (lv' := [(4, .int (l4 + 1)), (5, .int 0), (0, .ref (aM 0)), (1, .int l1), (3, .int l3), (6, .int l6)]) C dX5_makeNow_78 (by decide) rfl ?_
              refine g_iinc (pc := 80) (x := l6) (v := (l6 + 1)) (lv' := [(6, .int (l6 + 1)), (4, .int (l4 + 1)), (5, .int 0), (0, .ref (aM 0)), (1, .int l1), (3, .int l3)]) C dX5_makeNow_80 rfl rfl (by decide) rfl ?_
              refine g_goto (pc := 83) (tgt := 21) C dX5_makeNow_83 (by decide) ?_
              refine g_lv [3, 4, 5, 1, 2, 0] (lv' := [(0, .ref (aM 0)), (1, .int l1), (3, .int l3), (4, .int (l4 + 1)), (5, .int 0), (6, .int (l6 + 1))]) rfl ?_
              exact ih r1.1 (l4 + 1) 0 (l6 + 1) u hf hk0
          · refine g_iconst (pc := 58) (v := 1) C dX5_makeNow_58 (by decide) ?_
            refine g_goto (pc := 59) (tgt := 63) C dX5_makeNow_59 (by decide) ?_
            refine g_istore (pc := 63) (lv' := [(5, .int 1), (0, .ref (aM 0)), (1, .int l1), (3, .int l3), (4, .int l4), (6, .int l6)]) C dX5_makeNow_63 (by decide) rfl ?_
            refine g_iload (pc := 65) (x := l4) C dX5_makeNow_65 rfl ?_
            refine g_iload (pc := 67) (x := 1) C dX5_makeNow_67 rfl ?_
            refine g_if_eq (pc := 69) (tgt := 76) (x := 1) hf C dX5_makeNow_69 (by decide) (fun hf => ?_) (fun hf => ?_)
            · refine g_iconst (pc := 76) (v := 0) C dX5_makeNow_76 (by decide) ?_
              refine g_iadd (pc := 77) (x := l4) (y := 0) C dX5_makeNow_77 ?_
              refine g_istore (pc := 78) (lv' := [(4, .int (l4 + 0)), (5, .int 1), (0, .ref (aM 0)), (1, .int l1), (3, .int l3), (6, .int l6)]) C dX5_makeNow_78 (by decide) rfl ?_
              refine g_iinc (pc := 80) (x := l6) (v := (l6 + 1)) (lv' := [(6, .int (l6 + 1)), (4, .int (l4 + 0)), (5, .int 1), (0, .ref (aM 0)), (1, .int l1), (3, .int l3)]) C dX5_makeNow_80 rfl rfl (by decide) rfl ?_
              refine g_goto (pc := 83) (tgt := 21) C dX5_makeNow_83 (by decide) ?_
              refine g_lv [3, 4, 5, 1, 2, 0] (lv' := [(0, .ref (aM 0)), (1, .int l1), (3, .int l3), (4, .int (l4 + 0)), (5, .int 1), (6, .int (l6 + 1))]) rfl ?_
              exact ih r1.1 (l4 + 0) 1 (l6 + 1) u hf hk0
            · refine g_iconst (pc := 72) (v := 1) C dX5_makeNow_72 (by decide) ?_
              refine g_goto (pc := 73) (tgt := 77) C dX5_makeNow_73 (by decide) ?_
              refine g_iadd (pc := 77) (x := l4) (y := 1) C dX5_makeNow_77 ?_
              refine g_istore (pc := 78) (lv' := [(4, .int (l4 + 1)), (5, .int 1), (0, .ref (aM 0)), (1, .int l1), (3, .int l3), (6, .int l6)]) C dX5_makeNow_78 (by decide) rfl ?_
              refine g_iinc (pc := 80) (x := l6) (v := (l6 + 1)) (lv' := [(6, .int (l6 + 1)), (4, .int (l4 + 1)), (5, .int 1), (0, .ref (aM 0)), (1, .int l1), (3, .int l3)]) C dX5_makeNow_80 rfl rfl (by decide) rfl ?_
              refine g_goto (pc := 83) (tgt := 21) C dX5_makeNow_83 (by decide) ?_
              refine g_lv [3, 4, 5, 1, 2, 0] (lv' := [(0, .ref (aM 0)), (1, .int l1), (3, .int l3), (4, .int (l4 + 1)), (5, .int 1), (6, .int (l6 + 1))]) rfl ?_
              exact ih r1.1 (l4 + 1) 1 (l6 + 1) u hf hk0
def fX5_makeNow (N : Nat) (v : VM) (p1 : Int32) (p2 : Int32) : Option (VM × Int32) := ((fX5_fewestFor N v p2).bind fun r1 => (if r1.2 = (0 : Int32) then some (r1.1, (-1)) else ((lX5_makeNow_21 N p1 r1.2 N r1.1 0 1 0).bind fun r2 => some (r2.1, r2.2))))
set_option maxRecDepth 100000 in
set_option maxHeartbeats 4000000 in
theorem wkX5_makeNow {k : Kt} (C : gC k cX5_makeNow 7 RX5 wsX5_makeNow rmX5_makeNow "makeNow") (N : Nat) (aM : Nat → Nat) (v : VM) (p1 : Int32) (p2 : Int32) (r : VM × Int32) (hf : fX5_makeNow N v p1 p2 = some r) (E : gE k (wM (kD k) aM v) (fun rv w => rv = some (.int r.2) ∧ w = (wM (kD k) aM r.1)) (fun _ _ => False) 0 0 (some .int) []) : gG k (wM (kD k) aM v) [(0, .ref (aM 0)), (1, .int p1), (2, .int p2)] 0 0 0 [] := by
  unfold fX5_makeNow at hf
  refine g_aload_n (pc := 0) (x := (aM 0)) C dX5_makeNow_0 rfl ?_
  refine g_iload_n (pc := 1) (x := p2) C dX5_makeNow_1 rfl ?_
  refine g_callW (wr := []) (pc' := 5) (cs' := 0) (sl' := 0) hf C (fun u => some (.int u.2)) (fun u => (wM (kD k) aM u.1)) (fun u hu => gr_V (rest := []) C (cX5_fewestFor_ (kL k) C.tr (kD k) N aM v p2 u hu) (fun ht => cwV 1 ht gX5_makeNow_X5_fewestFor rfl rfl rfl hdX5_fewestFor ⟨(Nat.le_of_ble_eq_true rfl), (Nat.le_of_ble_eq_true rfl)⟩) 0 rfl rfl [0, 1, 2, 3, 4, 5, 6, 7, 8, 9] rfl (by decide) rfl rfl (Nat.le_of_ble_eq_true rfl) dX5_makeNow_2 ⟨(Nat.le_of_ble_eq_true rfl), (Nat.le_of_ble_eq_true rfl)⟩) [0, 1, 2, 3, 4, 5, 6, 7, 8, 9] [] rfl rfl (by decide) (by decide) [0, 1, 2, 3, 4, 5, 6, 7, 8, 9] (by decide) (ws' := fun u => (wM (kD k) aM u.1)) (fun u => rfl) rfl rfl rfl (fun u => [.int u.2]) (fun u => rfl) (fun r1 hf => ?_)
  refine g_istore_n (pc := 5) (lv' := [(3, .int r1.2), (0, .ref (aM 0)), (1, .int p1), (2, .int p2)]) C dX5_makeNow_5 (by decide) rfl ?_
  refine g_iload_n (pc := 6) (x := r1.2) C dX5_makeNow_6 rfl ?_
  refine g_if_ne (pc := 7) (tgt := 12) (x := r1.2) hf C dX5_makeNow_7 (by decide) (fun hf => ?_) (fun hf => ?_)
  · refine g_iconst (pc := 12) (v := 0) C dX5_makeNow_12 (by decide) ?_
    refine g_istore (pc := 13) (lv' := [(4, .int 0), (3, .int r1.2), (0, .ref (aM 0)), (1, .int p1), (2, .int p2)]) C dX5_makeNow_13 (by decide) rfl ?_
    refine g_iconst (pc := 15) (v := 1) C dX5_makeNow_15 (by decide) ?_
    refine g_istore (pc := 16) (lv' := [(5, .int 1), (4, .int 0), (3, .int r1.2), (0, .ref (aM 0)), (1, .int p1), (2, .int p2)]) C dX5_makeNow_16 (by decide) rfl ?_
    refine g_iconst (pc := 18) (v := 0) C dX5_makeNow_18 (by decide) ?_
    refine g_istore (pc := 19) (lv' := [(6, .int 0), (5, .int 1), (4, .int 0), (3, .int r1.2), (0, .ref (aM 0)), (1, .int p1), (2, .int p2)]) C dX5_makeNow_19 (by decide) rfl ?_
    obtain ⟨r2, h2, hf⟩ := bd_e hf
    refine g_lv [4, 5, 3, 2, 1, 0] (lv' := [(0, .ref (aM 0)), (1, .int p1), (3, .int r1.2), (4, .int 0), (5, .int 1), (6, .int 0)]) rfl ?_
    refine wlX5_makeNow_21 C N aM p1 r1.2 N r1.1 0 1 0 r2 h2 ?_
    refine g_iload (pc := 86) (x := r2.2) C dX5_makeNow_86 rfl ?_
    obtain rfl := Option.some.inj hf
    exact g_iret (v := r2.2) C E dX5_makeNow_88 (Nat.le_of_ble_eq_true rfl) (Nat.le_of_ble_eq_true rfl) ⟨rfl, rfl⟩
  · refine g_iconst (pc := 10) (v := (-1)) C dX5_makeNow_10 (by decide) ?_
    obtain rfl := Option.some.inj hf
    exact g_iret (v := (-1)) C E dX5_makeNow_11 (Nat.le_of_ble_eq_true rfl) (Nat.le_of_ble_eq_true rfl) ⟨rfl, rfl⟩
set_option maxRecDepth 100000 in
set_option maxHeartbeats 4000000 in
theorem cX5_makeNow_ (l : Launch) (htr : l.stackTraces = false) (D : va_G) (N : Nat) (aM : Nat → Nat) (v : VM) (p1 : Int32) (p2 : Int32) (r : VM × Int32) (hf : fX5_makeNow N v p1 p2 = some r) : Tc l D yX5_makeNow wsX5_makeNow rmX5_makeNow [.ref (aM 0), .int p1, .int p2] (wM D aM v) (fun rv w => rv = some (.int r.2) ∧ w = (wM D aM r.1)) (fun _ _ => False) 0 0 := Tc_of htr (by decide +kernel) rfl (Nat.le_of_ble_eq_true rfl) (fun k C E hl hD => by subst hD; exact wkX5_makeNow C N aM v p1 p2 r hf E)
abbrev rmX5_make : Room := { frames := 6, cells := 0, slots := 0, locals := 136 }
theorem inX5_make_X5 : ∀ w ∈ wsX50, w ∈ wsX5_make := by decide +kernel
theorem lkX5_make_38 : Cond.fieldLink RX5 38 "GaugeBlocksModel" (TX5 5).2.1 (TX5 5).2.2.1 ∈ wsX5_make := by decide +kernel
theorem hdX5_make : yX5_make.cls = RX5 ∧ yX5_make.cls ≠ "java/lang/invoke/MethodHandle" ∧ yX5_make.cls ≠ "java/lang/invoke/VarHandle" ∧ (parseMethodDescriptor yX5_make.desc).map (fun d => d.parameters.length) = some 2 := by decide +kernel
def fX5_make (N : Nat) (v : VM) (p1 : Int32) (p2 : Int32) : Option (VM × Int32) := ((fX5_isStack N p1).bind fun r1 => (if r1 = true then ((fX5_isLength N p2).bind fun r2 => (if r2 = true then ((fX5_height N ((mRow v), (mSav v), (mSvn v), (mSnp v), (mKep v), 0, (mFre v), (mFrn v), (mBuf v), (mLen v), (mSpt v), (mNum v), (mOrd v), (mLet v), (mFst v), (mSnd v), (mTok v), (mLft v)) p1).bind fun r3 => (if r3 ≤ (0 : Int32) then ((fX5_save N ((mRow v), (mSav v), (mSvn v), (mSnp v), (mKep v), 0, (mFre v), (mFrn v), (mBuf v), (mLen v), (mSpt v), (mNum v), (mOrd v), (mLet v), (mFst v), (mSnd v), (mTok v), (mLft v))).bind fun r4 => ((fX5_makeNow N r4 p1 p2).bind fun r5 => some (r5.1, r5.2))) else ((fX5_fails N ((mRow v), (mSav v), (mSvn v), (mSnp v), (mKep v), 0, (mFre v), (mFrn v), (mBuf v), (mLen v), (mSpt v), (mNum v), (mOrd v), (mLet v), (mFst v), (mSnd v), (mTok v), (mLft v)) 3).bind fun r6 => some (r6.1, r6.2)))) else ((fX5_fails N ((mRow v), (mSav v), (mSvn v), (mSnp v), (mKep v), 0, (mFre v), (mFrn v), (mBuf v), (mLen v), (mSpt v), (mNum v), (mOrd v), (mLet v), (mFst v), (mSnd v), (mTok v), (mLft v)) 2).bind fun r7 => some (r7.1, r7.2)))) else ((fX5_fails N ((mRow v), (mSav v), (mSvn v), (mSnp v), (mKep v), 0, (mFre v), (mFrn v), (mBuf v), (mLen v), (mSpt v), (mNum v), (mOrd v), (mLet v), (mFst v), (mSnd v), (mTok v), (mLft v)) 1).bind fun r8 => some (r8.1, r8.2))))
set_option maxRecDepth 100000 in
set_option maxHeartbeats 4000000 in
theorem wkX5_make {k : Kt} (C : gC k cX5_make 3 RX5 wsX5_make rmX5_make "make") (N : Nat) (aM : Nat → Nat) (v : VM) (p1 : Int32) (p2 : Int32) (r : VM × Int32) (hf : fX5_make N v p1 p2 = some r) (E : gE k (wM (kD k) aM v) (fun rv w => rv = some (.int r.2) ∧ w = (wM (kD k) aM r.1)) (fun _ _ => False) 0 0 (some .int) []) : gG k (wM (kD k) aM v) [(0, .ref (aM 0)), (1, .int p1), (2, .int p2)] 0 0 0 [] := by
  unfold fX5_make at hf
  refine g_aload_n (pc := 0) (x := (aM 0)) C dX5_make_0 rfl ?_
  refine g_iconst (pc := 1) (v := 0) C dX5_make_1 (by decide) ?_
  refine g_putf (pc := 2) C 0 rfl rfl inX5_make_X5 tyX5 tyX5_ok nmX5 5 (by decide) lkX5_make_38 rfl rfl pfX5_5 rfl rfl (Nat.le_of_ble_eq_true rfl) dX5_make_2 (ws' := (wM (kD k) aM ((mRow v), (mSav v), (mSvn v), (mSnp v), (mKep v), 0, (mFre v), (mFrn v), (mBuf v), (mLen v), (mSpt v), (mNum v), (mOrd v), (mLet v), (mFst v), (mSnd v), (mTok v), (mLft v)))) rfl ?_
  refine g_iload_n (pc := 5) (x := p1) C dX5_make_5 rfl ?_
  refine g_callR (pc' := 9) (cs' := 0) (sl' := 0) hf C (fun u => some (.int (b2i u))) (fun u hu => gr_S (rest := []) C (cX5_isStack_ (kL k) C.tr (kD k) N p1 u hu) (fun ht => va_cwS 1 ht gX5_make_X5_isStack rfl rfl rfl hsX5_isStack ⟨(Nat.le_of_ble_eq_true rfl), (Nat.le_of_ble_eq_true rfl)⟩) [] rfl (by decide) rfl rfl (Nat.le_of_ble_eq_true rfl) dX5_make_6 ⟨(Nat.le_of_ble_eq_true rfl), (Nat.le_of_ble_eq_true rfl)⟩) [] rfl rfl rfl rfl (fun u => [.int (b2i u)]) (fun u => rfl) (fun r1 hf => ?_)
  refine g_ifB_ne (pc := 9) (tgt := 18) (b := r1) hf C dX5_make_9 (by decide) (fun hf => ?_) (fun hf => ?_)
  · refine g_iload_n (pc := 18) (x := p2) C dX5_make_18 rfl ?_
    refine g_callR (pc' := 22) (cs' := 0) (sl' := 0) hf C (fun u => some (.int (b2i u))) (fun u hu => gr_S (rest := []) C (cX5_isLength_ (kL k) C.tr (kD k) N p2 u hu) (fun ht => va_cwS 1 ht gX5_make_X5_isLength rfl rfl rfl hsX5_isLength ⟨(Nat.le_of_ble_eq_true rfl), (Nat.le_of_ble_eq_true rfl)⟩) [] rfl (by decide) rfl rfl (Nat.le_of_ble_eq_true rfl) dX5_make_19 ⟨(Nat.le_of_ble_eq_true rfl), (Nat.le_of_ble_eq_true rfl)⟩) [] rfl rfl rfl rfl (fun u => [.int (b2i u)]) (fun u => rfl) (fun r2 hf => ?_)
    refine g_ifB_ne (pc := 22) (tgt := 31) (b := r2) hf C dX5_make_22 (by decide) (fun hf => ?_) (fun hf => ?_)
    · refine g_aload_n (pc := 31) (x := (aM 0)) C dX5_make_31 rfl ?_
      refine g_iload_n (pc := 32) (x := p1) C dX5_make_32 rfl ?_
      refine g_callR (pc' := 36) (cs' := 0) (sl' := 0) hf C (fun u => some (.int u)) (fun u hu => gr_V (rest := []) C (cX5_height_ (kL k) C.tr (kD k) N aM ((mRow v), (mSav v), (mSvn v), (mSnp v), (mKep v), 0, (mFre v), (mFrn v), (mBuf v), (mLen v), (mSpt v), (mNum v), (mOrd v), (mLet v), (mFst v), (mSnd v), (mTok v), (mLft v)) p1 u hu) (fun ht => cwV 1 ht gX5_make_X5_height rfl rfl rfl hdX5_height ⟨(Nat.le_of_ble_eq_true rfl), (Nat.le_of_ble_eq_true rfl)⟩) 0 rfl rfl [0, 1, 2, 3, 4, 5, 6, 7, 8, 9] rfl (by decide) rfl rfl (Nat.le_of_ble_eq_true rfl) dX5_make_33 ⟨(Nat.le_of_ble_eq_true rfl), (Nat.le_of_ble_eq_true rfl)⟩) [0, 1, 2, 3, 4, 5, 6, 7, 8, 9] rfl rfl rfl rfl (fun u => [.int u]) (fun u => rfl) (fun r3 hf => ?_)
      refine g_if_le (pc := 36) (tgt := 45) (x := r3) hf C dX5_make_36 (by decide) (fun hf => ?_) (fun hf => ?_)
      · refine g_aload_n (pc := 45) (x := (aM 0)) C dX5_make_45 rfl ?_
        refine g_callW (wr := []) (pc' := 49) (cs' := 0) (sl' := 0) hf C (fun u => none) (fun u => (wM (kD k) aM u)) (fun u hu => gr_V (rest := []) C (cX5_save_ (kL k) C.tr (kD k) N aM ((mRow v), (mSav v), (mSvn v), (mSnp v), (mKep v), 0, (mFre v), (mFrn v), (mBuf v), (mLen v), (mSpt v), (mNum v), (mOrd v), (mLet v), (mFst v), (mSnd v), (mTok v), (mLft v)) u hu) (fun ht => cwV 0 ht gX5_make_X5_save rfl rfl rfl hdX5_save ⟨(Nat.le_of_ble_eq_true rfl), (Nat.le_of_ble_eq_true rfl)⟩) 0 rfl rfl [0, 1, 2, 3, 4, 5, 6, 7, 8, 9] rfl (by decide) rfl rfl (Nat.le_of_ble_eq_true rfl) dX5_make_46 ⟨(Nat.le_of_ble_eq_true rfl), (Nat.le_of_ble_eq_true rfl)⟩) [0, 1, 2, 3, 4, 5, 6, 7, 8, 9] [] rfl rfl (by decide) (by decide) [0, 1, 2, 3, 4, 5, 6, 7, 8, 9] (by decide) (ws' := fun u => (wM (kD k) aM u)) (fun u => rfl) rfl rfl rfl (fun u => []) (fun u => rfl) (fun r4 hf => ?_)
        refine g_aload_n (pc := 49) (x := (aM 0)) C dX5_make_49 rfl ?_
        refine g_iload_n (pc := 50) (x := p1) C dX5_make_50 rfl ?_
        refine g_iload_n (pc := 51) (x := p2) C dX5_make_51 rfl ?_
        refine g_callW (wr := []) (pc' := 55) (cs' := 0) (sl' := 0) hf C (fun u => some (.int u.2)) (fun u => (wM (kD k) aM u.1)) (fun u hu => gr_V (rest := []) C (cX5_makeNow_ (kL k) C.tr (kD k) N aM r4 p1 p2 u hu) (fun ht => cwV 2 ht gX5_make_X5_makeNow rfl rfl rfl hdX5_makeNow ⟨(Nat.le_of_ble_eq_true rfl), (Nat.le_of_ble_eq_true rfl)⟩) 0 rfl rfl [0, 1, 2, 3, 4, 5, 6, 7, 8, 9] rfl (by decide) rfl rfl (Nat.le_of_ble_eq_true rfl) dX5_make_52 ⟨(Nat.le_of_ble_eq_true rfl), (Nat.le_of_ble_eq_true rfl)⟩) [0, 1, 2, 3, 4, 5, 6, 7, 8, 9] [] rfl rfl (by decide) (by decide) [0, 1, 2, 3, 4, 5, 6, 7, 8, 9] (by decide) (ws' := fun u => (wM (kD k) aM u.1)) (fun u => rfl) rfl rfl rfl (fun u => [.int u.2]) (fun u => rfl) (fun r5 hf => ?_)
        obtain rfl := Option.some.inj hf
        exact g_iret (v := r5.2) C E dX5_make_55 (Nat.le_of_ble_eq_true rfl) (Nat.le_of_ble_eq_true rfl) ⟨rfl, rfl⟩
      · refine g_aload_n (pc := 39) (x := (aM 0)) C dX5_make_39 rfl ?_
        refine g_iconst (pc := 40) (v := 3) C dX5_make_40 (by decide) ?_
        refine g_callW (wr := []) (pc' := 44) (cs' := 0) (sl' := 0) hf C (fun u => some (.int u.2)) (fun u => (wM (kD k) aM u.1)) (fun u hu => gr_V (rest := []) C (cX5_fails_ (kL k) C.tr (kD k) N aM ((mRow v), (mSav v), (mSvn v), (mSnp v), (mKep v), 0, (mFre v), (mFrn v), (mBuf v), (mLen v), (mSpt v), (mNum v), (mOrd v), (mLet v), (mFst v), (mSnd v), (mTok v), (mLft v)) 3 u hu) (fun ht => cwV 1 ht gX5_make_X5_fails rfl rfl rfl hdX5_fails ⟨(Nat.le_of_ble_eq_true rfl), (Nat.le_of_ble_eq_true rfl)⟩) 0 rfl rfl [0, 1, 2, 3, 4, 5, 6, 7, 8, 9] rfl (by decide) rfl rfl (Nat.le_of_ble_eq_true rfl) dX5_make_41 ⟨(Nat.le_of_ble_eq_true rfl), (Nat.le_of_ble_eq_true rfl)⟩) [0, 1, 2, 3, 4, 5, 6, 7, 8, 9] [] rfl rfl (by decide) (by decide) [0, 1, 2, 3, 4, 5, 6, 7, 8, 9] (by decide) (ws' := fun u => (wM (kD k) aM u.1)) (fun u => rfl) rfl rfl rfl (fun u => [.int u.2]) (fun u => rfl) (fun r6 hf => ?_)
        obtain rfl := Option.some.inj hf
        exact g_iret (v := r6.2) C E dX5_make_44 (Nat.le_of_ble_eq_true rfl) (Nat.le_of_ble_eq_true rfl) ⟨rfl, rfl⟩
    · refine g_aload_n (pc := 25) (x := (aM 0)) C dX5_make_25 rfl ?_
      refine g_iconst (pc := 26) (v := 2) C dX5_make_26 (by decide) ?_
      refine g_callW (wr := []) (pc' := 30) (cs' := 0) (sl' := 0) hf C (fun u => some (.int u.2)) (fun u => (wM (kD k) aM u.1)) (fun u hu => gr_V (rest := []) C (cX5_fails_ (kL k) C.tr (kD k) N aM ((mRow v), (mSav v), (mSvn v), (mSnp v), (mKep v), 0, (mFre v), (mFrn v), (mBuf v), (mLen v), (mSpt v), (mNum v), (mOrd v), (mLet v), (mFst v), (mSnd v), (mTok v), (mLft v)) 2 u hu) (fun ht => cwV 1 ht gX5_make_X5_fails rfl rfl rfl hdX5_fails ⟨(Nat.le_of_ble_eq_true rfl), (Nat.le_of_ble_eq_true rfl)⟩) 0 rfl rfl [0, 1, 2, 3, 4, 5, 6, 7, 8, 9] rfl (by decide) rfl rfl (Nat.le_of_ble_eq_true rfl) dX5_make_27 ⟨(Nat.le_of_ble_eq_true rfl), (Nat.le_of_ble_eq_true rfl)⟩) [0, 1, 2, 3, 4, 5, 6, 7, 8, 9] [] rfl rfl (by decide) (by decide) [0, 1, 2, 3, 4, 5, 6, 7, 8, 9] (by decide) (ws' := fun u => (wM (kD k) aM u.1)) (fun u => rfl) rfl rfl rfl (fun u => [.int u.2]) (fun u => rfl) (fun r7 hf => ?_)
      obtain rfl := Option.some.inj hf
      exact g_iret (v := r7.2) C E dX5_make_30 (Nat.le_of_ble_eq_true rfl) (Nat.le_of_ble_eq_true rfl) ⟨rfl, rfl⟩
  · refine g_aload_n (pc := 12) (x := (aM 0)) C dX5_make_12 rfl ?_
    refine g_iconst (pc := 13) (v := 1) C dX5_make_13 (by decide) ?_
    refine g_callW (wr := []) (pc' := 17) (cs' := 0) (sl' := 0) hf C (fun u => some (.int u.2)) (fun u => (wM (kD k) aM u.1)) (fun u hu => gr_V (rest := []) C (cX5_fails_ (kL k) C.tr (kD k) N aM ((mRow v), (mSav v), (mSvn v), (mSnp v), (mKep v), 0, (mFre v), (mFrn v), (mBuf v), (mLen v), (mSpt v), (mNum v), (mOrd v), (mLet v), (mFst v), (mSnd v), (mTok v), (mLft v)) 1 u hu) (fun ht => cwV 1 ht gX5_make_X5_fails rfl rfl rfl hdX5_fails ⟨(Nat.le_of_ble_eq_true rfl), (Nat.le_of_ble_eq_true rfl)⟩) 0 rfl rfl [0, 1, 2, 3, 4, 5, 6, 7, 8, 9] rfl (by decide) rfl rfl (Nat.le_of_ble_eq_true rfl) dX5_make_14 ⟨(Nat.le_of_ble_eq_true rfl), (Nat.le_of_ble_eq_true rfl)⟩) [0, 1, 2, 3, 4, 5, 6, 7, 8, 9] [] rfl rfl (by decide) (by decide) [0, 1, 2, 3, 4, 5, 6, 7, 8, 9] (by decide) (ws' := fun u => (wM (kD k) aM u.1)) (fun u => rfl) rfl rfl rfl (fun u => [.int u.2]) (fun u => rfl) (fun r8 hf => ?_)
    obtain rfl := Option.some.inj hf
    exact g_iret (v := r8.2) C E dX5_make_17 (Nat.le_of_ble_eq_true rfl) (Nat.le_of_ble_eq_true rfl) ⟨rfl, rfl⟩
set_option maxRecDepth 100000 in
set_option maxHeartbeats 4000000 in
theorem cX5_make_ (l : Launch) (htr : l.stackTraces = false) (D : va_G) (N : Nat) (aM : Nat → Nat) (v : VM) (p1 : Int32) (p2 : Int32) (r : VM × Int32) (hf : fX5_make N v p1 p2 = some r) : Tc l D yX5_make wsX5_make rmX5_make [.ref (aM 0), .int p1, .int p2] (wM D aM v) (fun rv w => rv = some (.int r.2) ∧ w = (wM D aM r.1)) (fun _ _ => False) 0 0 := Tc_of htr (by decide +kernel) rfl (Nat.le_of_ble_eq_true rfl) (fun k C E hl hD => by subst hD; exact wkX5_make C N aM v p1 p2 r hf E)
abbrev rmX5_append : Room := { frames := 1, cells := 0, slots := 0, locals := 22 }
theorem inX5_append_X5 : ∀ w ∈ wsX50, w ∈ wsX5_append := by decide +kernel
theorem lkX5_append_38 : Cond.fieldLink RX5 38 "GaugeBlocksModel" (TX5 5).2.1 (TX5 5).2.2.1 ∈ wsX5_append := by decide +kernel
theorem lkX5_append_147 : Cond.fieldLink RX5 147 "GaugeBlocksModel" (TX5 9).2.1 (TX5 9).2.2.1 ∈ wsX5_append := by decide +kernel
theorem lkX5_append_26 : Cond.fieldLink RX5 26 "GaugeBlocksModel" (TX5 8).2.1 (TX5 8).2.2.1 ∈ wsX5_append := by decide +kernel
theorem hdX5_append : yX5_append.cls = RX5 ∧ yX5_append.cls ≠ "java/lang/invoke/MethodHandle" ∧ yX5_append.cls ≠ "java/lang/invoke/VarHandle" ∧ (parseMethodDescriptor yX5_append.desc).map (fun d => d.parameters.length) = some 1 := by decide +kernel
def fX5_append (N : Nat) (v : VM) (p1 : Int32) : Option (VM × Int32) := ((fX5_in N p1 33 126).bind fun r1 => (if r1 = true then (if (mLen v) = (60 : Int32) then ((fX5_fails N ((mRow v), (mSav v), (mSvn v), (mSnp v), (mKep v), 0, (mFre v), (mFrn v), (mBuf v), (mLen v), (mSpt v), (mNum v), (mOrd v), (mLet v), (mFst v), (mSnd v), (mTok v), (mLft v)) 2).bind fun r2 => some (r2.1, r2.2)) else ck (mLen v) 60 (some (((mRow v), (mSav v), (mSvn v), (mSnp v), (mKep v), 0, (mFre v), (mFrn v), (upd (mBuf v) (Int32.toNatClampNeg (mLen v)) p1), ((mLen v) + 1), (mSpt v), (mNum v), (mOrd v), (mLet v), (mFst v), (mSnd v), (mTok v), (mLft v)), ((mLen v) + 1)))) else ((fX5_fails N ((mRow v), (mSav v), (mSvn v), (mSnp v), (mKep v), 0, (mFre v), (mFrn v), (mBuf v), (mLen v), (mSpt v), (mNum v), (mOrd v), (mLet v), (mFst v), (mSnd v), (mTok v), (mLft v)) 1).bind fun r3 => some (r3.1, r3.2))))
set_option maxRecDepth 100000 in
set_option maxHeartbeats 4000000 in
theorem wkX5_append {k : Kt} (C : gC k cX5_append 2 RX5 wsX5_append rmX5_append "append") (N : Nat) (aM : Nat → Nat) (v : VM) (p1 : Int32) (r : VM × Int32) (hf : fX5_append N v p1 = some r) (E : gE k (wM (kD k) aM v) (fun rv w => rv = some (.int r.2) ∧ w = (wM (kD k) aM r.1)) (fun _ _ => False) 0 0 (some .int) []) : gG k (wM (kD k) aM v) [(0, .ref (aM 0)), (1, .int p1)] 0 0 0 [] := by
  unfold fX5_append at hf
  refine g_aload_n (pc := 0) (x := (aM 0)) C dX5_append_0 rfl ?_
  refine g_iconst (pc := 1) (v := 0) C dX5_append_1 (by decide) ?_
  refine g_putf (pc := 2) C 0 rfl rfl inX5_append_X5 tyX5 tyX5_ok nmX5 5 (by decide) lkX5_append_38 rfl rfl pfX5_5 rfl rfl (Nat.le_of_ble_eq_true rfl) dX5_append_2 (ws' := (wM (kD k) aM ((mRow v), (mSav v), (mSvn v), (mSnp v), (mKep v), 0, (mFre v), (mFrn v), (mBuf v), (mLen v), (mSpt v), (mNum v), (mOrd v), (mLet v), (mFst v), (mSnd v), (mTok v), (mLft v)))) rfl ?_
  refine g_iload_n (pc := 5) (x := p1) C dX5_append_5 rfl ?_
  refine g_bipush (pc := 6) (v := 33) C dX5_append_6 (by decide) ?_
  refine g_bipush (pc := 8) (v := 126) C dX5_append_8 (by decide) ?_
  refine g_callR (pc' := 13) (cs' := 0) (sl' := 0) hf C (fun u => some (.int (b2i u))) (fun u hu => gr_S (rest := []) C (cX5_in_ (kL k) C.tr (kD k) N p1 33 126 u hu) (fun ht => va_cwS 3 ht gX5_append_X5_in rfl rfl rfl hsX5_in ⟨(Nat.le_of_ble_eq_true rfl), (Nat.le_of_ble_eq_true rfl)⟩) [] rfl (by decide) rfl rfl (Nat.le_of_ble_eq_true rfl) dX5_append_10 ⟨(Nat.le_of_ble_eq_true rfl), (Nat.le_of_ble_eq_true rfl)⟩) [] rfl rfl rfl rfl (fun u => [.int (b2i u)]) (fun u => rfl) (fun r1 hf => ?_)
  refine g_ifB_ne (pc := 13) (tgt := 22) (b := r1) hf C dX5_append_13 (by decide) (fun hf => ?_) (fun hf => ?_)
  · refine g_aload_n (pc := 22) (x := (aM 0)) C dX5_append_22 rfl ?_
    refine g_getf (pc := 23) C 0 rfl rfl inX5_append_X5 9 (by decide) lkX5_append_147 rfl rfl dX5_append_23 ?_
    refine g_bipush (pc := 26) (v := 60) C dX5_append_26 (by decide) ?_
    refine g_icmp_ne (pc := 28) (tgt := 37) (x := (mLen v)) (y := 60) hf C dX5_append_28 (by decide) (fun hf => ?_) (fun hf => ?_)
    · refine g_aload_n (pc := 37) (x := (aM 0)) C dX5_append_37 rfl ?_
      refine g_getf (pc := 38) C 0 rfl rfl inX5_append_X5 8 (by decide) lkX5_append_26 rfl rfl dX5_append_38 ?_
      refine g_aload_n (pc := 41) (x := (aM 0)) C dX5_append_41 rfl ?_
      refine g_getf (pc := 42) C 0 rfl rfl inX5_append_X5 9 (by decide) lkX5_append_147 rfl rfl dX5_append_42 ?_
      refine g_iload_n (pc := 45) (x := p1) C dX5_append_45 rfl ?_
      refine g_iast (pc := 46) (i := (mLen v)) (x := p1) hf C 6 rfl dX5_append_46 (ws' := (wM (kD k) aM ((mRow v), (mSav v), (mSvn v), (mSnp v), (mKep v), 0, (mFre v), (mFrn v), (upd (mBuf v) (Int32.toNatClampNeg (mLen v)) p1), (mLen v), (mSpt v), (mNum v), (mOrd v), (mLet v), (mFst v), (mSnd v), (mTok v), (mLft v)))) rfl (fun hf => ?_)
      refine g_aload_n (pc := 47) (x := (aM 0)) C dX5_append_47 rfl ?_
      refine g_dup (pc := 48) C dX5_append_48 rfl ?_
      refine g_getf (pc := 49) C 0 rfl rfl inX5_append_X5 9 (by decide) lkX5_append_147 rfl rfl dX5_append_49 ?_
      refine g_iconst (pc := 52) (v := 1) C dX5_append_52 (by decide) ?_
      refine g_iadd (pc := 53) (x := (mLen v)) (y := 1) C dX5_append_53 ?_
      refine g_putf (pc := 54) C 0 rfl rfl inX5_append_X5 tyX5 tyX5_ok nmX5 9 (by decide) lkX5_append_147 rfl rfl pfX5_9 rfl rfl (Nat.le_of_ble_eq_true rfl) dX5_append_54 (ws' := (wM (kD k) aM ((mRow v), (mSav v), (mSvn v), (mSnp v), (mKep v), 0, (mFre v), (mFrn v), (upd (mBuf v) (Int32.toNatClampNeg (mLen v)) p1), ((mLen v) + 1), (mSpt v), (mNum v), (mOrd v), (mLet v), (mFst v), (mSnd v), (mTok v), (mLft v)))) rfl ?_
      refine g_aload_n (pc := 57) (x := (aM 0)) C dX5_append_57 rfl ?_
      refine g_getf (pc := 58) C 0 rfl rfl inX5_append_X5 9 (by decide) lkX5_append_147 rfl rfl dX5_append_58 ?_
      obtain rfl := Option.some.inj hf
      exact g_iret (v := ((mLen v) + 1)) C E dX5_append_61 (Nat.le_of_ble_eq_true rfl) (Nat.le_of_ble_eq_true rfl) ⟨rfl, rfl⟩
    · refine g_aload_n (pc := 31) (x := (aM 0)) C dX5_append_31 rfl ?_
      refine g_iconst (pc := 32) (v := 2) C dX5_append_32 (by decide) ?_
      refine g_callW (wr := []) (pc' := 36) (cs' := 0) (sl' := 0) hf C (fun u => some (.int u.2)) (fun u => (wM (kD k) aM u.1)) (fun u hu => gr_V (rest := []) C (cX5_fails_ (kL k) C.tr (kD k) N aM ((mRow v), (mSav v), (mSvn v), (mSnp v), (mKep v), 0, (mFre v), (mFrn v), (mBuf v), (mLen v), (mSpt v), (mNum v), (mOrd v), (mLet v), (mFst v), (mSnd v), (mTok v), (mLft v)) 2 u hu) (fun ht => cwV 1 ht gX5_append_X5_fails rfl rfl rfl hdX5_fails ⟨(Nat.le_of_ble_eq_true rfl), (Nat.le_of_ble_eq_true rfl)⟩) 0 rfl rfl [0, 1, 2, 3, 4, 5, 6, 7, 8, 9] rfl (by decide) rfl rfl (Nat.le_of_ble_eq_true rfl) dX5_append_33 ⟨(Nat.le_of_ble_eq_true rfl), (Nat.le_of_ble_eq_true rfl)⟩) [0, 1, 2, 3, 4, 5, 6, 7, 8, 9] [] rfl rfl (by decide) (by decide) [0, 1, 2, 3, 4, 5, 6, 7, 8, 9] (by decide) (ws' := fun u => (wM (kD k) aM u.1)) (fun u => rfl) rfl rfl rfl (fun u => [.int u.2]) (fun u => rfl) (fun r2 hf => ?_)
      obtain rfl := Option.some.inj hf
      exact g_iret (v := r2.2) C E dX5_append_36 (Nat.le_of_ble_eq_true rfl) (Nat.le_of_ble_eq_true rfl) ⟨rfl, rfl⟩
  · refine g_aload_n (pc := 16) (x := (aM 0)) C dX5_append_16 rfl ?_
    refine g_iconst (pc := 17) (v := 1) C dX5_append_17 (by decide) ?_
    refine g_callW (wr := []) (pc' := 21) (cs' := 0) (sl' := 0) hf C (fun u => some (.int u.2)) (fun u => (wM (kD k) aM u.1)) (fun u hu => gr_V (rest := []) C (cX5_fails_ (kL k) C.tr (kD k) N aM ((mRow v), (mSav v), (mSvn v), (mSnp v), (mKep v), 0, (mFre v), (mFrn v), (mBuf v), (mLen v), (mSpt v), (mNum v), (mOrd v), (mLet v), (mFst v), (mSnd v), (mTok v), (mLft v)) 1 u hu) (fun ht => cwV 1 ht gX5_append_X5_fails rfl rfl rfl hdX5_fails ⟨(Nat.le_of_ble_eq_true rfl), (Nat.le_of_ble_eq_true rfl)⟩) 0 rfl rfl [0, 1, 2, 3, 4, 5, 6, 7, 8, 9] rfl (by decide) rfl rfl (Nat.le_of_ble_eq_true rfl) dX5_append_18 ⟨(Nat.le_of_ble_eq_true rfl), (Nat.le_of_ble_eq_true rfl)⟩) [0, 1, 2, 3, 4, 5, 6, 7, 8, 9] [] rfl rfl (by decide) (by decide) [0, 1, 2, 3, 4, 5, 6, 7, 8, 9] (by decide) (ws' := fun u => (wM (kD k) aM u.1)) (fun u => rfl) rfl rfl rfl (fun u => [.int u.2]) (fun u => rfl) (fun r3 hf => ?_)
    obtain rfl := Option.some.inj hf
    exact g_iret (v := r3.2) C E dX5_append_21 (Nat.le_of_ble_eq_true rfl) (Nat.le_of_ble_eq_true rfl) ⟨rfl, rfl⟩
set_option maxRecDepth 100000 in
set_option maxHeartbeats 4000000 in
theorem cX5_append_ (l : Launch) (htr : l.stackTraces = false) (D : va_G) (N : Nat) (aM : Nat → Nat) (v : VM) (p1 : Int32) (r : VM × Int32) (hf : fX5_append N v p1 = some r) : Tc l D yX5_append wsX5_append rmX5_append [.ref (aM 0), .int p1] (wM D aM v) (fun rv w => rv = some (.int r.2) ∧ w = (wM D aM r.1)) (fun _ _ => False) 0 0 := Tc_of htr (by decide +kernel) rfl (Nat.le_of_ble_eq_true rfl) (fun k C E hl hD => by subst hD; exact wkX5_append C N aM v p1 r hf E)
abbrev rmX5_clearBuffer : Room := { frames := 0, cells := 0, slots := 0, locals := 0 }
theorem inX5_clearBuffer_X5 : ∀ w ∈ wsX50, w ∈ wsX5_clearBuffer := by decide +kernel
theorem lkX5_clearBuffer_38 : Cond.fieldLink RX5 38 "GaugeBlocksModel" (TX5 5).2.1 (TX5 5).2.2.1 ∈ wsX5_clearBuffer := by decide +kernel
theorem lkX5_clearBuffer_147 : Cond.fieldLink RX5 147 "GaugeBlocksModel" (TX5 9).2.1 (TX5 9).2.2.1 ∈ wsX5_clearBuffer := by decide +kernel
theorem hdX5_clearBuffer : yX5_clearBuffer.cls = RX5 ∧ yX5_clearBuffer.cls ≠ "java/lang/invoke/MethodHandle" ∧ yX5_clearBuffer.cls ≠ "java/lang/invoke/VarHandle" ∧ (parseMethodDescriptor yX5_clearBuffer.desc).map (fun d => d.parameters.length) = some 0 := by decide +kernel
def fX5_clearBuffer (N : Nat) (v : VM) : Option (VM × Int32) := some (((mRow v), (mSav v), (mSvn v), (mSnp v), (mKep v), 0, (mFre v), (mFrn v), (mBuf v), 0, (mSpt v), (mNum v), (mOrd v), (mLet v), (mFst v), (mSnd v), (mTok v), (mLft v)), (mLen v))
set_option maxRecDepth 100000 in
set_option maxHeartbeats 4000000 in
theorem wkX5_clearBuffer {k : Kt} (C : gC k cX5_clearBuffer 2 RX5 wsX5_clearBuffer rmX5_clearBuffer "clearBuffer") (N : Nat) (aM : Nat → Nat) (v : VM) (r : VM × Int32) (hf : fX5_clearBuffer N v = some r) (E : gE k (wM (kD k) aM v) (fun rv w => rv = some (.int r.2) ∧ w = (wM (kD k) aM r.1)) (fun _ _ => False) 0 0 (some .int) []) : gG k (wM (kD k) aM v) [(0, .ref (aM 0))] 0 0 0 [] := by
  unfold fX5_clearBuffer at hf
  refine g_aload_n (pc := 0) (x := (aM 0)) C dX5_clearBuffer_0 rfl ?_
  refine g_iconst (pc := 1) (v := 0) C dX5_clearBuffer_1 (by decide) ?_
  refine g_putf (pc := 2) C 0 rfl rfl inX5_clearBuffer_X5 tyX5 tyX5_ok nmX5 5 (by decide) lkX5_clearBuffer_38 rfl rfl pfX5_5 rfl rfl (Nat.le_of_ble_eq_true rfl) dX5_clearBuffer_2 (ws' := (wM (kD k) aM ((mRow v), (mSav v), (mSvn v), (mSnp v), (mKep v), 0, (mFre v), (mFrn v), (mBuf v), (mLen v), (mSpt v), (mNum v), (mOrd v), (mLet v), (mFst v), (mSnd v), (mTok v), (mLft v)))) rfl ?_
  refine g_aload_n (pc := 5) (x := (aM 0)) C dX5_clearBuffer_5 rfl ?_
  refine g_getf (pc := 6) C 0 rfl rfl inX5_clearBuffer_X5 9 (by decide) lkX5_clearBuffer_147 rfl rfl dX5_clearBuffer_6 ?_
  refine g_istore_n (pc := 9) (lv' := [(1, .int (mLen v)), (0, .ref (aM 0))]) C dX5_clearBuffer_9 (by decide) rfl ?_
  refine g_aload_n (pc := 10) (x := (aM 0)) C dX5_clearBuffer_10 rfl ?_
  refine g_iconst (pc := 11) (v := 0) C dX5_clearBuffer_11 (by decide) ?_
  refine g_putf (pc := 12) C 0 rfl rfl inX5_clearBuffer_X5 tyX5 tyX5_ok nmX5 9 (by decide) lkX5_clearBuffer_147 rfl rfl pfX5_9 rfl rfl (Nat.le_of_ble_eq_true rfl) dX5_clearBuffer_12 (ws' := (wM (kD k) aM ((mRow v), (mSav v), (mSvn v), (mSnp v), (mKep v), 0, (mFre v), (mFrn v), (mBuf v), 0, (mSpt v), (mNum v), (mOrd v), (mLet v), (mFst v), (mSnd v), (mTok v), (mLft v)))) rfl ?_
  refine g_iload_n (pc := 15) (x := (mLen v)) C dX5_clearBuffer_15 rfl ?_
  obtain rfl := Option.some.inj hf
  exact g_iret (v := (mLen v)) C E dX5_clearBuffer_16 (Nat.le_of_ble_eq_true rfl) (Nat.le_of_ble_eq_true rfl) ⟨rfl, rfl⟩
set_option maxRecDepth 100000 in
set_option maxHeartbeats 4000000 in
theorem cX5_clearBuffer_ (l : Launch) (htr : l.stackTraces = false) (D : va_G) (N : Nat) (aM : Nat → Nat) (v : VM) (r : VM × Int32) (hf : fX5_clearBuffer N v = some r) : Tc l D yX5_clearBuffer wsX5_clearBuffer rmX5_clearBuffer [.ref (aM 0)] (wM D aM v) (fun rv w => rv = some (.int r.2) ∧ w = (wM D aM r.1)) (fun _ _ => False) 0 0 := Tc_of htr (by decide +kernel) rfl (Nat.le_of_ble_eq_true rfl) (fun k C E hl hD => by subst hD; exact wkX5_clearBuffer C N aM v r hf E)
abbrev rmX5_isAt : Room := { frames := 1, cells := 0, slots := 0, locals := 22 }
theorem inX5_isAt_X5 : ∀ w ∈ wsX50, w ∈ wsX5_isAt := by decide +kernel
theorem lkX5_isAt_150 : Cond.fieldLink RX5 150 "GaugeBlocksModel" (TX5 10).2.1 (TX5 10).2.2.1 ∈ wsX5_isAt := by decide +kernel
theorem lkX5_isAt_147 : Cond.fieldLink RX5 147 "GaugeBlocksModel" (TX5 9).2.1 (TX5 9).2.2.1 ∈ wsX5_isAt := by decide +kernel
theorem lkX5_isAt_26 : Cond.fieldLink RX5 26 "GaugeBlocksModel" (TX5 8).2.1 (TX5 8).2.2.1 ∈ wsX5_isAt := by decide +kernel
theorem hdX5_isAt : yX5_isAt.cls = RX5 ∧ yX5_isAt.cls ≠ "java/lang/invoke/MethodHandle" ∧ yX5_isAt.cls ≠ "java/lang/invoke/VarHandle" ∧ (parseMethodDescriptor yX5_isAt.desc).map (fun d => d.parameters.length) = some 2 := by decide +kernel
def fX5_isAt (N : Nat) (v : VM) (p1 : Int32) (p2 : Int32) : Option (Bool) := (if (mLen v) ≤ (mSpt v) then some false else ck (mSpt v) 60 (((fX5_in N ((mBuf v) (Int32.toNatClampNeg (mSpt v))) p1 p2).bind fun r1 => (if r1 = true then some true else some false))))
set_option maxRecDepth 100000 in
set_option maxHeartbeats 4000000 in
theorem wkX5_isAt {k : Kt} (C : gC k cX5_isAt 3 RX5 wsX5_isAt rmX5_isAt "isAt") (N : Nat) (aM : Nat → Nat) (v : VM) (p1 : Int32) (p2 : Int32) (r : Bool) (hf : fX5_isAt N v p1 p2 = some r) (E : gE k (wM (kD k) aM v) (fun rv w => rv = some (.int (b2i r)) ∧ w = (wM (kD k) aM v)) (fun _ _ => False) 0 0 (some .boolean) []) : gG k (wM (kD k) aM v) [(0, .ref (aM 0)), (1, .int p1), (2, .int p2)] 0 0 0 [] := by
  unfold fX5_isAt at hf
  refine g_aload_n (pc := 0) (x := (aM 0)) C dX5_isAt_0 rfl ?_
  refine g_getf (pc := 1) C 0 rfl rfl inX5_isAt_X5 10 (by decide) lkX5_isAt_150 rfl rfl dX5_isAt_1 ?_
  refine g_aload_n (pc := 4) (x := (aM 0)) C dX5_isAt_4 rfl ?_
  refine g_getf (pc := 5) C 0 rfl rfl inX5_isAt_X5 9 (by decide) lkX5_isAt_147 rfl rfl dX5_isAt_5 ?_
  refine g_icmp_ge (pc := 8) (tgt := 32) (x := (mSpt v)) (y := (mLen v)) hf C dX5_isAt_8 (by decide) (fun hf => ?_) (fun hf => ?_)
  · refine g_iconst (pc := 32) (v := 0) C dX5_isAt_32 (by decide) ?_
    obtain rfl := Option.some.inj hf
    exact g_bret (b := false) C E dX5_isAt_33 (Nat.le_of_ble_eq_true rfl) (Nat.le_of_ble_eq_true rfl) ⟨rfl, rfl⟩
  · refine g_aload_n (pc := 11) (x := (aM 0)) C dX5_isAt_11 rfl ?_
    refine g_getf (pc := 12) C 0 rfl rfl inX5_isAt_X5 8 (by decide) lkX5_isAt_26 rfl rfl dX5_isAt_12 ?_
    refine g_aload_n (pc := 15) (x := (aM 0)) C dX5_isAt_15 rfl ?_
    refine g_getf (pc := 16) C 0 rfl rfl inX5_isAt_X5 10 (by decide) lkX5_isAt_150 rfl rfl dX5_isAt_16 ?_
    refine g_iald (pc := 19) (i := (mSpt v)) hf C 6 rfl dX5_isAt_19 (fun hf => ?_)
    refine g_iload_n (pc := 20) (x := p1) C dX5_isAt_20 rfl ?_
    refine g_iload_n (pc := 21) (x := p2) C dX5_isAt_21 rfl ?_
    refine g_callR (pc' := 25) (cs' := 0) (sl' := 0) hf C (fun u => some (.int (b2i u))) (fun u hu => gr_S (rest := []) C (cX5_in_ (kL k) C.tr (kD k) N ((mBuf v) (Int32.toNatClampNeg (mSpt v))) p1 p2 u hu) (fun ht => va_cwS 3 ht gX5_isAt_X5_in rfl rfl rfl hsX5_in ⟨(Nat.le_of_ble_eq_true rfl), (Nat.le_of_ble_eq_true rfl)⟩) [] rfl (by decide) rfl rfl (Nat.le_of_ble_eq_true rfl) dX5_isAt_22 ⟨(Nat.le_of_ble_eq_true rfl), (Nat.le_of_ble_eq_true rfl)⟩) [] rfl rfl rfl rfl (fun u => [.int (b2i u)]) (fun u => rfl) (fun r1 hf => ?_)
    refine g_ifB_eq (pc := 25) (tgt := 32) (b := r1) hf C dX5_isAt_25 (by decide) (fun hf => ?_) (fun hf => ?_)
    · refine g_iconst (pc := 32) (v := 0) C dX5_isAt_32 (by decide) ?_
      obtain rfl := Option.some.inj hf
      exact g_bret (b := false) C E dX5_isAt_33 (Nat.le_of_ble_eq_true rfl) (Nat.le_of_ble_eq_true rfl) ⟨rfl, rfl⟩
    · refine g_iconst (pc := 28) (v := 1) C dX5_isAt_28 (by decide) ?_
      refine g_goto (pc := 29) (tgt := 33) C dX5_isAt_29 (by decide) ?_
      obtain rfl := Option.some.inj hf
      exact g_bret (b := true) C E dX5_isAt_33 (Nat.le_of_ble_eq_true rfl) (Nat.le_of_ble_eq_true rfl) ⟨rfl, rfl⟩
set_option maxRecDepth 100000 in
set_option maxHeartbeats 4000000 in
theorem cX5_isAt_ (l : Launch) (htr : l.stackTraces = false) (D : va_G) (N : Nat) (aM : Nat → Nat) (v : VM) (p1 : Int32) (p2 : Int32) (r : Bool) (hf : fX5_isAt N v p1 p2 = some r) : Tc l D yX5_isAt wsX5_isAt rmX5_isAt [.ref (aM 0), .int p1, .int p2] (wM D aM v) (fun rv w => rv = some (.int (b2i r)) ∧ w = (wM D aM v)) (fun _ _ => False) 0 0 := Tc_of htr (by decide +kernel) rfl (Nat.le_of_ble_eq_true rfl) (fun k C E hl hD => by subst hD; exact wkX5_isAt C N aM v p1 p2 r hf E)
abbrev rmX5_takes : Room := { frames := 2, cells := 0, slots := 0, locals := 44 }
theorem inX5_takes_X5 : ∀ w ∈ wsX50, w ∈ wsX5_takes := by decide +kernel
theorem lkX5_takes_150 : Cond.fieldLink RX5 150 "GaugeBlocksModel" (TX5 10).2.1 (TX5 10).2.2.1 ∈ wsX5_takes := by decide +kernel
theorem hdX5_takes : yX5_takes.cls = RX5 ∧ yX5_takes.cls ≠ "java/lang/invoke/MethodHandle" ∧ yX5_takes.cls ≠ "java/lang/invoke/VarHandle" ∧ (parseMethodDescriptor yX5_takes.desc).map (fun d => d.parameters.length) = some 1 := by decide +kernel
def fX5_takes (N : Nat) (v : VM) (p1 : Int32) : Option (VM × Bool) := ((fX5_isAt N v p1 p1).bind fun r1 => (if r1 = true then some (((mRow v), (mSav v), (mSvn v), (mSnp v), (mKep v), (mThr v), (mFre v), (mFrn v), (mBuf v), (mLen v), ((mSpt v) + 1), (mNum v), (mOrd v), (mLet v), (mFst v), (mSnd v), (mTok v), (mLft v)), r1) else some (((mRow v), (mSav v), (mSvn v), (mSnp v), (mKep v), (mThr v), (mFre v), (mFrn v), (mBuf v), (mLen v), ((mSpt v) + 0), (mNum v), (mOrd v), (mLet v), (mFst v), (mSnd v), (mTok v), (mLft v)), r1)))
set_option maxRecDepth 100000 in
set_option maxHeartbeats 4000000 in
theorem wkX5_takes {k : Kt} (C : gC k cX5_takes 3 RX5 wsX5_takes rmX5_takes "takes") (N : Nat) (aM : Nat → Nat) (v : VM) (p1 : Int32) (r : VM × Bool) (hf : fX5_takes N v p1 = some r) (E : gE k (wM (kD k) aM v) (fun rv w => rv = some (.int (b2i r.2)) ∧ w = (wM (kD k) aM r.1)) (fun _ _ => False) 0 0 (some .boolean) []) : gG k (wM (kD k) aM v) [(0, .ref (aM 0)), (1, .int p1)] 0 0 0 [] := by
  unfold fX5_takes at hf
  refine g_aload_n (pc := 0) (x := (aM 0)) C dX5_takes_0 rfl ?_
  refine g_iload_n (pc := 1) (x := p1) C dX5_takes_1 rfl ?_
  refine g_iload_n (pc := 2) (x := p1) C dX5_takes_2 rfl ?_
  refine g_callR (pc' := 6) (cs' := 0) (sl' := 0) hf C (fun u => some (.int (b2i u))) (fun u hu => gr_V (rest := []) C (cX5_isAt_ (kL k) C.tr (kD k) N aM v p1 p1 u hu) (fun ht => cwV 2 ht gX5_takes_X5_isAt rfl rfl rfl hdX5_isAt ⟨(Nat.le_of_ble_eq_true rfl), (Nat.le_of_ble_eq_true rfl)⟩) 0 rfl rfl [0, 1, 2, 3, 4, 5, 6, 7, 8, 9] rfl (by decide) rfl rfl (Nat.le_of_ble_eq_true rfl) dX5_takes_3 ⟨(Nat.le_of_ble_eq_true rfl), (Nat.le_of_ble_eq_true rfl)⟩) [0, 1, 2, 3, 4, 5, 6, 7, 8, 9] rfl rfl rfl rfl (fun u => [.int (b2i u)]) (fun u => rfl) (fun r1 hf => ?_)
  refine g_istore_n (pc := 6) (lv' := [(2, .int (b2i r1)), (0, .ref (aM 0)), (1, .int p1)]) C dX5_takes_6 (by decide) rfl ?_
  refine g_aload_n (pc := 7) (x := (aM 0)) C dX5_takes_7 rfl ?_
  refine g_dup (pc := 8) C dX5_takes_8 rfl ?_
  refine g_getf (pc := 9) C 0 rfl rfl inX5_takes_X5 10 (by decide) lkX5_takes_150 rfl rfl dX5_takes_9 ?_
  refine g_iload_n (pc := 12) (x := (b2i r1)) C dX5_takes_12 rfl ?_
  refine g_ifB_eq (pc := 13) (tgt := 20) (b := r1) hf C dX5_takes_13 (by decide) (fun hf => ?_) (fun hf => ?_)
  · refine g_iconst (pc := 20) (v := 0) C dX5_takes_20 (by decide) ?_
    refine g_iadd (pc := 21) (x := (mSpt v)) (y := 0) C dX5_takes_21 ?_
    refine g_putf (pc := 22) C 0 rfl rfl inX5_takes_X5 tyX5 tyX5_ok nmX5 10 (by decide) lkX5_takes_150 rfl rfl pfX5_10 rfl rfl (Nat.le_of_ble_eq_true rfl) dX5_takes_22 (ws' := (wM (kD k) aM ((mRow v), (mSav v), (mSvn v), (mSnp v), (mKep v), (mThr v), (mFre v), (mFrn v), (mBuf v), (mLen v), ((mSpt v) + 0), (mNum v), (mOrd v), (mLet v), (mFst v), (mSnd v), (mTok v), (mLft v)))) rfl ?_
    refine g_iload_n (pc := 25) (x := (b2i r1)) C dX5_takes_25 rfl ?_
    obtain rfl := Option.some.inj hf
    exact g_bret (b := r1) C E dX5_takes_26 (Nat.le_of_ble_eq_true rfl) (Nat.le_of_ble_eq_true rfl) ⟨rfl, rfl⟩
  · refine g_iconst (pc := 16) (v := 1) C dX5_takes_16 (by decide) ?_
    refine g_goto (pc := 17) (tgt := 21) C dX5_takes_17 (by decide) ?_
    refine g_iadd (pc := 21) (x := (mSpt v)) (y := 1) C dX5_takes_21 ?_
    refine g_putf (pc := 22) C 0 rfl rfl inX5_takes_X5 tyX5 tyX5_ok nmX5 10 (by decide) lkX5_takes_150 rfl rfl pfX5_10 rfl rfl (Nat.le_of_ble_eq_true rfl) dX5_takes_22 (ws' := (wM (kD k) aM ((mRow v), (mSav v), (mSvn v), (mSnp v), (mKep v), (mThr v), (mFre v), (mFrn v), (mBuf v), (mLen v), ((mSpt v) + 1), (mNum v), (mOrd v), (mLet v), (mFst v), (mSnd v), (mTok v), (mLft v)))) rfl ?_
    refine g_iload_n (pc := 25) (x := (b2i r1)) C dX5_takes_25 rfl ?_
    obtain rfl := Option.some.inj hf
    exact g_bret (b := r1) C E dX5_takes_26 (Nat.le_of_ble_eq_true rfl) (Nat.le_of_ble_eq_true rfl) ⟨rfl, rfl⟩
set_option maxRecDepth 100000 in
set_option maxHeartbeats 4000000 in
theorem cX5_takes_ (l : Launch) (htr : l.stackTraces = false) (D : va_G) (N : Nat) (aM : Nat → Nat) (v : VM) (p1 : Int32) (r : VM × Bool) (hf : fX5_takes N v p1 = some r) : Tc l D yX5_takes wsX5_takes rmX5_takes [.ref (aM 0), .int p1] (wM D aM v) (fun rv w => rv = some (.int (b2i r.2)) ∧ w = (wM D aM r.1)) (fun _ _ => False) 0 0 := Tc_of htr (by decide +kernel) rfl (Nat.le_of_ble_eq_true rfl) (fun k C E hl hD => by subst hD; exact wkX5_takes C N aM v p1 r hf E)
abbrev rmX5_reads : Room := { frames := 2, cells := 0, slots := 0, locals := 44 }
theorem inX5_reads_X5 : ∀ w ∈ wsX50, w ∈ wsX5_reads := by decide +kernel
theorem lkX5_reads_26 : Cond.fieldLink RX5 26 "GaugeBlocksModel" (TX5 8).2.1 (TX5 8).2.2.1 ∈ wsX5_reads := by decide +kernel
theorem lkX5_reads_150 : Cond.fieldLink RX5 150 "GaugeBlocksModel" (TX5 10).2.1 (TX5 10).2.2.1 ∈ wsX5_reads := by decide +kernel
theorem lkX5_reads_156 : Cond.fieldLink RX5 156 "GaugeBlocksModel" (TX5 11).2.1 (TX5 11).2.2.1 ∈ wsX5_reads := by decide +kernel
theorem hdX5_reads : yX5_reads.cls = RX5 ∧ yX5_reads.cls ≠ "java/lang/invoke/MethodHandle" ∧ yX5_reads.cls ≠ "java/lang/invoke/VarHandle" ∧ (parseMethodDescriptor yX5_reads.desc).map (fun d => d.parameters.length) = some 2 := by decide +kernel
def lX5_reads_64 (N : Nat) (l1 : Int32) (l2 : Int32) : Nat → VM → Option ((VM))
  | 0, _ => none
  | n + 1, v => (if (mNum v) ≤ (0 : Int32) then some v else ((fX5_isAt N v 48 57).bind fun r1 => (if r1 = true then ck (mSpt v) 60 ((if l2 < (((10 * (mNum v)) + ((mBuf v) (Int32.toNatClampNeg (mSpt v)))) - 48) then some v else ck (mSpt v) 60 ((lX5_reads_64 N l1 l2 n ((mRow v), (mSav v), (mSvn v), (mSnp v), (mKep v), (mThr v), (mFre v), (mFrn v), (mBuf v), (mLen v), ((mSpt v) + 1), (((10 * (mNum v)) + ((mBuf v) (Int32.toNatClampNeg (mSpt v)))) - 48), (mOrd v), (mLet v), (mFst v), (mSnd v), (mTok v), (mLft v)))))) else some v)))
set_option maxRecDepth 100000 in
set_option maxHeartbeats 4000000 in
theorem wlX5_reads_64 {k : Kt} (C : gC k cX5_reads 3 RX5 wsX5_reads rmX5_reads "reads") (N : Nat) (aM : Nat → Nat) (l1 : Int32) (l2 : Int32) : ∀ (n : Nat) (v : VM) (u : (VM)) (hf : lX5_reads_64 N l1 l2 n v = some u) (hk0 : gG k (wM (kD k) aM u) [(0, .ref (aM 0)), (1, .int l1)] 0 0 143 []), gG k (wM (kD k) aM v) [(0, .ref (aM 0)), (1, .int l1), (2, .int l2)] 0 0 64 [] := by
  intro n
  induction n with
  | zero => intro v u hf hk0; rw [lX5_reads_64] at hf; cases hf
  | succ n ih =>
    intro v u hf hk0
    rw [lX5_reads_64] at hf
    refine g_aload_n (pc := 64) (x := (aM 0)) C dX5_reads_64 rfl ?_
    refine g_getf (pc := 65) C 0 rfl rfl inX5_reads_X5 11 (by decide) lkX5_reads_156 rfl rfl dX5_reads_65 ?_
    refine g_if_le (pc := 68) (tgt := 143) (x := (mNum v)) hf C dX5_reads_68 (by decide) (fun hf => ?_) (fun hf => ?_)
    · obtain rfl := Option.some.inj hf
      refine g_lv [0, 1] (lv' := [(0, .ref (aM 0)), (1, .int l1)]) rfl ?_
      exact hk0
    · refine g_aload_n (pc := 71) (x := (aM 0)) C dX5_reads_71 rfl ?_
      refine g_bipush (pc := 72) (v := 48) C dX5_reads_72 (by decide) ?_
      refine g_bipush (pc := 74) (v := 57) C dX5_reads_74 (by decide) ?_
      refine g_callR (pc' := 79) (cs' := 0) (sl' := 0) hf C (fun u => some (.int (b2i u))) (fun u hu => gr_V (rest := []) C (cX5_isAt_ (kL k) C.tr (kD k) N aM v 48 57 u hu) (fun ht => cwV 2 ht gX5_reads_X5_isAt rfl rfl rfl hdX5_isAt ⟨(Nat.le_of_ble_eq_true rfl), (Nat.le_of_ble_eq_true rfl)⟩) 0 rfl rfl [0, 1, 2, 3, 4, 5, 6, 7, 8, 9] rfl (by decide) rfl rfl (Nat.le_of_ble_eq_true rfl) dX5_reads_76 ⟨(Nat.le_of_ble_eq_true rfl), (Nat.le_of_ble_eq_true rfl)⟩) [0, 1, 2, 3, 4, 5, 6, 7, 8, 9] rfl rfl rfl rfl (fun u => [.int (b2i u)]) (fun u => rfl) (fun r1 hf => ?_)
      refine g_ifB_eq (pc := 79) (tgt := 143) (b := r1) hf C dX5_reads_79 (by decide) (fun hf => ?_) (fun hf => ?_)
      · obtain rfl := Option.some.inj hf
        refine g_lv [0, 1] (lv' := [(0, .ref (aM 0)), (1, .int l1)]) rfl ?_
        exact hk0
      · refine g_bipush (pc := 82) (v := 10) C dX5_reads_82 (by decide) ?_
        refine g_aload_n (pc := 84) (x := (aM 0)) C dX5_reads_84 rfl ?_
        refine g_getf (pc := 85) C 0 rfl rfl inX5_reads_X5 11 (by decide) lkX5_reads_156 rfl rfl dX5_reads_85 ?_
        refine g_imul (pc := 88) (x := 10) (y := (mNum v)) C dX5_reads_88 ?_
        refine g_aload_n (pc := 89) (x := (aM 0)) C dX5_reads_89 rfl ?_
        refine g_getf (pc := 90) C 0 rfl rfl inX5_reads_X5 8 (by decide) lkX5_reads_26 rfl rfl dX5_reads_90 ?_
        refine g_aload_n (pc := 93) (x := (aM 0)) C dX5_reads_93 rfl ?_
        refine g_getf (pc := 94) C 0 rfl rfl inX5_reads_X5 10 (by decide) lkX5_reads_150 rfl rfl dX5_reads_94 ?_
        refine g_iald (pc := 97) (i := (mSpt v)) hf C 6 rfl dX5_reads_97 (fun hf => ?_)
        refine g_iadd (pc := 98) (x := (10 * (mNum v))) (y := ((mBuf v) (Int32.toNatClampNeg (mSpt v)))) C dX5_reads_98 ?_
        refine g_bipush (pc := 99) (v := 48) C dX5_reads_99 (by decide) ?_
        refine g_isub (pc := 101) (x := ((10 * (mNum v)) + ((mBuf v) (Int32.toNatClampNeg (mSpt v))))) (y := 48) C dX5_reads_101 ?_
        refine g_iload_n (pc := 102) (x := l2) C dX5_reads_102 rfl ?_
        refine g_icmp_gt (pc := 103) (tgt := 143) (x := (((10 * (mNum v)) + ((mBuf v) (Int32.toNatClampNeg (mSpt v)))) - 48)) (y := l2) hf C dX5_reads_103 (by decide) (fun hf => ?_) (fun hf => ?_)
        · obtain rfl := Option.some.inj hf
          refine g_lv [0, 1] (lv' := [(0, .ref (aM 0)), (1, .int l1)]) rfl ?_
          exact hk0
        · refine g_aload_n (pc := 106) (x := (aM 0)) C dX5_reads_106 rfl ?_
          refine g_bipush (pc := 107) (v := 10) C dX5_reads_107 (by decide) ?_
          refine g_aload_n (pc := 109) (x := (aM 0)) C dX5_reads_109 rfl ?_
          refine g_getf (pc := 110) C 0 rfl rfl inX5_reads_X5 11 (by decide) lkX5_reads_156 rfl rfl dX5_reads_110 ?_
          refine g_imul (pc := 113) (x := 10) (y := (mNum v)) C dX5_reads_113 ?_
          refine g_aload_n (pc := 114) (x := (aM 0)) C dX5_reads_114 rfl ?_
          refine g_getf (pc := 115) C 0 rfl rfl inX5_reads_X5 8 (by decide) lkX5_reads_26 rfl rfl dX5_reads_115 ?_
          refine g_aload_n (pc := 118) (x := (aM 0)) C dX5_reads_118 rfl ?_
          refine g_getf (pc := 119) C 0 rfl rfl inX5_reads_X5 10 (by decide) lkX5_reads_150 rfl rfl dX5_reads_119 ?_
          refine g_iald (pc := 122) (i := (mSpt v)) hf C 6 rfl dX5_reads_122 (fun hf => ?_)
          refine g_iadd (pc := 123) (x := (10 * (mNum v))) (y := ((mBuf v) (Int32.toNatClampNeg (mSpt v)))) C dX5_reads_123 ?_
          refine g_bipush (pc := 124) (v := 48) C dX5_reads_124 (by decide) ?_
          refine g_isub (pc := 126) (x := ((10 * (mNum v)) + ((mBuf v) (Int32.toNatClampNeg (mSpt v))))) (y := 48) C dX5_reads_126 ?_
          refine g_putf (pc := 127) C 0 rfl rfl inX5_reads_X5 tyX5 tyX5_ok nmX5 11 (by decide) lkX5_reads_156 rfl rfl pfX5_11 rfl rfl (Nat.le_of_ble_eq_true rfl) dX5_reads_127 (ws' := (wM (kD k) aM ((mRow v), (mSav v), (mSvn v), (mSnp v), (mKep v), (mThr v), (mFre v), (mFrn v), (mBuf v), (mLen v), (mSpt v), (((10 * (mNum v)) + ((mBuf v) (Int32.toNatClampNeg (mSpt v)))) - 48), (mOrd v), (mLet v), (mFst v), (mSnd v), (mTok v), (mLft v)))) rfl ?_
          refine g_aload_n (pc := 130) (x := (aM 0)) C dX5_reads_130 rfl ?_
          refine g_dup (pc := 131) C dX5_reads_131 rfl ?_
          refine g_getf (pc := 132) C 0 rfl rfl inX5_reads_X5 10 (by decide) lkX5_reads_150 rfl rfl dX5_reads_132 ?_
          refine g_iconst (pc := 135) (v := 1) C dX5_reads_135 (by decide) ?_
          refine g_iadd (pc := 136) (x := (mSpt v)) (y := 1) C dX5_reads_136 ?_
          refine g_putf (pc := 137) C 0 rfl rfl inX5_reads_X5 tyX5 tyX5_ok nmX5 10 (by decide) lkX5_reads_150 rfl rfl pfX5_10 rfl rfl (Nat.le_of_ble_eq_true rfl) dX5_reads_137 (ws' := (wM (kD k) aM ((mRow v), (mSav v), (mSvn v), (mSnp v), (mKep v), (mThr v), (mFre v), (mFrn v), (mBuf v), (mLen v), ((mSpt v) + 1), (((10 * (mNum v)) + ((mBuf v) (Int32.toNatClampNeg (mSpt v)))) - 48), (mOrd v), (mLet v), (mFst v), (mSnd v), (mTok v), (mLft v)))) rfl ?_
          refine g_goto (pc := 140) (tgt := 64) C dX5_reads_140 (by decide) ?_
          exact ih ((mRow v), (mSav v), (mSvn v), (mSnp v), (mKep v), (mThr v), (mFre v), (mFrn v), (mBuf v), (mLen v), ((mSpt v) + 1), (((10 * (mNum v)) + ((mBuf v) (Int32.toNatClampNeg (mSpt v)))) - 48), (mOrd v), (mLet v), (mFst v), (mSnd v), (mTok v), (mLft v)) u hf hk0
def fX5_reads (N : Nat) (v : VM) (p1 : Int32) (p2 : Int32) : Option (VM × Bool) := (if p1 ≤ (0 : Int32) then ((fX5_isAt N v 48 57).bind fun r1 => (if r1 = true then ck (mSpt v) 60 ((if (((mBuf v) (Int32.toNatClampNeg (mSpt v))) - 48) ≤ p2 then ck (mSpt v) 60 (((lX5_reads_64 N p1 p2 N ((mRow v), (mSav v), (mSvn v), (mSnp v), (mKep v), (mThr v), (mFre v), (mFrn v), (mBuf v), (mLen v), ((mSpt v) + 1), (((mBuf v) (Int32.toNatClampNeg (mSpt v))) - 48), (mOrd v), (mLet v), (mFst v), (mSnd v), (mTok v), (mLft v))).bind fun r2 => (if (mNum r2) < p1 then some (r2, false) else some (r2, true)))) else some (v, false))) else some (v, false))) else ((fX5_isAt N v 49 57).bind fun r3 => (if r3 = true then ck (mSpt v) 60 ((if (((mBuf v) (Int32.toNatClampNeg (mSpt v))) - 48) ≤ p2 then ck (mSpt v) 60 (((lX5_reads_64 N p1 p2 N ((mRow v), (mSav v), (mSvn v), (mSnp v), (mKep v), (mThr v), (mFre v), (mFrn v), (mBuf v), (mLen v), ((mSpt v) + 1), (((mBuf v) (Int32.toNatClampNeg (mSpt v))) - 48), (mOrd v), (mLet v), (mFst v), (mSnd v), (mTok v), (mLft v))).bind fun r4 => (if (mNum r4) < p1 then some (r4, false) else some (r4, true)))) else some (v, false))) else some (v, false))))
set_option maxRecDepth 100000 in
set_option maxHeartbeats 4000000 in
theorem wkX5_reads {k : Kt} (C : gC k cX5_reads 3 RX5 wsX5_reads rmX5_reads "reads") (N : Nat) (aM : Nat → Nat) (v : VM) (p1 : Int32) (p2 : Int32) (r : VM × Bool) (hf : fX5_reads N v p1 p2 = some r) (E : gE k (wM (kD k) aM v) (fun rv w => rv = some (.int (b2i r.2)) ∧ w = (wM (kD k) aM r.1)) (fun _ _ => False) 0 0 (some .boolean) []) : gG k (wM (kD k) aM v) [(0, .ref (aM 0)), (1, .int p1), (2, .int p2)] 0 0 0 [] := by
  unfold fX5_reads at hf
  refine g_aload_n (pc := 0) (x := (aM 0)) C dX5_reads_0 rfl ?_
  refine g_iload_n (pc := 1) (x := p1) C dX5_reads_1 rfl ?_
  refine g_if_le (pc := 2) (tgt := 10) (x := p1) hf C dX5_reads_2 (by decide) (fun hf => ?_) (fun hf => ?_)
  · refine g_bipush (pc := 10) (v := 48) C dX5_reads_10 (by decide) ?_
    refine g_bipush (pc := 12) (v := 57) C dX5_reads_12 (by decide) ?_
    refine g_callR (pc' := 17) (cs' := 0) (sl' := 0) hf C (fun u => some (.int (b2i u))) (fun u hu => gr_V (rest := []) C (cX5_isAt_ (kL k) C.tr (kD k) N aM v 48 57 u hu) (fun ht => cwV 2 ht gX5_reads_X5_isAt rfl rfl rfl hdX5_isAt ⟨(Nat.le_of_ble_eq_true rfl), (Nat.le_of_ble_eq_true rfl)⟩) 0 rfl rfl [0, 1, 2, 3, 4, 5, 6, 7, 8, 9] rfl (by decide) rfl rfl (Nat.le_of_ble_eq_true rfl) dX5_reads_14 ⟨(Nat.le_of_ble_eq_true rfl), (Nat.le_of_ble_eq_true rfl)⟩) [0, 1, 2, 3, 4, 5, 6, 7, 8, 9] rfl rfl rfl rfl (fun u => [.int (b2i u)]) (fun u => rfl) (fun r1 hf => ?_)
    refine g_ifB_eq (pc := 17) (tgt := 36) (b := r1) hf C dX5_reads_17 (by decide) (fun hf => ?_) (fun hf => ?_)
    · refine g_iconst (pc := 36) (v := 0) C dX5_reads_36 (by decide) ?_
      obtain rfl := Option.some.inj hf
      exact g_bret (b := false) C E dX5_reads_37 (Nat.le_of_ble_eq_true rfl) (Nat.le_of_ble_eq_true rfl) ⟨rfl, rfl⟩
    · refine g_aload_n (pc := 20) (x := (aM 0)) C dX5_reads_20 rfl ?_
      refine g_getf (pc := 21) C 0 rfl rfl inX5_reads_X5 8 (by decide) lkX5_reads_26 rfl rfl dX5_reads_21 ?_
      refine g_aload_n (pc := 24) (x := (aM 0)) C dX5_reads_24 rfl ?_
      refine g_getf (pc := 25) C 0 rfl rfl inX5_reads_X5 10 (by decide) lkX5_reads_150 rfl rfl dX5_reads_25 ?_
      refine g_iald (pc := 28) (i := (mSpt v)) hf C 6 rfl dX5_reads_28 (fun hf => ?_)
      refine g_bipush (pc := 29) (v := 48) C dX5_reads_29 (by decide) ?_
      refine g_isub (pc := 31) (x := ((mBuf v) (Int32.toNatClampNeg (mSpt v)))) (y := 48) C dX5_reads_31 ?_
      refine g_iload_n (pc := 32) (x := p2) C dX5_reads_32 rfl ?_
      refine g_icmp_le (pc := 33) (tgt := 38) (x := (((mBuf v) (Int32.toNatClampNeg (mSpt v))) - 48)) (y := p2) hf C dX5_reads_33 (by decide) (fun hf => ?_) (fun hf => ?_)
      · refine g_aload_n (pc := 38) (x := (aM 0)) C dX5_reads_38 rfl ?_
        refine g_aload_n (pc := 39) (x := (aM 0)) C dX5_reads_39 rfl ?_
        refine g_getf (pc := 40) C 0 rfl rfl inX5_reads_X5 8 (by decide) lkX5_reads_26 rfl rfl dX5_reads_40 ?_
        refine g_aload_n (pc := 43) (x := (aM 0)) C dX5_reads_43 rfl ?_
        refine g_getf (pc := 44) C 0 rfl rfl inX5_reads_X5 10 (by decide) lkX5_reads_150 rfl rfl dX5_reads_44 ?_
        refine g_iald (pc := 47) (i := (mSpt v)) hf C 6 rfl dX5_reads_47 (fun hf => ?_)
        refine g_bipush (pc := 48) (v := 48) C dX5_reads_48 (by decide) ?_
        refine g_isub (pc := 50) (x := ((mBuf v) (Int32.toNatClampNeg (mSpt v)))) (y := 48) C dX5_reads_50 ?_
        refine g_putf (pc := 51) C 0 rfl rfl inX5_reads_X5 tyX5 tyX5_ok nmX5 11 (by decide) lkX5_reads_156 rfl rfl pfX5_11 rfl rfl (Nat.le_of_ble_eq_true rfl) dX5_reads_51 (ws' := (wM (kD k) aM ((mRow v), (mSav v), (mSvn v), (mSnp v), (mKep v), (mThr v), (mFre v), (mFrn v), (mBuf v), (mLen v), (mSpt v), (((mBuf v) (Int32.toNatClampNeg (mSpt v))) - 48), (mOrd v), (mLet v), (mFst v), (mSnd v), (mTok v), (mLft v)))) rfl ?_
        refine g_aload_n (pc := 54) (x := (aM 0)) C dX5_reads_54 rfl ?_
        refine g_dup (pc := 55) C dX5_reads_55 rfl ?_
        refine g_getf (pc := 56) C 0 rfl rfl inX5_reads_X5 10 (by decide) lkX5_reads_150 rfl rfl dX5_reads_56 ?_
        refine g_iconst (pc := 59) (v := 1) C dX5_reads_59 (by decide) ?_
        refine g_iadd (pc := 60) (x := (mSpt v)) (y := 1) C dX5_reads_60 ?_
        refine g_putf (pc := 61) C 0 rfl rfl inX5_reads_X5 tyX5 tyX5_ok nmX5 10 (by decide) lkX5_reads_150 rfl rfl pfX5_10 rfl rfl (Nat.le_of_ble_eq_true rfl) dX5_reads_61 (ws' := (wM (kD k) aM ((mRow v), (mSav v), (mSvn v), (mSnp v), (mKep v), (mThr v), (mFre v), (mFrn v), (mBuf v), (mLen v), ((mSpt v) + 1), (((mBuf v) (Int32.toNatClampNeg (mSpt v))) - 48), (mOrd v), (mLet v), (mFst v), (mSnd v), (mTok v), (mLft v)))) rfl ?_
        obtain ⟨r2, h2, hf⟩ := bd_e hf
        refine wlX5_reads_64 C N aM p1 p2 N ((mRow v), (mSav v), (mSvn v), (mSnp v), (mKep v), (mThr v), (mFre v), (mFrn v), (mBuf v), (mLen v), ((mSpt v) + 1), (((mBuf v) (Int32.toNatClampNeg (mSpt v))) - 48), (mOrd v), (mLet v), (mFst v), (mSnd v), (mTok v), (mLft v)) r2 h2 ?_
        refine g_aload_n (pc := 143) (x := (aM 0)) C dX5_reads_143 rfl ?_
        refine g_getf (pc := 144) C 0 rfl rfl inX5_reads_X5 11 (by decide) lkX5_reads_156 rfl rfl dX5_reads_144 ?_
        refine g_iload_n (pc := 147) (x := p1) C dX5_reads_147 rfl ?_
        refine g_icmp_lt (pc := 148) (tgt := 155) (x := (mNum r2)) (y := p1) hf C dX5_reads_148 (by decide) (fun hf => ?_) (fun hf => ?_)
        · refine g_iconst (pc := 155) (v := 0) C dX5_reads_155 (by decide) ?_
          obtain rfl := Option.some.inj hf
          exact g_bret (b := false) C E dX5_reads_156 (Nat.le_of_ble_eq_true rfl) (Nat.le_of_ble_eq_true rfl) ⟨rfl, rfl⟩
        · refine g_iconst (pc := 151) (v := 1) C dX5_reads_151 (by decide) ?_
          refine g_goto (pc := 152) (tgt := 156) C dX5_reads_152 (by decide) ?_
          obtain rfl := Option.some.inj hf
          exact g_bret (b := true) C E dX5_reads_156 (Nat.le_of_ble_eq_true rfl) (Nat.le_of_ble_eq_true rfl) ⟨rfl, rfl⟩
      · refine g_iconst (pc := 36) (v := 0) C dX5_reads_36 (by decide) ?_
        obtain rfl := Option.some.inj hf
        exact g_bret (b := false) C E dX5_reads_37 (Nat.le_of_ble_eq_true rfl) (Nat.le_of_ble_eq_true rfl) ⟨rfl, rfl⟩
  · refine g_bipush (pc := 5) (v := 49) C dX5_reads_5 (by decide) ?_
    refine g_goto (pc := 7) (tgt := 12) C dX5_reads_7 (by decide) ?_
    refine g_bipush (pc := 12) (v := 57) C dX5_reads_12 (by decide) ?_
    refine g_callR (pc' := 17) (cs' := 0) (sl' := 0) hf C (fun u => some (.int (b2i u))) (fun u hu => gr_V (rest := []) C (cX5_isAt_ (kL k) C.tr (kD k) N aM v 49 57 u hu) (fun ht => cwV 2 ht gX5_reads_X5_isAt rfl rfl rfl hdX5_isAt ⟨(Nat.le_of_ble_eq_true rfl), (Nat.le_of_ble_eq_true rfl)⟩) 0 rfl rfl [0, 1, 2, 3, 4, 5, 6, 7, 8, 9] rfl (by decide) rfl rfl (Nat.le_of_ble_eq_true rfl) dX5_reads_14 ⟨(Nat.le_of_ble_eq_true rfl), (Nat.le_of_ble_eq_true rfl)⟩) [0, 1, 2, 3, 4, 5, 6, 7, 8, 9] rfl rfl rfl rfl (fun u => [.int (b2i u)]) (fun u => rfl) (fun r3 hf => ?_)
    refine g_ifB_eq (pc := 17) (tgt := 36) (b := r3) hf C dX5_reads_17 (by decide) (fun hf => ?_) (fun hf => ?_)
    · refine g_iconst (pc := 36) (v := 0) C dX5_reads_36 (by decide) ?_
      obtain rfl := Option.some.inj hf
      exact g_bret (b := false) C E dX5_reads_37 (Nat.le_of_ble_eq_true rfl) (Nat.le_of_ble_eq_true rfl) ⟨rfl, rfl⟩
    · refine g_aload_n (pc := 20) (x := (aM 0)) C dX5_reads_20 rfl ?_
      refine g_getf (pc := 21) C 0 rfl rfl inX5_reads_X5 8 (by decide) lkX5_reads_26 rfl rfl dX5_reads_21 ?_
      refine g_aload_n (pc := 24) (x := (aM 0)) C dX5_reads_24 rfl ?_
      refine g_getf (pc := 25) C 0 rfl rfl inX5_reads_X5 10 (by decide) lkX5_reads_150 rfl rfl dX5_reads_25 ?_
      refine g_iald (pc := 28) (i := (mSpt v)) hf C 6 rfl dX5_reads_28 (fun hf => ?_)
      refine g_bipush (pc := 29) (v := 48) C dX5_reads_29 (by decide) ?_
      refine g_isub (pc := 31) (x := ((mBuf v) (Int32.toNatClampNeg (mSpt v)))) (y := 48) C dX5_reads_31 ?_
      refine g_iload_n (pc := 32) (x := p2) C dX5_reads_32 rfl ?_
      refine g_icmp_le (pc := 33) (tgt := 38) (x := (((mBuf v) (Int32.toNatClampNeg (mSpt v))) - 48)) (y := p2) hf C dX5_reads_33 (by decide) (fun hf => ?_) (fun hf => ?_)
      · refine g_aload_n (pc := 38) (x := (aM 0)) C dX5_reads_38 rfl ?_
        refine g_aload_n (pc := 39) (x := (aM 0)) C dX5_reads_39 rfl ?_
        refine g_getf (pc := 40) C 0 rfl rfl inX5_reads_X5 8 (by decide) lkX5_reads_26 rfl rfl dX5_reads_40 ?_
        refine g_aload_n (pc := 43) (x := (aM 0)) C dX5_reads_43 rfl ?_
        refine g_getf (pc := 44) C 0 rfl rfl inX5_reads_X5 10 (by decide) lkX5_reads_150 rfl rfl dX5_reads_44 ?_
        refine g_iald (pc := 47) (i := (mSpt v)) hf C 6 rfl dX5_reads_47 (fun hf => ?_)
        refine g_bipush (pc := 48) (v := 48) C dX5_reads_48 (by decide) ?_
        refine g_isub (pc := 50) (x := ((mBuf v) (Int32.toNatClampNeg (mSpt v)))) (y := 48) C dX5_reads_50 ?_
        refine g_putf (pc := 51) C 0 rfl rfl inX5_reads_X5 tyX5 tyX5_ok nmX5 11 (by decide) lkX5_reads_156 rfl rfl pfX5_11 rfl rfl (Nat.le_of_ble_eq_true rfl) dX5_reads_51 (ws' := (wM (kD k) aM ((mRow v), (mSav v), (mSvn v), (mSnp v), (mKep v), (mThr v), (mFre v), (mFrn v), (mBuf v), (mLen v), (mSpt v), (((mBuf v) (Int32.toNatClampNeg (mSpt v))) - 48), (mOrd v), (mLet v), (mFst v), (mSnd v), (mTok v), (mLft v)))) rfl ?_
        refine g_aload_n (pc := 54) (x := (aM 0)) C dX5_reads_54 rfl ?_
        refine g_dup (pc := 55) C dX5_reads_55 rfl ?_
        refine g_getf (pc := 56) C 0 rfl rfl inX5_reads_X5 10 (by decide) lkX5_reads_150 rfl rfl dX5_reads_56 ?_
        refine g_iconst (pc := 59) (v := 1) C dX5_reads_59 (by decide) ?_
        refine g_iadd (pc := 60) (x := (mSpt v)) (y := 1) C dX5_reads_60 ?_
        refine g_putf (pc := 61) C 0 rfl rfl inX5_reads_X5 tyX5 tyX5_ok nmX5 10 (by decide) lkX5_reads_150 rfl rfl pfX5_10 rfl rfl (Nat.le_of_ble_eq_true rfl) dX5_reads_61 (ws' := (wM (kD k) aM ((mRow v), (mSav v), (mSvn v), (mSnp v), (mKep v), (mThr v), (mFre v), (mFrn v), (mBuf v), (mLen v), ((mSpt v) + 1), (((mBuf v) (Int32.toNatClampNeg (mSpt v))) - 48), (mOrd v), (mLet v), (mFst v), (mSnd v), (mTok v), (mLft v)))) rfl ?_
        obtain ⟨r4, h4, hf⟩ := bd_e hf
        refine wlX5_reads_64 C N aM p1 p2 N ((mRow v), (mSav v), (mSvn v), (mSnp v), (mKep v), (mThr v), (mFre v), (mFrn v), (mBuf v), (mLen v), ((mSpt v) + 1), (((mBuf v) (Int32.toNatClampNeg (mSpt v))) - 48), (mOrd v), (mLet v), (mFst v), (mSnd v), (mTok v), (mLft v)) r4 h4 ?_
        refine g_aload_n (pc := 143) (x := (aM 0)) C dX5_reads_143 rfl ?_
        refine g_getf (pc := 144) C 0 rfl rfl inX5_reads_X5 11 (by decide) lkX5_reads_156 rfl rfl dX5_reads_144 ?_
        refine g_iload_n (pc := 147) (x := p1) C dX5_reads_147 rfl ?_
        refine g_icmp_lt (pc := 148) (tgt := 155) (x := (mNum r4)) (y := p1) hf C dX5_reads_148 (by decide) (fun hf => ?_) (fun hf => ?_)
        · refine g_iconst (pc := 155) (v := 0) C dX5_reads_155 (by decide) ?_
          obtain rfl := Option.some.inj hf
          exact g_bret (b := false) C E dX5_reads_156 (Nat.le_of_ble_eq_true rfl) (Nat.le_of_ble_eq_true rfl) ⟨rfl, rfl⟩
        · refine g_iconst (pc := 151) (v := 1) C dX5_reads_151 (by decide) ?_
          refine g_goto (pc := 152) (tgt := 156) C dX5_reads_152 (by decide) ?_
          obtain rfl := Option.some.inj hf
          exact g_bret (b := true) C E dX5_reads_156 (Nat.le_of_ble_eq_true rfl) (Nat.le_of_ble_eq_true rfl) ⟨rfl, rfl⟩
      · refine g_iconst (pc := 36) (v := 0) C dX5_reads_36 (by decide) ?_
        obtain rfl := Option.some.inj hf
        exact g_bret (b := false) C E dX5_reads_37 (Nat.le_of_ble_eq_true rfl) (Nat.le_of_ble_eq_true rfl) ⟨rfl, rfl⟩
set_option maxRecDepth 100000 in
set_option maxHeartbeats 4000000 in
theorem cX5_reads_ (l : Launch) (htr : l.stackTraces = false) (D : va_G) (N : Nat) (aM : Nat → Nat) (v : VM) (p1 : Int32) (p2 : Int32) (r : VM × Bool) (hf : fX5_reads N v p1 p2 = some r) : Tc l D yX5_reads wsX5_reads rmX5_reads [.ref (aM 0), .int p1, .int p2] (wM D aM v) (fun rv w => rv = some (.int (b2i r.2)) ∧ w = (wM D aM r.1)) (fun _ _ => False) 0 0 := Tc_of htr (by decide +kernel) rfl (Nat.le_of_ble_eq_true rfl) (fun k C E hl hD => by subst hD; exact wkX5_reads C N aM v p1 p2 r hf E)
abbrev rmX5_readNumbers : Room := { frames := 3, cells := 0, slots := 0, locals := 66 }
theorem inX5_readNumbers_X5 : ∀ w ∈ wsX50, w ∈ wsX5_readNumbers := by decide +kernel
theorem kcX5_readNumbers_112 : Jvm.Cond.constant RX5 112 100000 ∈ wsX5_readNumbers := by decide +kernel
theorem lkX5_readNumbers_32 : Cond.fieldLink RX5 32 "GaugeBlocksModel" (TX5 14).2.1 (TX5 14).2.2.1 ∈ wsX5_readNumbers := by decide +kernel
theorem lkX5_readNumbers_162 : Cond.fieldLink RX5 162 "GaugeBlocksModel" (TX5 12).2.1 (TX5 12).2.2.1 ∈ wsX5_readNumbers := by decide +kernel
theorem lkX5_readNumbers_156 : Cond.fieldLink RX5 156 "GaugeBlocksModel" (TX5 11).2.1 (TX5 11).2.2.1 ∈ wsX5_readNumbers := by decide +kernel
theorem hdX5_readNumbers : yX5_readNumbers.cls = RX5 ∧ yX5_readNumbers.cls ≠ "java/lang/invoke/MethodHandle" ∧ yX5_readNumbers.cls ≠ "java/lang/invoke/VarHandle" ∧ (parseMethodDescriptor yX5_readNumbers.desc).map (fun d => d.parameters.length) = some 1 := by decide +kernel
def fX5_readNumbers (N : Nat) (v : VM) (p1 : Int32) : Option (VM × Bool) := (if p1 = 98 then ((fX5_reads N v 500 100000).bind fun r1 => some (r1.1, r1.2)) else (if p1 = 104 then ((fX5_reads N v 0 19).bind fun r2 => (if r2.2 = true then ck (mOrd r2.1) 24 (((fX5_takes N ((mRow r2.1), (mSav r2.1), (mSvn r2.1), (mSnp r2.1), (mKep r2.1), (mThr r2.1), (mFre r2.1), (mFrn r2.1), (mBuf r2.1), (mLen r2.1), (mSpt r2.1), (mNum r2.1), (mOrd r2.1), (mLet r2.1), (upd (mFst r2.1) (Int32.toNatClampNeg (mOrd r2.1)) (mNum r2.1)), (mSnd r2.1), (mTok r2.1), (mLft r2.1)) 44).bind fun r3 => (if r3.2 = true then ((fX5_reads N r3.1 1 60).bind fun r4 => (if r4.2 = true then some (r4.1, true) else some (r4.1, false))) else some (r3.1, false)))) else some (r2.1, false))) else (if p1 = 114 then ((fX5_reads N v 1 60).bind fun r5 => some (r5.1, r5.2)) else (if p1 = 117 then ((fX5_reads N v 0 2).bind fun r6 => some (r6.1, r6.2)) else (if p1 = 119 then ((fX5_reads N v 0 2).bind fun r7 => (if r7.2 = true then ck (mOrd r7.1) 24 (((fX5_takes N ((mRow r7.1), (mSav r7.1), (mSvn r7.1), (mSnp r7.1), (mKep r7.1), (mThr r7.1), (mFre r7.1), (mFrn r7.1), (mBuf r7.1), (mLen r7.1), (mSpt r7.1), (mNum r7.1), (mOrd r7.1), (mLet r7.1), (upd (mFst r7.1) (Int32.toNatClampNeg (mOrd r7.1)) (mNum r7.1)), (mSnd r7.1), (mTok r7.1), (mLft r7.1)) 43).bind fun r8 => (if r8.2 = true then ((fX5_reads N r8.1 0 19).bind fun r9 => (if r9.2 = true then some (r9.1, true) else some (r9.1, false))) else some (r8.1, false)))) else some (r7.1, false))) else some (v, false))))))
set_option maxRecDepth 100000 in
set_option maxHeartbeats 4000000 in
theorem wkX5_readNumbers {k : Kt} (C : gC k cX5_readNumbers 2 RX5 wsX5_readNumbers rmX5_readNumbers "readNumbers") (N : Nat) (aM : Nat → Nat) (v : VM) (p1 : Int32) (r : VM × Bool) (hf : fX5_readNumbers N v p1 = some r) (E : gE k (wM (kD k) aM v) (fun rv w => rv = some (.int (b2i r.2)) ∧ w = (wM (kD k) aM r.1)) (fun _ _ => False) 0 0 (some .boolean) []) : gG k (wM (kD k) aM v) [(0, .ref (aM 0)), (1, .int p1)] 0 0 0 [] := by
  unfold fX5_readNumbers at hf
  refine g_iload_n (pc := 0) (x := p1) C dX5_readNumbers_0 rfl ?_
  refine g_split hf (fun e hf => ?_) (fun n1_98 hf => ?_)
  · refine g_lsw (pc := 1) (tgt := 52) (off := 51) C dX5_readNumbers_1 e (by decide) (by decide) (by decide) ?_
    refine g_aload_n (pc := 52) (x := (aM 0)) C dX5_readNumbers_52 rfl ?_
    refine g_sipush (pc := 53) (v := 500) C dX5_readNumbers_53 (by decide) ?_
    refine g_ldc (pc := 56) (v := 100000) C dX5_readNumbers_56 kcX5_readNumbers_112 ?_
    refine g_callW (wr := []) (pc' := 61) (cs' := 0) (sl' := 0) hf C (fun u => some (.int (b2i u.2))) (fun u => (wM (kD k) aM u.1)) (fun u hu => gr_V (rest := []) C (cX5_reads_ (kL k) C.tr (kD k) N aM v 500 100000 u hu) (fun ht => cwV 2 ht gX5_readNumbers_X5_reads rfl rfl rfl hdX5_reads ⟨(Nat.le_of_ble_eq_true rfl), (Nat.le_of_ble_eq_true rfl)⟩) 0 rfl rfl [0, 1, 2, 3, 4, 5, 6, 7, 8, 9] rfl (by decide) rfl rfl (Nat.le_of_ble_eq_true rfl) dX5_readNumbers_58 ⟨(Nat.le_of_ble_eq_true rfl), (Nat.le_of_ble_eq_true rfl)⟩) [0, 1, 2, 3, 4, 5, 6, 7, 8, 9] [] rfl rfl (by decide) (by decide) [0, 1, 2, 3, 4, 5, 6, 7, 8, 9] (by decide) (ws' := fun u => (wM (kD k) aM u.1)) (fun u => rfl) rfl rfl rfl (fun u => [.int (b2i u.2)]) (fun u => rfl) (fun r1 hf => ?_)
    obtain rfl := Option.some.inj hf
    exact g_bret (b := r1.2) C E dX5_readNumbers_61 (Nat.le_of_ble_eq_true rfl) (Nat.le_of_ble_eq_true rfl) ⟨rfl, rfl⟩
  refine g_split hf (fun e hf => ?_) (fun n1_104 hf => ?_)
  · refine g_lsw (pc := 1) (tgt := 118) (off := 117) C dX5_readNumbers_1 e (by decide) (by decide) (by decide) ?_
    refine g_aload_n (pc := 118) (x := (aM 0)) C dX5_readNumbers_118 rfl ?_
    refine g_iconst (pc := 119) (v := 0) C dX5_readNumbers_119 (by decide) ?_
    refine g_bipush (pc := 120) (v := 19) C dX5_readNumbers_120 (by decide) ?_
    refine g_callW (wr := []) (pc' := 125) (cs' := 0) (sl' := 0) hf C (fun u => some (.int (b2i u.2))) (fun u => (wM (kD k) aM u.1)) (fun u hu => gr_V (rest := []) C (cX5_reads_ (kL k) C.tr (kD k) N aM v 0 19 u hu) (fun ht => cwV 2 ht gX5_readNumbers_X5_reads rfl rfl rfl hdX5_reads ⟨(Nat.le_of_ble_eq_true rfl), (Nat.le_of_ble_eq_true rfl)⟩) 0 rfl rfl [0, 1, 2, 3, 4, 5, 6, 7, 8, 9] rfl (by decide) rfl rfl (Nat.le_of_ble_eq_true rfl) dX5_readNumbers_122 ⟨(Nat.le_of_ble_eq_true rfl), (Nat.le_of_ble_eq_true rfl)⟩) [0, 1, 2, 3, 4, 5, 6, 7, 8, 9] [] rfl rfl (by decide) (by decide) [0, 1, 2, 3, 4, 5, 6, 7, 8, 9] (by decide) (ws' := fun u => (wM (kD k) aM u.1)) (fun u => rfl) rfl rfl rfl (fun u => [.int (b2i u.2)]) (fun u => rfl) (fun r2 hf => ?_)
    refine g_ifB_ne (pc := 125) (tgt := 130) (b := r2.2) hf C dX5_readNumbers_125 (by decide) (fun hf => ?_) (fun hf => ?_)
    · refine g_aload_n (pc := 130) (x := (aM 0)) C dX5_readNumbers_130 rfl ?_
      refine g_getf (pc := 131) C 0 rfl rfl inX5_readNumbers_X5 14 (by decide) lkX5_readNumbers_32 rfl rfl dX5_readNumbers_131 ?_
      refine g_aload_n (pc := 134) (x := (aM 0)) C dX5_readNumbers_134 rfl ?_
      refine g_getf (pc := 135) C 0 rfl rfl inX5_readNumbers_X5 12 (by decide) lkX5_readNumbers_162 rfl rfl dX5_readNumbers_135 ?_
      refine g_aload_n (pc := 138) (x := (aM 0)) C dX5_readNumbers_138 rfl ?_
      refine g_getf (pc := 139) C 0 rfl rfl inX5_readNumbers_X5 11 (by decide) lkX5_readNumbers_156 rfl rfl dX5_readNumbers_139 ?_
      refine g_iast (pc := 142) (i := (mOrd r2.1)) (x := (mNum r2.1)) hf C 8 rfl dX5_readNumbers_142 (ws' := (wM (kD k) aM ((mRow r2.1), (mSav r2.1), (mSvn r2.1), (mSnp r2.1), (mKep r2.1), (mThr r2.1), (mFre r2.1), (mFrn r2.1), (mBuf r2.1), (mLen r2.1), (mSpt r2.1), (mNum r2.1), (mOrd r2.1), (mLet r2.1), (upd (mFst r2.1) (Int32.toNatClampNeg (mOrd r2.1)) (mNum r2.1)), (mSnd r2.1), (mTok r2.1), (mLft r2.1)))) rfl (fun hf => ?_)
      refine g_aload_n (pc := 143) (x := (aM 0)) C dX5_readNumbers_143 rfl ?_
      refine g_bipush (pc := 144) (v := 44) C dX5_readNumbers_144 (by decide) ?_
      refine g_callW (wr := []) (pc' := 149) (cs' := 0) (sl' := 0) hf C (fun u => some (.int (b2i u.2))) (fun u => (wM (kD k) aM u.1)) (fun u hu => gr_V (rest := []) C (cX5_takes_ (kL k) C.tr (kD k) N aM ((mRow r2.1), (mSav r2.1), (mSvn r2.1), (mSnp r2.1), (mKep r2.1), (mThr r2.1), (mFre r2.1), (mFrn r2.1), (mBuf r2.1), (mLen r2.1), (mSpt r2.1), (mNum r2.1), (mOrd r2.1), (mLet r2.1), (upd (mFst r2.1) (Int32.toNatClampNeg (mOrd r2.1)) (mNum r2.1)), (mSnd r2.1), (mTok r2.1), (mLft r2.1)) 44 u hu) (fun ht => cwV 1 ht gX5_readNumbers_X5_takes rfl rfl rfl hdX5_takes ⟨(Nat.le_of_ble_eq_true rfl), (Nat.le_of_ble_eq_true rfl)⟩) 0 rfl rfl [0, 1, 2, 3, 4, 5, 6, 7, 8, 9] rfl (by decide) rfl rfl (Nat.le_of_ble_eq_true rfl) dX5_readNumbers_146 ⟨(Nat.le_of_ble_eq_true rfl), (Nat.le_of_ble_eq_true rfl)⟩) [0, 1, 2, 3, 4, 5, 6, 7, 8, 9] [] rfl rfl (by decide) (by decide) [0, 1, 2, 3, 4, 5, 6, 7, 8, 9] (by decide) (ws' := fun u => (wM (kD k) aM u.1)) (fun u => rfl) rfl rfl rfl (fun u => [.int (b2i u.2)]) (fun u => rfl) (fun r3 hf => ?_)
      refine g_ifB_eq (pc := 149) (tgt := 166) (b := r3.2) hf C dX5_readNumbers_149 (by decide) (fun hf => ?_) (fun hf => ?_)
      · refine g_iconst (pc := 166) (v := 0) C dX5_readNumbers_166 (by decide) ?_
        obtain rfl := Option.some.inj hf
        exact g_bret (b := false) C E dX5_readNumbers_167 (Nat.le_of_ble_eq_true rfl) (Nat.le_of_ble_eq_true rfl) ⟨rfl, rfl⟩
      · refine g_aload_n (pc := 152) (x := (aM 0)) C dX5_readNumbers_152 rfl ?_
        refine g_iconst (pc := 153) (v := 1) C dX5_readNumbers_153 (by decide) ?_
        refine g_bipush (pc := 154) (v := 60) C dX5_readNumbers_154 (by decide) ?_
        refine g_callW (wr := []) (pc' := 159) (cs' := 0) (sl' := 0) hf C (fun u => some (.int (b2i u.2))) (fun u => (wM (kD k) aM u.1)) (fun u hu => gr_V (rest := []) C (cX5_reads_ (kL k) C.tr (kD k) N aM r3.1 1 60 u hu) (fun ht => cwV 2 ht gX5_readNumbers_X5_reads rfl rfl rfl hdX5_reads ⟨(Nat.le_of_ble_eq_true rfl), (Nat.le_of_ble_eq_true rfl)⟩) 0 rfl rfl [0, 1, 2, 3, 4, 5, 6, 7, 8, 9] rfl (by decide) rfl rfl (Nat.le_of_ble_eq_true rfl) dX5_readNumbers_156 ⟨(Nat.le_of_ble_eq_true rfl), (Nat.le_of_ble_eq_true rfl)⟩) [0, 1, 2, 3, 4, 5, 6, 7, 8, 9] [] rfl rfl (by decide) (by decide) [0, 1, 2, 3, 4, 5, 6, 7, 8, 9] (by decide) (ws' := fun u => (wM (kD k) aM u.1)) (fun u => rfl) rfl rfl rfl (fun u => [.int (b2i u.2)]) (fun u => rfl) (fun r4 hf => ?_)
        refine g_ifB_eq (pc := 159) (tgt := 166) (b := r4.2) hf C dX5_readNumbers_159 (by decide) (fun hf => ?_) (fun hf => ?_)
        · refine g_iconst (pc := 166) (v := 0) C dX5_readNumbers_166 (by decide) ?_
          obtain rfl := Option.some.inj hf
          exact g_bret (b := false) C E dX5_readNumbers_167 (Nat.le_of_ble_eq_true rfl) (Nat.le_of_ble_eq_true rfl) ⟨rfl, rfl⟩
        · refine g_iconst (pc := 162) (v := 1) C dX5_readNumbers_162 (by decide) ?_
          refine g_goto (pc := 163) (tgt := 167) C dX5_readNumbers_163 (by decide) ?_
          obtain rfl := Option.some.inj hf
          exact g_bret (b := true) C E dX5_readNumbers_167 (Nat.le_of_ble_eq_true rfl) (Nat.le_of_ble_eq_true rfl) ⟨rfl, rfl⟩
    · refine g_iconst (pc := 128) (v := 0) C dX5_readNumbers_128 (by decide) ?_
      obtain rfl := Option.some.inj hf
      exact g_bret (b := false) C E dX5_readNumbers_129 (Nat.le_of_ble_eq_true rfl) (Nat.le_of_ble_eq_true rfl) ⟨rfl, rfl⟩
  refine g_split hf (fun e hf => ?_) (fun n1_114 hf => ?_)
  · refine g_lsw (pc := 1) (tgt := 168) (off := 167) C dX5_readNumbers_1 e (by decide) (by decide) (by decide) ?_
    refine g_aload_n (pc := 168) (x := (aM 0)) C dX5_readNumbers_168 rfl ?_
    refine g_iconst (pc := 169) (v := 1) C dX5_readNumbers_169 (by decide) ?_
    refine g_bipush (pc := 170) (v := 60) C dX5_readNumbers_170 (by decide) ?_
    refine g_callW (wr := []) (pc' := 175) (cs' := 0) (sl' := 0) hf C (fun u => some (.int (b2i u.2))) (fun u => (wM (kD k) aM u.1)) (fun u hu => gr_V (rest := []) C (cX5_reads_ (kL k) C.tr (kD k) N aM v 1 60 u hu) (fun ht => cwV 2 ht gX5_readNumbers_X5_reads rfl rfl rfl hdX5_reads ⟨(Nat.le_of_ble_eq_true rfl), (Nat.le_of_ble_eq_true rfl)⟩) 0 rfl rfl [0, 1, 2, 3, 4, 5, 6, 7, 8, 9] rfl (by decide) rfl rfl (Nat.le_of_ble_eq_true rfl) dX5_readNumbers_172 ⟨(Nat.le_of_ble_eq_true rfl), (Nat.le_of_ble_eq_true rfl)⟩) [0, 1, 2, 3, 4, 5, 6, 7, 8, 9] [] rfl rfl (by decide) (by decide) [0, 1, 2, 3, 4, 5, 6, 7, 8, 9] (by decide) (ws' := fun u => (wM (kD k) aM u.1)) (fun u => rfl) rfl rfl rfl (fun u => [.int (b2i u.2)]) (fun u => rfl) (fun r5 hf => ?_)
    obtain rfl := Option.some.inj hf
    exact g_bret (b := r5.2) C E dX5_readNumbers_175 (Nat.le_of_ble_eq_true rfl) (Nat.le_of_ble_eq_true rfl) ⟨rfl, rfl⟩
  refine g_split hf (fun e hf => ?_) (fun n1_117 hf => ?_)
  · refine g_lsw (pc := 1) (tgt := 111) (off := 110) C dX5_readNumbers_1 e (by decide) (by decide) (by decide) ?_
    refine g_aload_n (pc := 111) (x := (aM 0)) C dX5_readNumbers_111 rfl ?_
    refine g_iconst (pc := 112) (v := 0) C dX5_readNumbers_112 (by decide) ?_
    refine g_iconst (pc := 113) (v := 2) C dX5_readNumbers_113 (by decide) ?_
    refine g_callW (wr := []) (pc' := 117) (cs' := 0) (sl' := 0) hf C (fun u => some (.int (b2i u.2))) (fun u => (wM (kD k) aM u.1)) (fun u hu => gr_V (rest := []) C (cX5_reads_ (kL k) C.tr (kD k) N aM v 0 2 u hu) (fun ht => cwV 2 ht gX5_readNumbers_X5_reads rfl rfl rfl hdX5_reads ⟨(Nat.le_of_ble_eq_true rfl), (Nat.le_of_ble_eq_true rfl)⟩) 0 rfl rfl [0, 1, 2, 3, 4, 5, 6, 7, 8, 9] rfl (by decide) rfl rfl (Nat.le_of_ble_eq_true rfl) dX5_readNumbers_114 ⟨(Nat.le_of_ble_eq_true rfl), (Nat.le_of_ble_eq_true rfl)⟩) [0, 1, 2, 3, 4, 5, 6, 7, 8, 9] [] rfl rfl (by decide) (by decide) [0, 1, 2, 3, 4, 5, 6, 7, 8, 9] (by decide) (ws' := fun u => (wM (kD k) aM u.1)) (fun u => rfl) rfl rfl rfl (fun u => [.int (b2i u.2)]) (fun u => rfl) (fun r6 hf => ?_)
    obtain rfl := Option.some.inj hf
    exact g_bret (b := r6.2) C E dX5_readNumbers_117 (Nat.le_of_ble_eq_true rfl) (Nat.le_of_ble_eq_true rfl) ⟨rfl, rfl⟩
  refine g_split hf (fun e hf => ?_) (fun n1_119 hf => ?_)
  · refine g_lsw (pc := 1) (tgt := 62) (off := 61) C dX5_readNumbers_1 e (by decide) (by decide) (by decide) ?_
    refine g_aload_n (pc := 62) (x := (aM 0)) C dX5_readNumbers_62 rfl ?_
    refine g_iconst (pc := 63) (v := 0) C dX5_readNumbers_63 (by decide) ?_
    refine g_iconst (pc := 64) (v := 2) C dX5_readNumbers_64 (by decide) ?_
    refine g_callW (wr := []) (pc' := 68) (cs' := 0) (sl' := 0) hf C (fun u => some (.int (b2i u.2))) (fun u => (wM (kD k) aM u.1)) (fun u hu => gr_V (rest := []) C (cX5_reads_ (kL k) C.tr (kD k) N aM v 0 2 u hu) (fun ht => cwV 2 ht gX5_readNumbers_X5_reads rfl rfl rfl hdX5_reads ⟨(Nat.le_of_ble_eq_true rfl), (Nat.le_of_ble_eq_true rfl)⟩) 0 rfl rfl [0, 1, 2, 3, 4, 5, 6, 7, 8, 9] rfl (by decide) rfl rfl (Nat.le_of_ble_eq_true rfl) dX5_readNumbers_65 ⟨(Nat.le_of_ble_eq_true rfl), (Nat.le_of_ble_eq_true rfl)⟩) [0, 1, 2, 3, 4, 5, 6, 7, 8, 9] [] rfl rfl (by decide) (by decide) [0, 1, 2, 3, 4, 5, 6, 7, 8, 9] (by decide) (ws' := fun u => (wM (kD k) aM u.1)) (fun u => rfl) rfl rfl rfl (fun u => [.int (b2i u.2)]) (fun u => rfl) (fun r7 hf => ?_)
    refine g_ifB_ne (pc := 68) (tgt := 73) (b := r7.2) hf C dX5_readNumbers_68 (by decide) (fun hf => ?_) (fun hf => ?_)
    · refine g_aload_n (pc := 73) (x := (aM 0)) C dX5_readNumbers_73 rfl ?_
      refine g_getf (pc := 74) C 0 rfl rfl inX5_readNumbers_X5 14 (by decide) lkX5_readNumbers_32 rfl rfl dX5_readNumbers_74 ?_
      refine g_aload_n (pc := 77) (x := (aM 0)) C dX5_readNumbers_77 rfl ?_
      refine g_getf (pc := 78) C 0 rfl rfl inX5_readNumbers_X5 12 (by decide) lkX5_readNumbers_162 rfl rfl dX5_readNumbers_78 ?_
      refine g_aload_n (pc := 81) (x := (aM 0)) C dX5_readNumbers_81 rfl ?_
      refine g_getf (pc := 82) C 0 rfl rfl inX5_readNumbers_X5 11 (by decide) lkX5_readNumbers_156 rfl rfl dX5_readNumbers_82 ?_
      refine g_iast (pc := 85) (i := (mOrd r7.1)) (x := (mNum r7.1)) hf C 8 rfl dX5_readNumbers_85 (ws' := (wM (kD k) aM ((mRow r7.1), (mSav r7.1), (mSvn r7.1), (mSnp r7.1), (mKep r7.1), (mThr r7.1), (mFre r7.1), (mFrn r7.1), (mBuf r7.1), (mLen r7.1), (mSpt r7.1), (mNum r7.1), (mOrd r7.1), (mLet r7.1), (upd (mFst r7.1) (Int32.toNatClampNeg (mOrd r7.1)) (mNum r7.1)), (mSnd r7.1), (mTok r7.1), (mLft r7.1)))) rfl (fun hf => ?_)
      refine g_aload_n (pc := 86) (x := (aM 0)) C dX5_readNumbers_86 rfl ?_
      refine g_bipush (pc := 87) (v := 43) C dX5_readNumbers_87 (by decide) ?_
      refine g_callW (wr := []) (pc' := 92) (cs' := 0) (sl' := 0) hf C (fun u => some (.int (b2i u.2))) (fun u => (wM (kD k) aM u.1)) (fun u hu => gr_V (rest := []) C (cX5_takes_ (kL k) C.tr (kD k) N aM ((mRow r7.1), (mSav r7.1), (mSvn r7.1), (mSnp r7.1), (mKep r7.1), (mThr r7.1), (mFre r7.1), (mFrn r7.1), (mBuf r7.1), (mLen r7.1), (mSpt r7.1), (mNum r7.1), (mOrd r7.1), (mLet r7.1), (upd (mFst r7.1) (Int32.toNatClampNeg (mOrd r7.1)) (mNum r7.1)), (mSnd r7.1), (mTok r7.1), (mLft r7.1)) 43 u hu) (fun ht => cwV 1 ht gX5_readNumbers_X5_takes rfl rfl rfl hdX5_takes ⟨(Nat.le_of_ble_eq_true rfl), (Nat.le_of_ble_eq_true rfl)⟩) 0 rfl rfl [0, 1, 2, 3, 4, 5, 6, 7, 8, 9] rfl (by decide) rfl rfl (Nat.le_of_ble_eq_true rfl) dX5_readNumbers_89 ⟨(Nat.le_of_ble_eq_true rfl), (Nat.le_of_ble_eq_true rfl)⟩) [0, 1, 2, 3, 4, 5, 6, 7, 8, 9] [] rfl rfl (by decide) (by decide) [0, 1, 2, 3, 4, 5, 6, 7, 8, 9] (by decide) (ws' := fun u => (wM (kD k) aM u.1)) (fun u => rfl) rfl rfl rfl (fun u => [.int (b2i u.2)]) (fun u => rfl) (fun r8 hf => ?_)
      refine g_ifB_eq (pc := 92) (tgt := 109) (b := r8.2) hf C dX5_readNumbers_92 (by decide) (fun hf => ?_) (fun hf => ?_)
      · refine g_iconst (pc := 109) (v := 0) C dX5_readNumbers_109 (by decide) ?_
        obtain rfl := Option.some.inj hf
        exact g_bret (b := false) C E dX5_readNumbers_110 (Nat.le_of_ble_eq_true rfl) (Nat.le_of_ble_eq_true rfl) ⟨rfl, rfl⟩
      · refine g_aload_n (pc := 95) (x := (aM 0)) C dX5_readNumbers_95 rfl ?_
        refine g_iconst (pc := 96) (v := 0) C dX5_readNumbers_96 (by decide) ?_
        refine g_bipush (pc := 97) (v := 19) C dX5_readNumbers_97 (by decide) ?_
        refine g_callW (wr := []) (pc' := 102) (cs' := 0) (sl' := 0) hf C (fun u => some (.int (b2i u.2))) (fun u => (wM (kD k) aM u.1)) (fun u hu => gr_V (rest := []) C (cX5_reads_ (kL k) C.tr (kD k) N aM r8.1 0 19 u hu) (fun ht => cwV 2 ht gX5_readNumbers_X5_reads rfl rfl rfl hdX5_reads ⟨(Nat.le_of_ble_eq_true rfl), (Nat.le_of_ble_eq_true rfl)⟩) 0 rfl rfl [0, 1, 2, 3, 4, 5, 6, 7, 8, 9] rfl (by decide) rfl rfl (Nat.le_of_ble_eq_true rfl) dX5_readNumbers_99 ⟨(Nat.le_of_ble_eq_true rfl), (Nat.le_of_ble_eq_true rfl)⟩) [0, 1, 2, 3, 4, 5, 6, 7, 8, 9] [] rfl rfl (by decide) (by decide) [0, 1, 2, 3, 4, 5, 6, 7, 8, 9] (by decide) (ws' := fun u => (wM (kD k) aM u.1)) (fun u => rfl) rfl rfl rfl (fun u => [.int (b2i u.2)]) (fun u => rfl) (fun r9 hf => ?_)
        refine g_ifB_eq (pc := 102) (tgt := 109) (b := r9.2) hf C dX5_readNumbers_102 (by decide) (fun hf => ?_) (fun hf => ?_)
        · refine g_iconst (pc := 109) (v := 0) C dX5_readNumbers_109 (by decide) ?_
          obtain rfl := Option.some.inj hf
          exact g_bret (b := false) C E dX5_readNumbers_110 (Nat.le_of_ble_eq_true rfl) (Nat.le_of_ble_eq_true rfl) ⟨rfl, rfl⟩
        · refine g_iconst (pc := 105) (v := 1) C dX5_readNumbers_105 (by decide) ?_
          refine g_goto (pc := 106) (tgt := 110) C dX5_readNumbers_106 (by decide) ?_
          obtain rfl := Option.some.inj hf
          exact g_bret (b := true) C E dX5_readNumbers_110 (Nat.le_of_ble_eq_true rfl) (Nat.le_of_ble_eq_true rfl) ⟨rfl, rfl⟩
    · refine g_iconst (pc := 71) (v := 0) C dX5_readNumbers_71 (by decide) ?_
      obtain rfl := Option.some.inj hf
      exact g_bret (b := false) C E dX5_readNumbers_72 (Nat.le_of_ble_eq_true rfl) (Nat.le_of_ble_eq_true rfl) ⟨rfl, rfl⟩
  refine g_lswd (pc := 1) (x := p1) (tgt := 176) C dX5_readNumbers_1 (by have e1_98 : (p1).toInt ≠ 98 := fun h => n1_98 (Int32.toInt_inj.mp (h.trans (by decide))); have e1_104 : (p1).toInt ≠ 104 := fun h => n1_104 (Int32.toInt_inj.mp (h.trans (by decide))); have e1_114 : (p1).toInt ≠ 114 := fun h => n1_114 (Int32.toInt_inj.mp (h.trans (by decide))); have e1_117 : (p1).toInt ≠ 117 := fun h => n1_117 (Int32.toInt_inj.mp (h.trans (by decide))); have e1_119 : (p1).toInt ≠ 119 := fun h => n1_119 (Int32.toInt_inj.mp (h.trans (by decide))); simp [Op.lookupswitch.offset, e1_98, e1_104, e1_114, e1_117, e1_119, Ne.symm e1_98, Ne.symm e1_104, Ne.symm e1_114, Ne.symm e1_117, Ne.symm e1_119]) (by decide) ?_
  refine g_iconst (pc := 176) (v := 0) C dX5_readNumbers_176 (by decide) ?_
  obtain rfl := Option.some.inj hf
  exact g_bret (b := false) C E dX5_readNumbers_177 (Nat.le_of_ble_eq_true rfl) (Nat.le_of_ble_eq_true rfl) ⟨rfl, rfl⟩
set_option maxRecDepth 100000 in
set_option maxHeartbeats 4000000 in
theorem cX5_readNumbers_ (l : Launch) (htr : l.stackTraces = false) (D : va_G) (N : Nat) (aM : Nat → Nat) (v : VM) (p1 : Int32) (r : VM × Bool) (hf : fX5_readNumbers N v p1 = some r) : Tc l D yX5_readNumbers wsX5_readNumbers rmX5_readNumbers [.ref (aM 0), .int p1] (wM D aM v) (fun rv w => rv = some (.int (b2i r.2)) ∧ w = (wM D aM r.1)) (fun _ _ => False) 0 0 := Tc_of htr (by decide +kernel) rfl (Nat.le_of_ble_eq_true rfl) (fun k C E hl hD => by subst hD; exact wkX5_readNumbers C N aM v p1 r hf E)
