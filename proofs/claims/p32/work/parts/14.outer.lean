abbrev rmX4_checkRange : Room := { frames := 0, cells := 0, slots := 0, locals := 0 }
theorem hsX4_checkRange : yX4_checkRange.cls ≠ "java/lang/invoke/MethodHandle" ∧ yX4_checkRange.cls ≠ "java/lang/invoke/VarHandle" ∧ (parseMethodDescriptor yX4_checkRange.desc).map (fun d => d.parameters.length) = some 3 := by decide +kernel
def fX4_checkRange (N : Nat) (p0 : Int32) (p1 : Int32) (p2 : Int32) : Option (Unit) := (if p0 < p1 then none else (if p0 ≤ p2 then some () else none))
set_option maxRecDepth 100000 in
set_option maxHeartbeats 4000000 in
theorem wkX4_checkRange {k : Kt} (C : gC k cX4_checkRange 3 RX4 wsX4_checkRange rmX4_checkRange "checkRange") (N : Nat) (p0 : Int32) (p1 : Int32) (p2 : Int32) (r : Unit) (hf : fX4_checkRange N p0 p1 p2 = some r) (E : gE k [] (fun rv w => rv = none ∧ w = []) (fun _ _ => False) 0 0 none []) : gG k [] [(0, .int p0), (1, .int p1), (2, .int p2)] 0 0 0 [] := by
  unfold fX4_checkRange at hf
  refine g_iload_n (pc := 0) (x := p0) C dX4_checkRange_0 rfl ?_
  refine g_iload_n (pc := 1) (x := p1) C dX4_checkRange_1 rfl ?_
  refine g_icmp_lt (pc := 2) (tgt := 10) (x := p0) (y := p1) hf C dX4_checkRange_2 (by decide) (fun hf => ?_) (fun hf => ?_)
  · cases hf
  · refine g_iload_n (pc := 5) (x := p0) C dX4_checkRange_5 rfl ?_
    refine g_iload_n (pc := 6) (x := p2) C dX4_checkRange_6 rfl ?_
    refine g_icmp_le (pc := 7) (tgt := 21) (x := p0) (y := p2) hf C dX4_checkRange_7 (by decide) (fun hf => ?_) (fun hf => ?_)
    · obtain rfl := Option.some.inj hf
      exact g_vret C E dX4_checkRange_21 (Nat.le_of_ble_eq_true rfl) (Nat.le_of_ble_eq_true rfl) ⟨rfl, rfl⟩
    · cases hf
set_option maxRecDepth 100000 in
set_option maxHeartbeats 4000000 in
theorem cX4_checkRange_ (l : Launch) (htr : l.stackTraces = false) (D : va_G) (N : Nat) (p0 : Int32) (p1 : Int32) (p2 : Int32) (r : Unit) (hf : fX4_checkRange N p0 p1 p2 = some r) : Tc l D yX4_checkRange wsX4_checkRange rmX4_checkRange [.int p0, .int p1, .int p2] [] (fun rv w => rv = none ∧ w = []) (fun _ _ => False) 0 0 := Tc_of htr (by decide +kernel) rfl (Nat.le_of_ble_eq_true rfl) (fun k C E hl hD => by subst hD; exact wkX4_checkRange C N p0 p1 p2 r hf E)
abbrev rmX4_block : Room := { frames := 3, cells := 0, slots := 0, locals := 111 }
theorem inX4_block_X4 : ∀ w ∈ wsX40, w ∈ wsX4_block := by decide +kernel
theorem kcX4_block_34 : Jvm.Cond.constant RX4 34 100000 ∈ wsX4_block := by decide +kernel
theorem lkX4_block_12 : Cond.fieldLink RX4 12 "GaugeBlocks" (TX4 0).2.1 (TX4 0).2.2.1 ∈ wsX4_block := by decide +kernel
theorem lkX4_block_19 : Cond.fieldLink RX4 19 "GaugeBlocks" (TX4 1).2.1 (TX4 1).2.2.1 ∈ wsX4_block := by decide +kernel
theorem hdX4_block : yX4_block.cls = RX4 ∧ yX4_block.cls ≠ "java/lang/invoke/MethodHandle" ∧ yX4_block.cls ≠ "java/lang/invoke/VarHandle" ∧ (parseMethodDescriptor yX4_block.desc).map (fun d => d.parameters.length) = some 2 := by decide +kernel
def fX4_block (N : Nat) (v : VS) (z : VV) (p1 : Int32) (p2 : Int32) : Option (VS × VV × Int32) := ((fX4_checkRange N p1 500 100000).bind fun r1 => ((fX4_checkRange N p2 (-900) 900).bind fun r2 => ((fX3_isFull N v).bind fun r3 => (if r3 = true then none else ((fX2_push N v z).bind fun r4 => ((fX3_addBlock N v p1 p2).bind fun r5 => some (r5.1, r4, r5.2)))))))
set_option maxRecDepth 100000 in
set_option maxHeartbeats 4000000 in
theorem wkX4_block {k : Kt} (C : gC k cX4_block 3 RX4 wsX4_block rmX4_block "block") (N : Nat) (rG : Nat) (rN : Nat) (rT : Nat) (aS : Nat → Nat) (rV : Nat) (aV : Nat → Nat) (v : VS) (z : VV) (p1 : Int32) (p2 : Int32) (r : VS × VV × Int32) (hf : fX4_block N v z p1 p2 = some r) (E : gE k (wG (kD k) rG (aS 0) rV rN rT ++ (wS (kD k) aS v ++ (wV (kD k) rV aV z))) (fun rv w => rv = some (.int r.2.2) ∧ ∃ a : Nat → Nat, w = (wG (kD k) rG (aS 0) rV rN rT ++ (wS (kD k) aS r.1 ++ (wV (kD k) rV a r.2.1)))) (fun _ _ => False) 0 0 (some .int) []) : gG k (wG (kD k) rG (aS 0) rV rN rT ++ (wS (kD k) aS v ++ (wV (kD k) rV aV z))) [(0, .ref rG), (1, .int p1), (2, .int p2)] 0 0 0 [] := by
  unfold fX4_block at hf
  refine g_iload_n (pc := 0) (x := p1) C dX4_block_0 rfl ?_
  refine g_sipush (pc := 1) (v := 500) C dX4_block_1 (by decide) ?_
  refine g_ldc (pc := 4) (v := 100000) C dX4_block_4 kcX4_block_34 ?_
  refine g_callR (pc' := 9) (cs' := 0) (sl' := 0) hf C (fun u => none) (fun u hu => gr_S (rest := []) C (cX4_checkRange_ (kL k) C.tr (kD k) N p1 500 100000 u hu) (fun ht => va_cwS 3 ht gX4_block_X4_checkRange rfl rfl rfl hsX4_checkRange ⟨(Nat.le_of_ble_eq_true rfl), (Nat.le_of_ble_eq_true rfl)⟩) [] rfl (by decide) rfl rfl (Nat.le_of_ble_eq_true rfl) dX4_block_6 ⟨(Nat.le_of_ble_eq_true rfl), (Nat.le_of_ble_eq_true rfl)⟩) [] rfl rfl rfl rfl (fun u => []) (fun u => rfl) (fun r1 hf => ?_)
  refine g_iload_n (pc := 9) (x := p2) C dX4_block_9 rfl ?_
  refine g_sipush (pc := 10) (v := (-900)) C dX4_block_10 (by decide) ?_
  refine g_sipush (pc := 13) (v := 900) C dX4_block_13 (by decide) ?_
  refine g_callR (pc' := 19) (cs' := 0) (sl' := 0) hf C (fun u => none) (fun u hu => gr_S (rest := []) C (cX4_checkRange_ (kL k) C.tr (kD k) N p2 (-900) 900 u hu) (fun ht => va_cwS 3 ht gX4_block_X4_checkRange rfl rfl rfl hsX4_checkRange ⟨(Nat.le_of_ble_eq_true rfl), (Nat.le_of_ble_eq_true rfl)⟩) [] rfl (by decide) rfl rfl (Nat.le_of_ble_eq_true rfl) dX4_block_16 ⟨(Nat.le_of_ble_eq_true rfl), (Nat.le_of_ble_eq_true rfl)⟩) [] rfl rfl rfl rfl (fun u => []) (fun u => rfl) (fun r2 hf => ?_)
  refine g_aload_n (pc := 19) (x := rG) C dX4_block_19 rfl ?_
  refine g_getf (pc := 20) C 0 rfl rfl inX4_block_X4 0 (by decide) lkX4_block_12 rfl rfl dX4_block_20 ?_
  refine g_callR (pc' := 26) (cs' := 0) (sl' := 0) hf C (fun u => some (.int (b2i u))) (fun u hu => gr_V (rest := []) C (cX3_isFull_ (kL k) C.tr (kD k) N aS v u hu) (fun ht => cwV 0 ht gX4_block_X3_isFull rfl rfl rfl hdX3_isFull ⟨(Nat.le_of_ble_eq_true rfl), (Nat.le_of_ble_eq_true rfl)⟩) 1 rfl rfl [1, 2, 3, 4, 5, 6, 7, 8, 9] rfl (by decide) rfl rfl (Nat.le_of_ble_eq_true rfl) dX4_block_23 ⟨(Nat.le_of_ble_eq_true rfl), (Nat.le_of_ble_eq_true rfl)⟩) [1, 2, 3, 4, 5, 6, 7, 8, 9] rfl rfl rfl rfl (fun u => [.int (b2i u)]) (fun u => rfl) (fun r3 hf => ?_)
  refine g_ifB_eq (pc := 26) (tgt := 39) (b := r3) hf C dX4_block_26 (by decide) (fun hf => ?_) (fun hf => ?_)
  · refine g_aload_n (pc := 39) (x := rG) C dX4_block_39 rfl ?_
    refine g_getf (pc := 40) C 0 rfl rfl inX4_block_X4 1 (by decide) lkX4_block_19 rfl rfl dX4_block_40 ?_
    refine g_aload_n (pc := 43) (x := rG) C dX4_block_43 rfl ?_
    refine g_getf (pc := 44) C 0 rfl rfl inX4_block_X4 0 (by decide) lkX4_block_12 rfl rfl dX4_block_44 ?_
    refine g_callPA (wr := wG (kD k) rG (aS 0) rV rN rT ) (pc' := 50) (cs' := 0) (sl' := 0) hf C (fun u => none) (fun u a => (wS (kD k) aS v ++ (wV (kD k) rV a u))) (((pm0 (List.Perm.refl _)).trans (pmc pmL)).trans as2) (fun u hu => gr_V (rest := []) C (cX2_push_ (kL k) C.tr (kD k) N aS rV aV v z u hu) (fun ht => cwV 1 ht gX4_block_X2_push rfl rfl rfl hdX2_push ⟨(Nat.le_of_ble_eq_true rfl), (Nat.le_of_ble_eq_true rfl)⟩) 9 rfl rfl _ (rg_map _ _) (rg_nd _) rfl rfl (Nat.le_of_ble_eq_true rfl) dX4_block_47 ⟨(Nat.le_of_ble_eq_true rfl), (Nat.le_of_ble_eq_true rfl)⟩) (ws' := fun u a => (wG (kD k) rG (aS 0) rV rN rT  ++ (wS (kD k) aS v ++ (wV (kD k) rV a u)))) (fun u a => (as2.symm.trans (pm0 pmL))) rfl rfl rfl (fun u => []) (fun u => rfl) (fun r4 aV4 hf => ?_)
    refine g_aload_n (pc := 50) (x := rG) C dX4_block_50 rfl ?_
    refine g_getf (pc := 51) C 0 rfl rfl inX4_block_X4 0 (by decide) lkX4_block_12 rfl rfl dX4_block_51 ?_
    refine g_iload_n (pc := 54) (x := p1) C dX4_block_54 rfl ?_
    refine g_iload_n (pc := 55) (x := p2) C dX4_block_55 rfl ?_
    refine g_callWA (wr := wG (kD k) rG (aS 0) rV rN rT  ++ (wV (kD k) rV aV4 r4)) (pc' := 59) (cs' := 0) (sl' := 0) hf C (fun u => some (.int u.2)) (fun u => (wS (kD k) aS u.1)) (pm0 (List.Perm.refl _)) (fun u hu => gr_V (rest := []) C (cX3_addBlock_ (kL k) C.tr (kD k) N aS v p1 p2 u hu) (fun ht => cwV 2 ht gX4_block_X3_addBlock rfl rfl rfl hdX3_addBlock ⟨(Nat.le_of_ble_eq_true rfl), (Nat.le_of_ble_eq_true rfl)⟩) 0 rfl rfl _ (rg_map _ _) (rg_nd _) rfl rfl (Nat.le_of_ble_eq_true rfl) dX4_block_56 ⟨(Nat.le_of_ble_eq_true rfl), (Nat.le_of_ble_eq_true rfl)⟩) (ws' := fun u => (wG (kD k) rG (aS 0) rV rN rT  ++ (wS (kD k) aS u.1 ++ (wV (kD k) rV aV4 r4)))) (fun u => (pm0 (List.Perm.refl _))) rfl rfl rfl (fun u => [.int u.2]) (fun u => rfl) (fun r5 hf => ?_)
    obtain rfl := Option.some.inj hf
    exact g_iret (v := r5.2) C E dX4_block_59 (Nat.le_of_ble_eq_true rfl) (Nat.le_of_ble_eq_true rfl) ⟨rfl, _, rfl⟩
  · cases hf
set_option maxRecDepth 100000 in
set_option maxHeartbeats 4000000 in
theorem cX4_block_ (l : Launch) (htr : l.stackTraces = false) (D : va_G) (N : Nat) (rG : Nat) (rN : Nat) (rT : Nat) (aS : Nat → Nat) (rV : Nat) (aV : Nat → Nat) (v : VS) (z : VV) (p1 : Int32) (p2 : Int32) (r : VS × VV × Int32) (hf : fX4_block N v z p1 p2 = some r) : Tc l D yX4_block wsX4_block rmX4_block [.ref rG, .int p1, .int p2] (wG D rG (aS 0) rV rN rT ++ (wS D aS v ++ (wV D rV aV z))) (fun rv w => rv = some (.int r.2.2) ∧ ∃ a : Nat → Nat, w = (wG D rG (aS 0) rV rN rT ++ (wS D aS r.1 ++ (wV D rV a r.2.1)))) (fun _ _ => False) 0 0 := Tc_of htr (by decide +kernel) rfl (Nat.le_of_ble_eq_true rfl) (fun k C E hl hD => by subst hD; exact wkX4_block C N rG rN rT aS rV aV v z p1 p2 r hf E)
abbrev rmX4_checkBlock : Room := { frames := 1, cells := 0, slots := 0, locals := 21 }
theorem inX4_checkBlock_X4 : ∀ w ∈ wsX40, w ∈ wsX4_checkBlock := by decide +kernel
theorem lkX4_checkBlock_12 : Cond.fieldLink RX4 12 "GaugeBlocks" (TX4 0).2.1 (TX4 0).2.2.1 ∈ wsX4_checkBlock := by decide +kernel
theorem hdX4_checkBlock : yX4_checkBlock.cls = RX4 ∧ yX4_checkBlock.cls ≠ "java/lang/invoke/MethodHandle" ∧ yX4_checkBlock.cls ≠ "java/lang/invoke/VarHandle" ∧ (parseMethodDescriptor yX4_checkBlock.desc).map (fun d => d.parameters.length) = some 1 := by decide +kernel
def fX4_checkBlock (N : Nat) (v : VS) (p1 : Int32) : Option (Unit) := ((fX3_hasBlock N v p1).bind fun r1 => (if r1 = true then some () else none))
set_option maxRecDepth 100000 in
set_option maxHeartbeats 4000000 in
theorem wkX4_checkBlock {k : Kt} (C : gC k cX4_checkBlock 2 RX4 wsX4_checkBlock rmX4_checkBlock "checkBlock") (N : Nat) (rG : Nat) (rV : Nat) (rN : Nat) (rT : Nat) (aS : Nat → Nat) (v : VS) (p1 : Int32) (r : Unit) (hf : fX4_checkBlock N v p1 = some r) (E : gE k (wG (kD k) rG (aS 0) rV rN rT ++ (wS (kD k) aS v)) (fun rv w => rv = none ∧ w = (wG (kD k) rG (aS 0) rV rN rT ++ (wS (kD k) aS v))) (fun _ _ => False) 0 0 none []) : gG k (wG (kD k) rG (aS 0) rV rN rT ++ (wS (kD k) aS v)) [(0, .ref rG), (1, .int p1)] 0 0 0 [] := by
  unfold fX4_checkBlock at hf
  refine g_aload_n (pc := 0) (x := rG) C dX4_checkBlock_0 rfl ?_
  refine g_getf (pc := 1) C 0 rfl rfl inX4_checkBlock_X4 0 (by decide) lkX4_checkBlock_12 rfl rfl dX4_checkBlock_1 ?_
  refine g_iload_n (pc := 4) (x := p1) C dX4_checkBlock_4 rfl ?_
  refine g_callR (pc' := 8) (cs' := 0) (sl' := 0) hf C (fun u => some (.int (b2i u))) (fun u hu => gr_V (rest := []) C (cX3_hasBlock_ (kL k) C.tr (kD k) N aS v p1 u hu) (fun ht => cwV 1 ht gX4_checkBlock_X3_hasBlock rfl rfl rfl hdX3_hasBlock ⟨(Nat.le_of_ble_eq_true rfl), (Nat.le_of_ble_eq_true rfl)⟩) 1 rfl rfl [1, 2, 3, 4, 5, 6, 7, 8, 9] rfl (by decide) rfl rfl (Nat.le_of_ble_eq_true rfl) dX4_checkBlock_5 ⟨(Nat.le_of_ble_eq_true rfl), (Nat.le_of_ble_eq_true rfl)⟩) [1, 2, 3, 4, 5, 6, 7, 8, 9] rfl rfl rfl rfl (fun u => [.int (b2i u)]) (fun u => rfl) (fun r1 hf => ?_)
  refine g_ifB_ne (pc := 8) (tgt := 22) (b := r1) hf C dX4_checkBlock_8 (by decide) (fun hf => ?_) (fun hf => ?_)
  · obtain rfl := Option.some.inj hf
    exact g_vret C E dX4_checkBlock_22 (Nat.le_of_ble_eq_true rfl) (Nat.le_of_ble_eq_true rfl) ⟨rfl, rfl⟩
  · cases hf
set_option maxRecDepth 100000 in
set_option maxHeartbeats 4000000 in
theorem cX4_checkBlock_ (l : Launch) (htr : l.stackTraces = false) (D : va_G) (N : Nat) (rG : Nat) (rV : Nat) (rN : Nat) (rT : Nat) (aS : Nat → Nat) (v : VS) (p1 : Int32) (r : Unit) (hf : fX4_checkBlock N v p1 = some r) : Tc l D yX4_checkBlock wsX4_checkBlock rmX4_checkBlock [.ref rG, .int p1] (wG D rG (aS 0) rV rN rT ++ (wS D aS v)) (fun rv w => rv = none ∧ w = (wG D rG (aS 0) rV rN rT ++ (wS D aS v))) (fun _ _ => False) 0 0 := Tc_of htr (by decide +kernel) rfl (Nat.le_of_ble_eq_true rfl) (fun k C E hl hD => by subst hD; exact wkX4_checkBlock C N rG rV rN rT aS v p1 r hf E)
abbrev rmX4_checkFree : Room := { frames := 1, cells := 0, slots := 0, locals := 21 }
theorem inX4_checkFree_X4 : ∀ w ∈ wsX40, w ∈ wsX4_checkFree := by decide +kernel
theorem lkX4_checkFree_12 : Cond.fieldLink RX4 12 "GaugeBlocks" (TX4 0).2.1 (TX4 0).2.2.1 ∈ wsX4_checkFree := by decide +kernel
theorem hdX4_checkFree : yX4_checkFree.cls = RX4 ∧ yX4_checkFree.cls ≠ "java/lang/invoke/MethodHandle" ∧ yX4_checkFree.cls ≠ "java/lang/invoke/VarHandle" ∧ (parseMethodDescriptor yX4_checkFree.desc).map (fun d => d.parameters.length) = some 1 := by decide +kernel
def fX4_checkFree (N : Nat) (v : VS) (p1 : Int32) : Option (Unit) := ((fX3_isFree N v p1).bind fun r1 => (if r1 = true then some () else none))
set_option maxRecDepth 100000 in
set_option maxHeartbeats 4000000 in
theorem wkX4_checkFree {k : Kt} (C : gC k cX4_checkFree 2 RX4 wsX4_checkFree rmX4_checkFree "checkFree") (N : Nat) (rG : Nat) (rV : Nat) (rN : Nat) (rT : Nat) (aS : Nat → Nat) (v : VS) (p1 : Int32) (r : Unit) (hf : fX4_checkFree N v p1 = some r) (E : gE k (wG (kD k) rG (aS 0) rV rN rT ++ (wS (kD k) aS v)) (fun rv w => rv = none ∧ w = (wG (kD k) rG (aS 0) rV rN rT ++ (wS (kD k) aS v))) (fun _ _ => False) 0 0 none []) : gG k (wG (kD k) rG (aS 0) rV rN rT ++ (wS (kD k) aS v)) [(0, .ref rG), (1, .int p1)] 0 0 0 [] := by
  unfold fX4_checkFree at hf
  refine g_aload_n (pc := 0) (x := rG) C dX4_checkFree_0 rfl ?_
  refine g_getf (pc := 1) C 0 rfl rfl inX4_checkFree_X4 0 (by decide) lkX4_checkFree_12 rfl rfl dX4_checkFree_1 ?_
  refine g_iload_n (pc := 4) (x := p1) C dX4_checkFree_4 rfl ?_
  refine g_callR (pc' := 8) (cs' := 0) (sl' := 0) hf C (fun u => some (.int (b2i u))) (fun u hu => gr_V (rest := []) C (cX3_isFree_ (kL k) C.tr (kD k) N aS v p1 u hu) (fun ht => cwV 1 ht gX4_checkFree_X3_isFree rfl rfl rfl hdX3_isFree ⟨(Nat.le_of_ble_eq_true rfl), (Nat.le_of_ble_eq_true rfl)⟩) 1 rfl rfl [1, 2, 3, 4, 5, 6, 7, 8, 9] rfl (by decide) rfl rfl (Nat.le_of_ble_eq_true rfl) dX4_checkFree_5 ⟨(Nat.le_of_ble_eq_true rfl), (Nat.le_of_ble_eq_true rfl)⟩) [1, 2, 3, 4, 5, 6, 7, 8, 9] rfl rfl rfl rfl (fun u => [.int (b2i u)]) (fun u => rfl) (fun r1 hf => ?_)
  refine g_ifB_ne (pc := 8) (tgt := 22) (b := r1) hf C dX4_checkFree_8 (by decide) (fun hf => ?_) (fun hf => ?_)
  · obtain rfl := Option.some.inj hf
    exact g_vret C E dX4_checkFree_22 (Nat.le_of_ble_eq_true rfl) (Nat.le_of_ble_eq_true rfl) ⟨rfl, rfl⟩
  · cases hf
set_option maxRecDepth 100000 in
set_option maxHeartbeats 4000000 in
theorem cX4_checkFree_ (l : Launch) (htr : l.stackTraces = false) (D : va_G) (N : Nat) (rG : Nat) (rV : Nat) (rN : Nat) (rT : Nat) (aS : Nat → Nat) (v : VS) (p1 : Int32) (r : Unit) (hf : fX4_checkFree N v p1 = some r) : Tc l D yX4_checkFree wsX4_checkFree rmX4_checkFree [.ref rG, .int p1] (wG D rG (aS 0) rV rN rT ++ (wS D aS v)) (fun rv w => rv = none ∧ w = (wG D rG (aS 0) rV rN rT ++ (wS D aS v))) (fun _ _ => False) 0 0 := Tc_of htr (by decide +kernel) rfl (Nat.le_of_ble_eq_true rfl) (fun k C E hl hD => by subst hD; exact wkX4_checkFree C N rG rV rN rT aS v p1 r hf E)
abbrev rmX4_discard : Room := { frames := 3, cells := 0, slots := 0, locals := 111 }
theorem inX4_discard_X3 : ∀ w ∈ wsX30, w ∈ wsX4_discard := by decide +kernel
theorem inX4_discard_X4 : ∀ w ∈ wsX40, w ∈ wsX4_discard := by decide +kernel
theorem lkX4_discard_19 : Cond.fieldLink RX4 19 "GaugeBlocks" (TX4 1).2.1 (TX4 1).2.2.1 ∈ wsX4_discard := by decide +kernel
theorem lkX4_discard_12 : Cond.fieldLink RX4 12 "GaugeBlocks" (TX4 0).2.1 (TX4 0).2.2.1 ∈ wsX4_discard := by decide +kernel
theorem lkX4_discard_68 : Cond.fieldLink RX4 68 "GaugeBlocks$State" (TX3 8).2.1 (TX3 8).2.2.1 ∈ wsX4_discard := by decide +kernel
theorem hdX4_discard : yX4_discard.cls = RX4 ∧ yX4_discard.cls ≠ "java/lang/invoke/MethodHandle" ∧ yX4_discard.cls ≠ "java/lang/invoke/VarHandle" ∧ (parseMethodDescriptor yX4_discard.desc).map (fun d => d.parameters.length) = some 1 := by decide +kernel
def fX4_discard (N : Nat) (v : VS) (z : VV) (p1 : Int32) : Option (VS × VV × Int32) := ((fX4_checkBlock N v p1).bind fun r1 => ((fX4_checkFree N v p1).bind fun r2 => ((fX2_push N v z).bind fun r3 => ((fX3_removeBlock N v p1).bind fun r4 => some (r4, r3, (sB r4))))))
set_option maxRecDepth 100000 in
set_option maxHeartbeats 4000000 in
theorem wkX4_discard {k : Kt} (C : gC k cX4_discard 2 RX4 wsX4_discard rmX4_discard "discard") (N : Nat) (rG : Nat) (rN : Nat) (rT : Nat) (aS : Nat → Nat) (rV : Nat) (aV : Nat → Nat) (v : VS) (z : VV) (p1 : Int32) (r : VS × VV × Int32) (hf : fX4_discard N v z p1 = some r) (E : gE k (wG (kD k) rG (aS 0) rV rN rT ++ (wS (kD k) aS v ++ (wV (kD k) rV aV z))) (fun rv w => rv = some (.int r.2.2) ∧ ∃ a : Nat → Nat, w = (wG (kD k) rG (aS 0) rV rN rT ++ (wS (kD k) aS r.1 ++ (wV (kD k) rV a r.2.1)))) (fun _ _ => False) 0 0 (some .int) []) : gG k (wG (kD k) rG (aS 0) rV rN rT ++ (wS (kD k) aS v ++ (wV (kD k) rV aV z))) [(0, .ref rG), (1, .int p1)] 0 0 0 [] := by
  unfold fX4_discard at hf
  refine g_aload_n (pc := 0) (x := rG) C dX4_discard_0 rfl ?_
  refine g_iload_n (pc := 1) (x := p1) C dX4_discard_1 rfl ?_
  refine g_callR (pc' := 5) (cs' := 0) (sl' := 0) hf C (fun u => none) (fun u hu => gr_V (rest := []) C (cX4_checkBlock_ (kL k) C.tr (kD k) N rG rV rN rT aS v p1 u hu) (fun ht => cwV 1 ht gX4_discard_X4_checkBlock rfl rfl rfl hdX4_checkBlock ⟨(Nat.le_of_ble_eq_true rfl), (Nat.le_of_ble_eq_true rfl)⟩) 0 rfl rfl [0, 1, 2, 3, 4, 5, 6, 7, 8, 9] rfl (by decide) rfl rfl (Nat.le_of_ble_eq_true rfl) dX4_discard_2 ⟨(Nat.le_of_ble_eq_true rfl), (Nat.le_of_ble_eq_true rfl)⟩) [0, 1, 2, 3, 4, 5, 6, 7, 8, 9] rfl rfl rfl rfl (fun u => []) (fun u => rfl) (fun r1 hf => ?_)
  refine g_aload_n (pc := 5) (x := rG) C dX4_discard_5 rfl ?_
  refine g_iload_n (pc := 6) (x := p1) C dX4_discard_6 rfl ?_
  refine g_callR (pc' := 10) (cs' := 0) (sl' := 0) hf C (fun u => none) (fun u hu => gr_V (rest := []) C (cX4_checkFree_ (kL k) C.tr (kD k) N rG rV rN rT aS v p1 u hu) (fun ht => cwV 1 ht gX4_discard_X4_checkFree rfl rfl rfl hdX4_checkFree ⟨(Nat.le_of_ble_eq_true rfl), (Nat.le_of_ble_eq_true rfl)⟩) 0 rfl rfl [0, 1, 2, 3, 4, 5, 6, 7, 8, 9] rfl (by decide) rfl rfl (Nat.le_of_ble_eq_true rfl) dX4_discard_7 ⟨(Nat.le_of_ble_eq_true rfl), (Nat.le_of_ble_eq_true rfl)⟩) [0, 1, 2, 3, 4, 5, 6, 7, 8, 9] rfl rfl rfl rfl (fun u => []) (fun u => rfl) (fun r2 hf => ?_)
  refine g_aload_n (pc := 10) (x := rG) C dX4_discard_10 rfl ?_
  refine g_getf (pc := 11) C 0 rfl rfl inX4_discard_X4 1 (by decide) lkX4_discard_19 rfl rfl dX4_discard_11 ?_
  refine g_aload_n (pc := 14) (x := rG) C dX4_discard_14 rfl ?_
  refine g_getf (pc := 15) C 0 rfl rfl inX4_discard_X4 0 (by decide) lkX4_discard_12 rfl rfl dX4_discard_15 ?_
  refine g_callPA (wr := wG (kD k) rG (aS 0) rV rN rT ) (pc' := 21) (cs' := 0) (sl' := 0) hf C (fun u => none) (fun u a => (wS (kD k) aS v ++ (wV (kD k) rV a u))) (((pm0 (List.Perm.refl _)).trans (pmc pmL)).trans as2) (fun u hu => gr_V (rest := []) C (cX2_push_ (kL k) C.tr (kD k) N aS rV aV v z u hu) (fun ht => cwV 1 ht gX4_discard_X2_push rfl rfl rfl hdX2_push ⟨(Nat.le_of_ble_eq_true rfl), (Nat.le_of_ble_eq_true rfl)⟩) 9 rfl rfl _ (rg_map _ _) (rg_nd _) rfl rfl (Nat.le_of_ble_eq_true rfl) dX4_discard_18 ⟨(Nat.le_of_ble_eq_true rfl), (Nat.le_of_ble_eq_true rfl)⟩) (ws' := fun u a => (wG (kD k) rG (aS 0) rV rN rT  ++ (wS (kD k) aS v ++ (wV (kD k) rV a u)))) (fun u a => (as2.symm.trans (pm0 pmL))) rfl rfl rfl (fun u => []) (fun u => rfl) (fun r3 aV3 hf => ?_)
  refine g_aload_n (pc := 21) (x := rG) C dX4_discard_21 rfl ?_
  refine g_getf (pc := 22) C 0 rfl rfl inX4_discard_X4 0 (by decide) lkX4_discard_12 rfl rfl dX4_discard_22 ?_
  refine g_iload_n (pc := 25) (x := p1) C dX4_discard_25 rfl ?_
  refine g_callWA (wr := wG (kD k) rG (aS 0) rV rN rT  ++ (wV (kD k) rV aV3 r3)) (pc' := 29) (cs' := 0) (sl' := 0) hf C (fun u => none) (fun u => (wS (kD k) aS u)) (pm0 (List.Perm.refl _)) (fun u hu => gr_V (rest := []) C (cX3_removeBlock_ (kL k) C.tr (kD k) N aS v p1 u hu) (fun ht => cwV 1 ht gX4_discard_X3_removeBlock rfl rfl rfl hdX3_removeBlock ⟨(Nat.le_of_ble_eq_true rfl), (Nat.le_of_ble_eq_true rfl)⟩) 0 rfl rfl _ (rg_map _ _) (rg_nd _) rfl rfl (Nat.le_of_ble_eq_true rfl) dX4_discard_26 ⟨(Nat.le_of_ble_eq_true rfl), (Nat.le_of_ble_eq_true rfl)⟩) (ws' := fun u => (wG (kD k) rG (aS 0) rV rN rT  ++ (wS (kD k) aS u ++ (wV (kD k) rV aV3 r3)))) (fun u => (pm0 (List.Perm.refl _))) rfl rfl rfl (fun u => []) (fun u => rfl) (fun r4 hf => ?_)
  refine g_aload_n (pc := 29) (x := rG) C dX4_discard_29 rfl ?_
  refine g_getf (pc := 30) C 0 rfl rfl inX4_discard_X4 0 (by decide) lkX4_discard_12 rfl rfl dX4_discard_30 ?_
  refine g_getf (pc := 33) C 1 rfl rfl inX4_discard_X3 8 (by decide) lkX4_discard_68 rfl rfl dX4_discard_33 ?_
  obtain rfl := Option.some.inj hf
  exact g_iret (v := (sB r4)) C E dX4_discard_36 (Nat.le_of_ble_eq_true rfl) (Nat.le_of_ble_eq_true rfl) ⟨rfl, _, rfl⟩
set_option maxRecDepth 100000 in
set_option maxHeartbeats 4000000 in
theorem cX4_discard_ (l : Launch) (htr : l.stackTraces = false) (D : va_G) (N : Nat) (rG : Nat) (rN : Nat) (rT : Nat) (aS : Nat → Nat) (rV : Nat) (aV : Nat → Nat) (v : VS) (z : VV) (p1 : Int32) (r : VS × VV × Int32) (hf : fX4_discard N v z p1 = some r) : Tc l D yX4_discard wsX4_discard rmX4_discard [.ref rG, .int p1] (wG D rG (aS 0) rV rN rT ++ (wS D aS v ++ (wV D rV aV z))) (fun rv w => rv = some (.int r.2.2) ∧ ∃ a : Nat → Nat, w = (wG D rG (aS 0) rV rN rT ++ (wS D aS r.1 ++ (wV D rV a r.2.1)))) (fun _ _ => False) 0 0 := Tc_of htr (by decide +kernel) rfl (Nat.le_of_ble_eq_true rfl) (fun k C E hl hD => by subst hD; exact wkX4_discard C N rG rN rT aS rV aV v z p1 r hf E)
abbrev rmX4_calibrate : Room := { frames := 3, cells := 0, slots := 0, locals := 111 }
theorem inX4_calibrate_X4 : ∀ w ∈ wsX40, w ∈ wsX4_calibrate := by decide +kernel
theorem lkX4_calibrate_19 : Cond.fieldLink RX4 19 "GaugeBlocks" (TX4 1).2.1 (TX4 1).2.2.1 ∈ wsX4_calibrate := by decide +kernel
theorem lkX4_calibrate_12 : Cond.fieldLink RX4 12 "GaugeBlocks" (TX4 0).2.1 (TX4 0).2.2.1 ∈ wsX4_calibrate := by decide +kernel
theorem hdX4_calibrate : yX4_calibrate.cls = RX4 ∧ yX4_calibrate.cls ≠ "java/lang/invoke/MethodHandle" ∧ yX4_calibrate.cls ≠ "java/lang/invoke/VarHandle" ∧ (parseMethodDescriptor yX4_calibrate.desc).map (fun d => d.parameters.length) = some 1 := by decide +kernel
def fX4_calibrate (N : Nat) (v : VS) (z : VV) (p1 : Int32) : Option (VS × VV × Int32) := ((fX4_checkBlock N v p1).bind fun r1 => ((fX4_checkFree N v p1).bind fun r2 => ((fX2_push N v z).bind fun r3 => ((fX3_turnWearIntoDeviation N v p1).bind fun r4 => ((fX3_gradeOf N r4 p1).bind fun r5 => some (r4, r3, r5))))))
set_option maxRecDepth 100000 in
set_option maxHeartbeats 4000000 in
theorem wkX4_calibrate {k : Kt} (C : gC k cX4_calibrate 2 RX4 wsX4_calibrate rmX4_calibrate "calibrate") (N : Nat) (rG : Nat) (rN : Nat) (rT : Nat) (aS : Nat → Nat) (rV : Nat) (aV : Nat → Nat) (v : VS) (z : VV) (p1 : Int32) (r : VS × VV × Int32) (hf : fX4_calibrate N v z p1 = some r) (E : gE k (wG (kD k) rG (aS 0) rV rN rT ++ (wS (kD k) aS v ++ (wV (kD k) rV aV z))) (fun rv w => rv = some (.int r.2.2) ∧ ∃ a : Nat → Nat, w = (wG (kD k) rG (aS 0) rV rN rT ++ (wS (kD k) aS r.1 ++ (wV (kD k) rV a r.2.1)))) (fun _ _ => False) 0 0 (some .int) []) : gG k (wG (kD k) rG (aS 0) rV rN rT ++ (wS (kD k) aS v ++ (wV (kD k) rV aV z))) [(0, .ref rG), (1, .int p1)] 0 0 0 [] := by
  unfold fX4_calibrate at hf
  refine g_aload_n (pc := 0) (x := rG) C dX4_calibrate_0 rfl ?_
  refine g_iload_n (pc := 1) (x := p1) C dX4_calibrate_1 rfl ?_
  refine g_callR (pc' := 5) (cs' := 0) (sl' := 0) hf C (fun u => none) (fun u hu => gr_V (rest := []) C (cX4_checkBlock_ (kL k) C.tr (kD k) N rG rV rN rT aS v p1 u hu) (fun ht => cwV 1 ht gX4_calibrate_X4_checkBlock rfl rfl rfl hdX4_checkBlock ⟨(Nat.le_of_ble_eq_true rfl), (Nat.le_of_ble_eq_true rfl)⟩) 0 rfl rfl [0, 1, 2, 3, 4, 5, 6, 7, 8, 9] rfl (by decide) rfl rfl (Nat.le_of_ble_eq_true rfl) dX4_calibrate_2 ⟨(Nat.le_of_ble_eq_true rfl), (Nat.le_of_ble_eq_true rfl)⟩) [0, 1, 2, 3, 4, 5, 6, 7, 8, 9] rfl rfl rfl rfl (fun u => []) (fun u => rfl) (fun r1 hf => ?_)
  refine g_aload_n (pc := 5) (x := rG) C dX4_calibrate_5 rfl ?_
  refine g_iload_n (pc := 6) (x := p1) C dX4_calibrate_6 rfl ?_
  refine g_callR (pc' := 10) (cs' := 0) (sl' := 0) hf C (fun u => none) (fun u hu => gr_V (rest := []) C (cX4_checkFree_ (kL k) C.tr (kD k) N rG rV rN rT aS v p1 u hu) (fun ht => cwV 1 ht gX4_calibrate_X4_checkFree rfl rfl rfl hdX4_checkFree ⟨(Nat.le_of_ble_eq_true rfl), (Nat.le_of_ble_eq_true rfl)⟩) 0 rfl rfl [0, 1, 2, 3, 4, 5, 6, 7, 8, 9] rfl (by decide) rfl rfl (Nat.le_of_ble_eq_true rfl) dX4_calibrate_7 ⟨(Nat.le_of_ble_eq_true rfl), (Nat.le_of_ble_eq_true rfl)⟩) [0, 1, 2, 3, 4, 5, 6, 7, 8, 9] rfl rfl rfl rfl (fun u => []) (fun u => rfl) (fun r2 hf => ?_)
  refine g_aload_n (pc := 10) (x := rG) C dX4_calibrate_10 rfl ?_
  refine g_getf (pc := 11) C 0 rfl rfl inX4_calibrate_X4 1 (by decide) lkX4_calibrate_19 rfl rfl dX4_calibrate_11 ?_
  refine g_aload_n (pc := 14) (x := rG) C dX4_calibrate_14 rfl ?_
  refine g_getf (pc := 15) C 0 rfl rfl inX4_calibrate_X4 0 (by decide) lkX4_calibrate_12 rfl rfl dX4_calibrate_15 ?_
  refine g_callPA (wr := wG (kD k) rG (aS 0) rV rN rT ) (pc' := 21) (cs' := 0) (sl' := 0) hf C (fun u => none) (fun u a => (wS (kD k) aS v ++ (wV (kD k) rV a u))) (((pm0 (List.Perm.refl _)).trans (pmc pmL)).trans as2) (fun u hu => gr_V (rest := []) C (cX2_push_ (kL k) C.tr (kD k) N aS rV aV v z u hu) (fun ht => cwV 1 ht gX4_calibrate_X2_push rfl rfl rfl hdX2_push ⟨(Nat.le_of_ble_eq_true rfl), (Nat.le_of_ble_eq_true rfl)⟩) 9 rfl rfl _ (rg_map _ _) (rg_nd _) rfl rfl (Nat.le_of_ble_eq_true rfl) dX4_calibrate_18 ⟨(Nat.le_of_ble_eq_true rfl), (Nat.le_of_ble_eq_true rfl)⟩) (ws' := fun u a => (wG (kD k) rG (aS 0) rV rN rT  ++ (wS (kD k) aS v ++ (wV (kD k) rV a u)))) (fun u a => (as2.symm.trans (pm0 pmL))) rfl rfl rfl (fun u => []) (fun u => rfl) (fun r3 aV3 hf => ?_)
  refine g_aload_n (pc := 21) (x := rG) C dX4_calibrate_21 rfl ?_
  refine g_getf (pc := 22) C 0 rfl rfl inX4_calibrate_X4 0 (by decide) lkX4_calibrate_12 rfl rfl dX4_calibrate_22 ?_
  refine g_iload_n (pc := 25) (x := p1) C dX4_calibrate_25 rfl ?_
  refine g_callWA (wr := wG (kD k) rG (aS 0) rV rN rT  ++ (wV (kD k) rV aV3 r3)) (pc' := 29) (cs' := 0) (sl' := 0) hf C (fun u => none) (fun u => (wS (kD k) aS u)) (pm0 (List.Perm.refl _)) (fun u hu => gr_V (rest := []) C (cX3_turnWearIntoDeviation_ (kL k) C.tr (kD k) N aS v p1 u hu) (fun ht => cwV 1 ht gX4_calibrate_X3_turnWearIntoDeviation rfl rfl rfl hdX3_turnWearIntoDeviation ⟨(Nat.le_of_ble_eq_true rfl), (Nat.le_of_ble_eq_true rfl)⟩) 0 rfl rfl _ (rg_map _ _) (rg_nd _) rfl rfl (Nat.le_of_ble_eq_true rfl) dX4_calibrate_26 ⟨(Nat.le_of_ble_eq_true rfl), (Nat.le_of_ble_eq_true rfl)⟩) (ws' := fun u => (wG (kD k) rG (aS 0) rV rN rT  ++ (wS (kD k) aS u ++ (wV (kD k) rV aV3 r3)))) (fun u => (pm0 (List.Perm.refl _))) rfl rfl rfl (fun u => []) (fun u => rfl) (fun r4 hf => ?_)
  refine g_aload_n (pc := 29) (x := rG) C dX4_calibrate_29 rfl ?_
  refine g_getf (pc := 30) C 0 rfl rfl inX4_calibrate_X4 0 (by decide) lkX4_calibrate_12 rfl rfl dX4_calibrate_30 ?_
  refine g_iload_n (pc := 33) (x := p1) C dX4_calibrate_33 rfl ?_
  refine g_callR (pc' := 37) (cs' := 0) (sl' := 0) hf C (fun u => some (.int u)) (fun u hu => gr_V (rest := []) C (cX3_gradeOf_ (kL k) C.tr (kD k) N aS r4 p1 u hu) (fun ht => cwV 1 ht gX4_calibrate_X3_gradeOf rfl rfl rfl hdX3_gradeOf ⟨(Nat.le_of_ble_eq_true rfl), (Nat.le_of_ble_eq_true rfl)⟩) 1 rfl rfl [1, 2, 3, 4, 5, 6, 7, 8, 9] rfl (by decide) rfl rfl (Nat.le_of_ble_eq_true rfl) dX4_calibrate_34 ⟨(Nat.le_of_ble_eq_true rfl), (Nat.le_of_ble_eq_true rfl)⟩) [1, 2, 3, 4, 5, 6, 7, 8, 9] rfl rfl rfl rfl (fun u => [.int u]) (fun u => rfl) (fun r5 hf => ?_)
  obtain rfl := Option.some.inj hf
  exact g_iret (v := r5) C E dX4_calibrate_37 (Nat.le_of_ble_eq_true rfl) (Nat.le_of_ble_eq_true rfl) ⟨rfl, _, rfl⟩
set_option maxRecDepth 100000 in
set_option maxHeartbeats 4000000 in
theorem cX4_calibrate_ (l : Launch) (htr : l.stackTraces = false) (D : va_G) (N : Nat) (rG : Nat) (rN : Nat) (rT : Nat) (aS : Nat → Nat) (rV : Nat) (aV : Nat → Nat) (v : VS) (z : VV) (p1 : Int32) (r : VS × VV × Int32) (hf : fX4_calibrate N v z p1 = some r) : Tc l D yX4_calibrate wsX4_calibrate rmX4_calibrate [.ref rG, .int p1] (wG D rG (aS 0) rV rN rT ++ (wS D aS v ++ (wV D rV aV z))) (fun rv w => rv = some (.int r.2.2) ∧ ∃ a : Nat → Nat, w = (wG D rG (aS 0) rV rN rT ++ (wS D aS r.1 ++ (wV D rV a r.2.1)))) (fun _ _ => False) 0 0 := Tc_of htr (by decide +kernel) rfl (Nat.le_of_ble_eq_true rfl) (fun k C E hl hD => by subst hD; exact wkX4_calibrate C N rG rN rT aS rV aV v z p1 r hf E)
abbrev rmX4_hold : Room := { frames := 3, cells := 0, slots := 0, locals := 111 }
theorem inX4_hold_X3 : ∀ w ∈ wsX30, w ∈ wsX4_hold := by decide +kernel
theorem inX4_hold_X4 : ∀ w ∈ wsX40, w ∈ wsX4_hold := by decide +kernel
theorem lkX4_hold_19 : Cond.fieldLink RX4 19 "GaugeBlocks" (TX4 1).2.1 (TX4 1).2.2.1 ∈ wsX4_hold := by decide +kernel
theorem lkX4_hold_12 : Cond.fieldLink RX4 12 "GaugeBlocks" (TX4 0).2.1 (TX4 0).2.2.1 ∈ wsX4_hold := by decide +kernel
theorem lkX4_hold_83 : Cond.fieldLink RX4 83 "GaugeBlocks$State" (TX3 3).2.1 (TX3 3).2.2.1 ∈ wsX4_hold := by decide +kernel
theorem hdX4_hold : yX4_hold.cls = RX4 ∧ yX4_hold.cls ≠ "java/lang/invoke/MethodHandle" ∧ yX4_hold.cls ≠ "java/lang/invoke/VarHandle" ∧ (parseMethodDescriptor yX4_hold.desc).map (fun d => d.parameters.length) = some 2 := by decide +kernel
def fX4_hold (N : Nat) (v : VS) (z : VV) (p1 : Int32) (p2 : Int32) : Option (VS × VV × Int32) := ((fX4_checkBlock N v p1).bind fun r1 => ((fX4_checkRange N p2 1 60).bind fun r2 => ((fX2_push N v z).bind fun r3 => ((fX3_warm N v p1 (p2 * 5)).bind fun r4 => ck p1 20 (some (r4, r3, ((sH r4) (Int32.toNatClampNeg p1))))))))
set_option maxRecDepth 100000 in
set_option maxHeartbeats 4000000 in
theorem wkX4_hold {k : Kt} (C : gC k cX4_hold 3 RX4 wsX4_hold rmX4_hold "hold") (N : Nat) (rG : Nat) (rN : Nat) (rT : Nat) (aS : Nat → Nat) (rV : Nat) (aV : Nat → Nat) (v : VS) (z : VV) (p1 : Int32) (p2 : Int32) (r : VS × VV × Int32) (hf : fX4_hold N v z p1 p2 = some r) (E : gE k (wG (kD k) rG (aS 0) rV rN rT ++ (wS (kD k) aS v ++ (wV (kD k) rV aV z))) (fun rv w => rv = some (.int r.2.2) ∧ ∃ a : Nat → Nat, w = (wG (kD k) rG (aS 0) rV rN rT ++ (wS (kD k) aS r.1 ++ (wV (kD k) rV a r.2.1)))) (fun _ _ => False) 0 0 (some .int) []) : gG k (wG (kD k) rG (aS 0) rV rN rT ++ (wS (kD k) aS v ++ (wV (kD k) rV aV z))) [(0, .ref rG), (1, .int p1), (2, .int p2)] 0 0 0 [] := by
  unfold fX4_hold at hf
  refine g_aload_n (pc := 0) (x := rG) C dX4_hold_0 rfl ?_
  refine g_iload_n (pc := 1) (x := p1) C dX4_hold_1 rfl ?_
  refine g_callR (pc' := 5) (cs' := 0) (sl' := 0) hf C (fun u => none) (fun u hu => gr_V (rest := []) C (cX4_checkBlock_ (kL k) C.tr (kD k) N rG rV rN rT aS v p1 u hu) (fun ht => cwV 1 ht gX4_hold_X4_checkBlock rfl rfl rfl hdX4_checkBlock ⟨(Nat.le_of_ble_eq_true rfl), (Nat.le_of_ble_eq_true rfl)⟩) 0 rfl rfl [0, 1, 2, 3, 4, 5, 6, 7, 8, 9] rfl (by decide) rfl rfl (Nat.le_of_ble_eq_true rfl) dX4_hold_2 ⟨(Nat.le_of_ble_eq_true rfl), (Nat.le_of_ble_eq_true rfl)⟩) [0, 1, 2, 3, 4, 5, 6, 7, 8, 9] rfl rfl rfl rfl (fun u => []) (fun u => rfl) (fun r1 hf => ?_)
  refine g_iload_n (pc := 5) (x := p2) C dX4_hold_5 rfl ?_
  refine g_iconst (pc := 6) (v := 1) C dX4_hold_6 (by decide) ?_
  refine g_bipush (pc := 7) (v := 60) C dX4_hold_7 (by decide) ?_
  refine g_callR (pc' := 12) (cs' := 0) (sl' := 0) hf C (fun u => none) (fun u hu => gr_S (rest := []) C (cX4_checkRange_ (kL k) C.tr (kD k) N p2 1 60 u hu) (fun ht => va_cwS 3 ht gX4_hold_X4_checkRange rfl rfl rfl hsX4_checkRange ⟨(Nat.le_of_ble_eq_true rfl), (Nat.le_of_ble_eq_true rfl)⟩) [] rfl (by decide) rfl rfl (Nat.le_of_ble_eq_true rfl) dX4_hold_9 ⟨(Nat.le_of_ble_eq_true rfl), (Nat.le_of_ble_eq_true rfl)⟩) [] rfl rfl rfl rfl (fun u => []) (fun u => rfl) (fun r2 hf => ?_)
  refine g_aload_n (pc := 12) (x := rG) C dX4_hold_12 rfl ?_
  refine g_getf (pc := 13) C 0 rfl rfl inX4_hold_X4 1 (by decide) lkX4_hold_19 rfl rfl dX4_hold_13 ?_
  refine g_aload_n (pc := 16) (x := rG) C dX4_hold_16 rfl ?_
  refine g_getf (pc := 17) C 0 rfl rfl inX4_hold_X4 0 (by decide) lkX4_hold_12 rfl rfl dX4_hold_17 ?_
  refine g_callPA (wr := wG (kD k) rG (aS 0) rV rN rT ) (pc' := 23) (cs' := 0) (sl' := 0) hf C (fun u => none) (fun u a => (wS (kD k) aS v ++ (wV (kD k) rV a u))) (((pm0 (List.Perm.refl _)).trans (pmc pmL)).trans as2) (fun u hu => gr_V (rest := []) C (cX2_push_ (kL k) C.tr (kD k) N aS rV aV v z u hu) (fun ht => cwV 1 ht gX4_hold_X2_push rfl rfl rfl hdX2_push ⟨(Nat.le_of_ble_eq_true rfl), (Nat.le_of_ble_eq_true rfl)⟩) 9 rfl rfl _ (rg_map _ _) (rg_nd _) rfl rfl (Nat.le_of_ble_eq_true rfl) dX4_hold_20 ⟨(Nat.le_of_ble_eq_true rfl), (Nat.le_of_ble_eq_true rfl)⟩) (ws' := fun u a => (wG (kD k) rG (aS 0) rV rN rT  ++ (wS (kD k) aS v ++ (wV (kD k) rV a u)))) (fun u a => (as2.symm.trans (pm0 pmL))) rfl rfl rfl (fun u => []) (fun u => rfl) (fun r3 aV3 hf => ?_)
  refine g_aload_n (pc := 23) (x := rG) C dX4_hold_23 rfl ?_
  refine g_getf (pc := 24) C 0 rfl rfl inX4_hold_X4 0 (by decide) lkX4_hold_12 rfl rfl dX4_hold_24 ?_
  refine g_iload_n (pc := 27) (x := p1) C dX4_hold_27 rfl ?_
  refine g_iload_n (pc := 28) (x := p2) C dX4_hold_28 rfl ?_
  refine g_iconst (pc := 29) (v := 5) C dX4_hold_29 (by decide) ?_
  refine g_imul (pc := 30) (x := p2) (y := 5) C dX4_hold_30 ?_
  refine g_callWA (wr := wG (kD k) rG (aS 0) rV rN rT  ++ (wV (kD k) rV aV3 r3)) (pc' := 34) (cs' := 0) (sl' := 0) hf C (fun u => none) (fun u => (wS (kD k) aS u)) (pm0 (List.Perm.refl _)) (fun u hu => gr_V (rest := []) C (cX3_warm_ (kL k) C.tr (kD k) N aS v p1 (p2 * 5) u hu) (fun ht => cwV 2 ht gX4_hold_X3_warm rfl rfl rfl hdX3_warm ⟨(Nat.le_of_ble_eq_true rfl), (Nat.le_of_ble_eq_true rfl)⟩) 0 rfl rfl _ (rg_map _ _) (rg_nd _) rfl rfl (Nat.le_of_ble_eq_true rfl) dX4_hold_31 ⟨(Nat.le_of_ble_eq_true rfl), (Nat.le_of_ble_eq_true rfl)⟩) (ws' := fun u => (wG (kD k) rG (aS 0) rV rN rT  ++ (wS (kD k) aS u ++ (wV (kD k) rV aV3 r3)))) (fun u => (pm0 (List.Perm.refl _))) rfl rfl rfl (fun u => []) (fun u => rfl) (fun r4 hf => ?_)
  refine g_aload_n (pc := 34) (x := rG) C dX4_hold_34 rfl ?_
  refine g_getf (pc := 35) C 0 rfl rfl inX4_hold_X4 0 (by decide) lkX4_hold_12 rfl rfl dX4_hold_35 ?_
  refine g_getf (pc := 38) C 1 rfl rfl inX4_hold_X3 3 (by decide) lkX4_hold_83 rfl rfl dX4_hold_38 ?_
  refine g_iload_n (pc := 41) (x := p1) C dX4_hold_41 rfl ?_
  refine g_iald (pc := 42) (i := p1) hf C 5 rfl dX4_hold_42 (fun hf => ?_)
  obtain rfl := Option.some.inj hf
  exact g_iret (v := ((sH r4) (Int32.toNatClampNeg p1))) C E dX4_hold_43 (Nat.le_of_ble_eq_true rfl) (Nat.le_of_ble_eq_true rfl) ⟨rfl, _, rfl⟩
set_option maxRecDepth 100000 in
set_option maxHeartbeats 4000000 in
theorem cX4_hold_ (l : Launch) (htr : l.stackTraces = false) (D : va_G) (N : Nat) (rG : Nat) (rN : Nat) (rT : Nat) (aS : Nat → Nat) (rV : Nat) (aV : Nat → Nat) (v : VS) (z : VV) (p1 : Int32) (p2 : Int32) (r : VS × VV × Int32) (hf : fX4_hold N v z p1 p2 = some r) : Tc l D yX4_hold wsX4_hold rmX4_hold [.ref rG, .int p1, .int p2] (wG D rG (aS 0) rV rN rT ++ (wS D aS v ++ (wV D rV aV z))) (fun rv w => rv = some (.int r.2.2) ∧ ∃ a : Nat → Nat, w = (wG D rG (aS 0) rV rN rT ++ (wS D aS r.1 ++ (wV D rV a r.2.1)))) (fun _ _ => False) 0 0 := Tc_of htr (by decide +kernel) rfl (Nat.le_of_ble_eq_true rfl) (fun k C E hl hD => by subst hD; exact wkX4_hold C N rG rN rT aS rV aV v z p1 p2 r hf E)
abbrev rmX4_rest : Room := { frames := 3, cells := 0, slots := 0, locals := 111 }
theorem inX4_rest_X4 : ∀ w ∈ wsX40, w ∈ wsX4_rest := by decide +kernel
theorem lkX4_rest_19 : Cond.fieldLink RX4 19 "GaugeBlocks" (TX4 1).2.1 (TX4 1).2.2.1 ∈ wsX4_rest := by decide +kernel
theorem lkX4_rest_12 : Cond.fieldLink RX4 12 "GaugeBlocks" (TX4 0).2.1 (TX4 0).2.2.1 ∈ wsX4_rest := by decide +kernel
theorem hdX4_rest : yX4_rest.cls = RX4 ∧ yX4_rest.cls ≠ "java/lang/invoke/MethodHandle" ∧ yX4_rest.cls ≠ "java/lang/invoke/VarHandle" ∧ (parseMethodDescriptor yX4_rest.desc).map (fun d => d.parameters.length) = some 1 := by decide +kernel
def fX4_rest (N : Nat) (v : VS) (z : VV) (p1 : Int32) : Option (VS × VV × Int32) := ((fX4_checkRange N p1 1 60).bind fun r1 => ((fX2_push N v z).bind fun r2 => ((fX3_letPass N v p1).bind fun r3 => ((fX3_greatestWarmth N r3).bind fun r4 => some (r3, r2, r4)))))
set_option maxRecDepth 100000 in
set_option maxHeartbeats 4000000 in
theorem wkX4_rest {k : Kt} (C : gC k cX4_rest 2 RX4 wsX4_rest rmX4_rest "rest") (N : Nat) (rG : Nat) (rN : Nat) (rT : Nat) (aS : Nat → Nat) (rV : Nat) (aV : Nat → Nat) (v : VS) (z : VV) (p1 : Int32) (r : VS × VV × Int32) (hf : fX4_rest N v z p1 = some r) (E : gE k (wG (kD k) rG (aS 0) rV rN rT ++ (wS (kD k) aS v ++ (wV (kD k) rV aV z))) (fun rv w => rv = some (.int r.2.2) ∧ ∃ a : Nat → Nat, w = (wG (kD k) rG (aS 0) rV rN rT ++ (wS (kD k) aS r.1 ++ (wV (kD k) rV a r.2.1)))) (fun _ _ => False) 0 0 (some .int) []) : gG k (wG (kD k) rG (aS 0) rV rN rT ++ (wS (kD k) aS v ++ (wV (kD k) rV aV z))) [(0, .ref rG), (1, .int p1)] 0 0 0 [] := by
  unfold fX4_rest at hf
  refine g_iload_n (pc := 0) (x := p1) C dX4_rest_0 rfl ?_
  refine g_iconst (pc := 1) (v := 1) C dX4_rest_1 (by decide) ?_
  refine g_bipush (pc := 2) (v := 60) C dX4_rest_2 (by decide) ?_
  refine g_callR (pc' := 7) (cs' := 0) (sl' := 0) hf C (fun u => none) (fun u hu => gr_S (rest := []) C (cX4_checkRange_ (kL k) C.tr (kD k) N p1 1 60 u hu) (fun ht => va_cwS 3 ht gX4_rest_X4_checkRange rfl rfl rfl hsX4_checkRange ⟨(Nat.le_of_ble_eq_true rfl), (Nat.le_of_ble_eq_true rfl)⟩) [] rfl (by decide) rfl rfl (Nat.le_of_ble_eq_true rfl) dX4_rest_4 ⟨(Nat.le_of_ble_eq_true rfl), (Nat.le_of_ble_eq_true rfl)⟩) [] rfl rfl rfl rfl (fun u => []) (fun u => rfl) (fun r1 hf => ?_)
  refine g_aload_n (pc := 7) (x := rG) C dX4_rest_7 rfl ?_
  refine g_getf (pc := 8) C 0 rfl rfl inX4_rest_X4 1 (by decide) lkX4_rest_19 rfl rfl dX4_rest_8 ?_
  refine g_aload_n (pc := 11) (x := rG) C dX4_rest_11 rfl ?_
  refine g_getf (pc := 12) C 0 rfl rfl inX4_rest_X4 0 (by decide) lkX4_rest_12 rfl rfl dX4_rest_12 ?_
  refine g_callPA (wr := wG (kD k) rG (aS 0) rV rN rT ) (pc' := 18) (cs' := 0) (sl' := 0) hf C (fun u => none) (fun u a => (wS (kD k) aS v ++ (wV (kD k) rV a u))) (((pm0 (List.Perm.refl _)).trans (pmc pmL)).trans as2) (fun u hu => gr_V (rest := []) C (cX2_push_ (kL k) C.tr (kD k) N aS rV aV v z u hu) (fun ht => cwV 1 ht gX4_rest_X2_push rfl rfl rfl hdX2_push ⟨(Nat.le_of_ble_eq_true rfl), (Nat.le_of_ble_eq_true rfl)⟩) 9 rfl rfl _ (rg_map _ _) (rg_nd _) rfl rfl (Nat.le_of_ble_eq_true rfl) dX4_rest_15 ⟨(Nat.le_of_ble_eq_true rfl), (Nat.le_of_ble_eq_true rfl)⟩) (ws' := fun u a => (wG (kD k) rG (aS 0) rV rN rT  ++ (wS (kD k) aS v ++ (wV (kD k) rV a u)))) (fun u a => (as2.symm.trans (pm0 pmL))) rfl rfl rfl (fun u => []) (fun u => rfl) (fun r2 aV2 hf => ?_)
  refine g_aload_n (pc := 18) (x := rG) C dX4_rest_18 rfl ?_
  refine g_getf (pc := 19) C 0 rfl rfl inX4_rest_X4 0 (by decide) lkX4_rest_12 rfl rfl dX4_rest_19 ?_
  refine g_iload_n (pc := 22) (x := p1) C dX4_rest_22 rfl ?_
  refine g_callWA (wr := wG (kD k) rG (aS 0) rV rN rT  ++ (wV (kD k) rV aV2 r2)) (pc' := 26) (cs' := 0) (sl' := 0) hf C (fun u => none) (fun u => (wS (kD k) aS u)) (pm0 (List.Perm.refl _)) (fun u hu => gr_V (rest := []) C (cX3_letPass_ (kL k) C.tr (kD k) N aS v p1 u hu) (fun ht => cwV 1 ht gX4_rest_X3_letPass rfl rfl rfl hdX3_letPass ⟨(Nat.le_of_ble_eq_true rfl), (Nat.le_of_ble_eq_true rfl)⟩) 0 rfl rfl _ (rg_map _ _) (rg_nd _) rfl rfl (Nat.le_of_ble_eq_true rfl) dX4_rest_23 ⟨(Nat.le_of_ble_eq_true rfl), (Nat.le_of_ble_eq_true rfl)⟩) (ws' := fun u => (wG (kD k) rG (aS 0) rV rN rT  ++ (wS (kD k) aS u ++ (wV (kD k) rV aV2 r2)))) (fun u => (pm0 (List.Perm.refl _))) rfl rfl rfl (fun u => []) (fun u => rfl) (fun r3 hf => ?_)
  refine g_aload_n (pc := 26) (x := rG) C dX4_rest_26 rfl ?_
  refine g_getf (pc := 27) C 0 rfl rfl inX4_rest_X4 0 (by decide) lkX4_rest_12 rfl rfl dX4_rest_27 ?_
  refine g_callR (pc' := 33) (cs' := 0) (sl' := 0) hf C (fun u => some (.int u)) (fun u hu => gr_V (rest := []) C (cX3_greatestWarmth_ (kL k) C.tr (kD k) N aS r3 u hu) (fun ht => cwV 0 ht gX4_rest_X3_greatestWarmth rfl rfl rfl hdX3_greatestWarmth ⟨(Nat.le_of_ble_eq_true rfl), (Nat.le_of_ble_eq_true rfl)⟩) 1 rfl rfl [1, 2, 3, 4, 5, 6, 7, 8, 9] rfl (by decide) rfl rfl (Nat.le_of_ble_eq_true rfl) dX4_rest_30 ⟨(Nat.le_of_ble_eq_true rfl), (Nat.le_of_ble_eq_true rfl)⟩) [1, 2, 3, 4, 5, 6, 7, 8, 9] rfl rfl rfl rfl (fun u => [.int u]) (fun u => rfl) (fun r4 hf => ?_)
  obtain rfl := Option.some.inj hf
  exact g_iret (v := r4) C E dX4_rest_33 (Nat.le_of_ble_eq_true rfl) (Nat.le_of_ble_eq_true rfl) ⟨rfl, _, rfl⟩
set_option maxRecDepth 100000 in
set_option maxHeartbeats 4000000 in
theorem cX4_rest_ (l : Launch) (htr : l.stackTraces = false) (D : va_G) (N : Nat) (rG : Nat) (rN : Nat) (rT : Nat) (aS : Nat → Nat) (rV : Nat) (aV : Nat → Nat) (v : VS) (z : VV) (p1 : Int32) (r : VS × VV × Int32) (hf : fX4_rest N v z p1 = some r) : Tc l D yX4_rest wsX4_rest rmX4_rest [.ref rG, .int p1] (wG D rG (aS 0) rV rN rT ++ (wS D aS v ++ (wV D rV aV z))) (fun rv w => rv = some (.int r.2.2) ∧ ∃ a : Nat → Nat, w = (wG D rG (aS 0) rV rN rT ++ (wS D aS r.1 ++ (wV D rV a r.2.1)))) (fun _ _ => False) 0 0 := Tc_of htr (by decide +kernel) rfl (Nat.le_of_ble_eq_true rfl) (fun k C E hl hD => by subst hD; exact wkX4_rest C N rG rN rT aS rV aV v z p1 r hf E)
abbrev rmX4_checkSetting : Room := { frames := 0, cells := 0, slots := 0, locals := 0 }
theorem hsX4_checkSetting : yX4_checkSetting.cls ≠ "java/lang/invoke/MethodHandle" ∧ yX4_checkSetting.cls ≠ "java/lang/invoke/VarHandle" ∧ (parseMethodDescriptor yX4_checkSetting.desc).map (fun d => d.parameters.length) = some 1 := by decide +kernel
def fX4_checkSetting (N : Nat) (p0 : Int32) : Option (Unit) := (if p0 < (0 : Int32) then none else (if p0 < (4 : Int32) then some () else none))
set_option maxRecDepth 100000 in
set_option maxHeartbeats 4000000 in
theorem wkX4_checkSetting {k : Kt} (C : gC k cX4_checkSetting 1 RX4 wsX4_checkSetting rmX4_checkSetting "checkSetting") (N : Nat) (p0 : Int32) (r : Unit) (hf : fX4_checkSetting N p0 = some r) (E : gE k [] (fun rv w => rv = none ∧ w = []) (fun _ _ => False) 0 0 none []) : gG k [] [(0, .int p0)] 0 0 0 [] := by
  unfold fX4_checkSetting at hf
  refine g_iload_n (pc := 0) (x := p0) C dX4_checkSetting_0 rfl ?_
  refine g_if_lt (pc := 1) (tgt := 9) (x := p0) hf C dX4_checkSetting_1 (by decide) (fun hf => ?_) (fun hf => ?_)
  · cases hf
  · refine g_iload_n (pc := 4) (x := p0) C dX4_checkSetting_4 rfl ?_
    refine g_iconst (pc := 5) (v := 4) C dX4_checkSetting_5 (by decide) ?_
    refine g_icmp_lt (pc := 6) (tgt := 20) (x := p0) (y := 4) hf C dX4_checkSetting_6 (by decide) (fun hf => ?_) (fun hf => ?_)
    · obtain rfl := Option.some.inj hf
      exact g_vret C E dX4_checkSetting_20 (Nat.le_of_ble_eq_true rfl) (Nat.le_of_ble_eq_true rfl) ⟨rfl, rfl⟩
    · cases hf
set_option maxRecDepth 100000 in
set_option maxHeartbeats 4000000 in
theorem cX4_checkSetting_ (l : Launch) (htr : l.stackTraces = false) (D : va_G) (N : Nat) (p0 : Int32) (r : Unit) (hf : fX4_checkSetting N p0 = some r) : Tc l D yX4_checkSetting wsX4_checkSetting rmX4_checkSetting [.int p0] [] (fun rv w => rv = none ∧ w = []) (fun _ _ => False) 0 0 := Tc_of htr (by decide +kernel) rfl (Nat.le_of_ble_eq_true rfl) (fun k C E hl hD => by subst hD; exact wkX4_checkSetting C N p0 r hf E)
abbrev rmX4_set : Room := { frames := 3, cells := 0, slots := 0, locals := 111 }
theorem inX4_set_X3 : ∀ w ∈ wsX30, w ∈ wsX4_set := by decide +kernel
theorem inX4_set_X4 : ∀ w ∈ wsX40, w ∈ wsX4_set := by decide +kernel
theorem lkX4_set_97 : Cond.fieldLink RX4 97 RX4 "SETTINGS_MAX" "[I" ∈ wsX4_set := by decide +kernel
theorem lkX4_set_19 : Cond.fieldLink RX4 19 "GaugeBlocks" (TX4 1).2.1 (TX4 1).2.2.1 ∈ wsX4_set := by decide +kernel
theorem lkX4_set_12 : Cond.fieldLink RX4 12 "GaugeBlocks" (TX4 0).2.1 (TX4 0).2.2.1 ∈ wsX4_set := by decide +kernel
theorem lkX4_set_100 : Cond.fieldLink RX4 100 "GaugeBlocks$State" (TX3 7).2.1 (TX3 7).2.2.1 ∈ wsX4_set := by decide +kernel
theorem hdX4_set : yX4_set.cls = RX4 ∧ yX4_set.cls ≠ "java/lang/invoke/MethodHandle" ∧ yX4_set.cls ≠ "java/lang/invoke/VarHandle" ∧ (parseMethodDescriptor yX4_set.desc).map (fun d => d.parameters.length) = some 2 := by decide +kernel
def fX4_set (N : Nat) (v : VS) (z : VV) (p1 : Int32) (p2 : Int32) : Option (VS × VV × Int32) := ((fX4_checkSetting N p1).bind fun r1 => ck p1 4 (((fX4_checkRange N p2 0 (stM (Int32.toNatClampNeg p1))).bind fun r3 => ((fX2_push N v z).bind fun r4 => ck p1 4 (ck p1 4 (some (((sN v), (sD v), (sW v), (sH v), (sK v), (sP v), (sT v), (upd (sS v) (Int32.toNatClampNeg p1) p2), (sB v), (sM v), (sG v), (sO v), (sR v)), r4, ((sS v) (Int32.toNatClampNeg p1)))))))))
set_option maxRecDepth 100000 in
set_option maxHeartbeats 4000000 in
theorem wkX4_set {k : Kt} (C : gC k cX4_set 4 RX4 wsX4_set rmX4_set "set") (N : Nat) (rG : Nat) (rN : Nat) (rT : Nat) (aS : Nat → Nat) (rV : Nat) (aV : Nat → Nat) (v : VS) (z : VV) (p1 : Int32) (p2 : Int32) (r : VS × VV × Int32) (hf : fX4_set N v z p1 p2 = some r) (E : gE k (wG (kD k) rG (aS 0) rV rN rT ++ (wS (kD k) aS v ++ (wV (kD k) rV aV z))) (fun rv w => rv = some (.int r.2.2) ∧ ∃ a : Nat → Nat, w = (wG (kD k) rG (aS 0) rV rN rT ++ (wS (kD k) aS r.1 ++ (wV (kD k) rV a r.2.1)))) (fun _ _ => False) 0 0 (some .int) []) : gG k (wG (kD k) rG (aS 0) rV rN rT ++ (wS (kD k) aS v ++ (wV (kD k) rV aV z))) [(0, .ref rG), (1, .int p1), (2, .int p2)] 0 0 0 [] := by
  unfold fX4_set at hf
  refine g_iload_n (pc := 0) (x := p1) C dX4_set_0 rfl ?_
  refine g_callR (pc' := 4) (cs' := 0) (sl' := 0) hf C (fun u => none) (fun u hu => gr_S (rest := []) C (cX4_checkSetting_ (kL k) C.tr (kD k) N p1 u hu) (fun ht => va_cwS 1 ht gX4_set_X4_checkSetting rfl rfl rfl hsX4_checkSetting ⟨(Nat.le_of_ble_eq_true rfl), (Nat.le_of_ble_eq_true rfl)⟩) [] rfl (by decide) rfl rfl (Nat.le_of_ble_eq_true rfl) dX4_set_1 ⟨(Nat.le_of_ble_eq_true rfl), (Nat.le_of_ble_eq_true rfl)⟩) [] rfl rfl rfl rfl (fun u => []) (fun u => rfl) (fun r1 hf => ?_)
  refine g_iload_n (pc := 4) (x := p2) C dX4_set_4 rfl ?_
  refine g_iconst (pc := 5) (v := 0) C dX4_set_5 (by decide) ?_
  refine g_stat (pc := 6) C lkX4_set_97 dX4_set_6 (fun t2 h2 => ?_)
  refine g_iload_n (pc := 9) (x := p1) C dX4_set_9 rfl ?_
  refine g_tald (pc := 10) (i := p1) hf C h2 dX4_set_10 (fun hf => ?_)
  refine g_callR (pc' := 14) (cs' := 0) (sl' := 0) hf C (fun u => none) (fun u hu => gr_S (rest := []) C (cX4_checkRange_ (kL k) C.tr (kD k) N p2 0 (stM (Int32.toNatClampNeg p1)) u hu) (fun ht => va_cwS 3 ht gX4_set_X4_checkRange rfl rfl rfl hsX4_checkRange ⟨(Nat.le_of_ble_eq_true rfl), (Nat.le_of_ble_eq_true rfl)⟩) [] rfl (by decide) rfl rfl (Nat.le_of_ble_eq_true rfl) dX4_set_11 ⟨(Nat.le_of_ble_eq_true rfl), (Nat.le_of_ble_eq_true rfl)⟩) [] rfl rfl rfl rfl (fun u => []) (fun u => rfl) (fun r3 hf => ?_)
  refine g_aload_n (pc := 14) (x := rG) C dX4_set_14 rfl ?_
  refine g_getf (pc := 15) C 0 rfl rfl inX4_set_X4 1 (by decide) lkX4_set_19 rfl rfl dX4_set_15 ?_
  refine g_aload_n (pc := 18) (x := rG) C dX4_set_18 rfl ?_
  refine g_getf (pc := 19) C 0 rfl rfl inX4_set_X4 0 (by decide) lkX4_set_12 rfl rfl dX4_set_19 ?_
  refine g_callPA (wr := wG (kD k) rG (aS 0) rV rN rT ) (pc' := 25) (cs' := 0) (sl' := 0) hf C (fun u => none) (fun u a => (wS (kD k) aS v ++ (wV (kD k) rV a u))) (((pm0 (List.Perm.refl _)).trans (pmc pmL)).trans as2) (fun u hu => gr_V (rest := []) C (cX2_push_ (kL k) C.tr (kD k) N aS rV aV v z u hu) (fun ht => cwV 1 ht gX4_set_X2_push rfl rfl rfl hdX2_push ⟨(Nat.le_of_ble_eq_true rfl), (Nat.le_of_ble_eq_true rfl)⟩) 9 rfl rfl _ (rg_map _ _) (rg_nd _) rfl rfl (Nat.le_of_ble_eq_true rfl) dX4_set_22 ⟨(Nat.le_of_ble_eq_true rfl), (Nat.le_of_ble_eq_true rfl)⟩) (ws' := fun u a => (wG (kD k) rG (aS 0) rV rN rT  ++ (wS (kD k) aS v ++ (wV (kD k) rV a u)))) (fun u a => (as2.symm.trans (pm0 pmL))) rfl rfl rfl (fun u => []) (fun u => rfl) (fun r4 aV4 hf => ?_)
  refine g_aload_n (pc := 25) (x := rG) C dX4_set_25 rfl ?_
  refine g_getf (pc := 26) C 0 rfl rfl inX4_set_X4 0 (by decide) lkX4_set_12 rfl rfl dX4_set_26 ?_
  refine g_getf (pc := 29) C 1 rfl rfl inX4_set_X3 7 (by decide) lkX4_set_100 rfl rfl dX4_set_29 ?_
  refine g_iload_n (pc := 32) (x := p1) C dX4_set_32 rfl ?_
  refine g_iald (pc := 33) (i := p1) hf C 9 rfl dX4_set_33 (fun hf => ?_)
  refine g_istore_n (pc := 34) (lv' := [(3, .int ((sS v) (Int32.toNatClampNeg p1))), (0, .ref rG), (1, .int p1), (2, .int p2)]) C dX4_set_34 (by decide) rfl ?_
  refine g_aload_n (pc := 35) (x := rG) C dX4_set_35 rfl ?_
  refine g_getf (pc := 36) C 0 rfl rfl inX4_set_X4 0 (by decide) lkX4_set_12 rfl rfl dX4_set_36 ?_
  refine g_getf (pc := 39) C 1 rfl rfl inX4_set_X3 7 (by decide) lkX4_set_100 rfl rfl dX4_set_39 ?_
  refine g_iload_n (pc := 42) (x := p1) C dX4_set_42 rfl ?_
  refine g_iload_n (pc := 43) (x := p2) C dX4_set_43 rfl ?_
  refine g_iast (pc := 44) (i := p1) (x := p2) hf C 9 rfl dX4_set_44 (ws' := (wG (kD k) rG (aS 0) rV rN rT  ++ (wS (kD k) aS ((sN v), (sD v), (sW v), (sH v), (sK v), (sP v), (sT v), (upd (sS v) (Int32.toNatClampNeg p1) p2), (sB v), (sM v), (sG v), (sO v), (sR v)) ++ (wV (kD k) rV aV4 r4)))) rfl (fun hf => ?_)
  refine g_iload_n (pc := 45) (x := ((sS v) (Int32.toNatClampNeg p1))) C dX4_set_45 rfl ?_
  obtain rfl := Option.some.inj hf
  exact g_iret (v := ((sS v) (Int32.toNatClampNeg p1))) C E dX4_set_46 (Nat.le_of_ble_eq_true rfl) (Nat.le_of_ble_eq_true rfl) ⟨rfl, _, rfl⟩
set_option maxRecDepth 100000 in
set_option maxHeartbeats 4000000 in
theorem cX4_set_ (l : Launch) (htr : l.stackTraces = false) (D : va_G) (N : Nat) (rG : Nat) (rN : Nat) (rT : Nat) (aS : Nat → Nat) (rV : Nat) (aV : Nat → Nat) (v : VS) (z : VV) (p1 : Int32) (p2 : Int32) (r : VS × VV × Int32) (hf : fX4_set N v z p1 p2 = some r) : Tc l D yX4_set wsX4_set rmX4_set [.ref rG, .int p1, .int p2] (wG D rG (aS 0) rV rN rT ++ (wS D aS v ++ (wV D rV aV z))) (fun rv w => rv = some (.int r.2.2) ∧ ∃ a : Nat → Nat, w = (wG D rG (aS 0) rV rN rT ++ (wS D aS r.1 ++ (wV D rV a r.2.1)))) (fun _ _ => False) 0 0 := Tc_of htr (by decide +kernel) rfl (Nat.le_of_ble_eq_true rfl) (fun k C E hl hD => by subst hD; exact wkX4_set C N rG rN rT aS rV aV v z p1 p2 r hf E)
abbrev rmX4_checkStack : Room := { frames := 0, cells := 0, slots := 0, locals := 0 }
theorem hsX4_checkStack : yX4_checkStack.cls ≠ "java/lang/invoke/MethodHandle" ∧ yX4_checkStack.cls ≠ "java/lang/invoke/VarHandle" ∧ (parseMethodDescriptor yX4_checkStack.desc).map (fun d => d.parameters.length) = some 1 := by decide +kernel
def fX4_checkStack (N : Nat) (p0 : Int32) : Option (Unit) := (if p0 < (0 : Int32) then none else (if p0 < (3 : Int32) then some () else none))
set_option maxRecDepth 100000 in
set_option maxHeartbeats 4000000 in
theorem wkX4_checkStack {k : Kt} (C : gC k cX4_checkStack 1 RX4 wsX4_checkStack rmX4_checkStack "checkStack") (N : Nat) (p0 : Int32) (r : Unit) (hf : fX4_checkStack N p0 = some r) (E : gE k [] (fun rv w => rv = none ∧ w = []) (fun _ _ => False) 0 0 none []) : gG k [] [(0, .int p0)] 0 0 0 [] := by
  unfold fX4_checkStack at hf
  refine g_iload_n (pc := 0) (x := p0) C dX4_checkStack_0 rfl ?_
  refine g_if_lt (pc := 1) (tgt := 9) (x := p0) hf C dX4_checkStack_1 (by decide) (fun hf => ?_) (fun hf => ?_)
  · cases hf
  · refine g_iload_n (pc := 4) (x := p0) C dX4_checkStack_4 rfl ?_
    refine g_iconst (pc := 5) (v := 3) C dX4_checkStack_5 (by decide) ?_
    refine g_icmp_lt (pc := 6) (tgt := 20) (x := p0) (y := 3) hf C dX4_checkStack_6 (by decide) (fun hf => ?_) (fun hf => ?_)
    · obtain rfl := Option.some.inj hf
      exact g_vret C E dX4_checkStack_20 (Nat.le_of_ble_eq_true rfl) (Nat.le_of_ble_eq_true rfl) ⟨rfl, rfl⟩
    · cases hf
set_option maxRecDepth 100000 in
set_option maxHeartbeats 4000000 in
theorem cX4_checkStack_ (l : Launch) (htr : l.stackTraces = false) (D : va_G) (N : Nat) (p0 : Int32) (r : Unit) (hf : fX4_checkStack N p0 = some r) : Tc l D yX4_checkStack wsX4_checkStack rmX4_checkStack [.int p0] [] (fun rv w => rv = none ∧ w = []) (fun _ _ => False) 0 0 := Tc_of htr (by decide +kernel) rfl (Nat.le_of_ble_eq_true rfl) (fun k C E hl hD => by subst hD; exact wkX4_checkStack C N p0 r hf E)
abbrev rmX4_wring : Room := { frames := 5, cells := 0, slots := 0, locals := 111 }
theorem inX4_wring_X4 : ∀ w ∈ wsX40, w ∈ wsX4_wring := by decide +kernel
theorem lkX4_wring_19 : Cond.fieldLink RX4 19 "GaugeBlocks" (TX4 1).2.1 (TX4 1).2.2.1 ∈ wsX4_wring := by decide +kernel
theorem lkX4_wring_12 : Cond.fieldLink RX4 12 "GaugeBlocks" (TX4 0).2.1 (TX4 0).2.2.1 ∈ wsX4_wring := by decide +kernel
theorem hdX4_wring : yX4_wring.cls = RX4 ∧ yX4_wring.cls ≠ "java/lang/invoke/MethodHandle" ∧ yX4_wring.cls ≠ "java/lang/invoke/VarHandle" ∧ (parseMethodDescriptor yX4_wring.desc).map (fun d => d.parameters.length) = some 2 := by decide +kernel
def fX4_wring (N : Nat) (v : VS) (z : VV) (p1 : Int32) (p2 : Int32) : Option (VS × VV × Int32) := ((fX4_checkStack N p1).bind fun r1 => ((fX4_checkBlock N v p2).bind fun r2 => ((fX2_push N v z).bind fun r3 => ((fX3_tryToWring N v p1 p2).bind fun r4 => some (r4.1, r3, r4.2)))))
set_option maxRecDepth 100000 in
set_option maxHeartbeats 4000000 in
theorem wkX4_wring {k : Kt} (C : gC k cX4_wring 3 RX4 wsX4_wring rmX4_wring "wring") (N : Nat) (rG : Nat) (rN : Nat) (rT : Nat) (aS : Nat → Nat) (rV : Nat) (aV : Nat → Nat) (v : VS) (z : VV) (p1 : Int32) (p2 : Int32) (r : VS × VV × Int32) (hf : fX4_wring N v z p1 p2 = some r) (E : gE k (wG (kD k) rG (aS 0) rV rN rT ++ (wS (kD k) aS v ++ (wV (kD k) rV aV z))) (fun rv w => rv = some (.int r.2.2) ∧ ∃ a : Nat → Nat, w = (wG (kD k) rG (aS 0) rV rN rT ++ (wS (kD k) aS r.1 ++ (wV (kD k) rV a r.2.1)))) (fun _ _ => False) 0 0 (some .int) []) : gG k (wG (kD k) rG (aS 0) rV rN rT ++ (wS (kD k) aS v ++ (wV (kD k) rV aV z))) [(0, .ref rG), (1, .int p1), (2, .int p2)] 0 0 0 [] := by
  unfold fX4_wring at hf
  refine g_iload_n (pc := 0) (x := p1) C dX4_wring_0 rfl ?_
  refine g_callR (pc' := 4) (cs' := 0) (sl' := 0) hf C (fun u => none) (fun u hu => gr_S (rest := []) C (cX4_checkStack_ (kL k) C.tr (kD k) N p1 u hu) (fun ht => va_cwS 1 ht gX4_wring_X4_checkStack rfl rfl rfl hsX4_checkStack ⟨(Nat.le_of_ble_eq_true rfl), (Nat.le_of_ble_eq_true rfl)⟩) [] rfl (by decide) rfl rfl (Nat.le_of_ble_eq_true rfl) dX4_wring_1 ⟨(Nat.le_of_ble_eq_true rfl), (Nat.le_of_ble_eq_true rfl)⟩) [] rfl rfl rfl rfl (fun u => []) (fun u => rfl) (fun r1 hf => ?_)
  refine g_aload_n (pc := 4) (x := rG) C dX4_wring_4 rfl ?_
  refine g_iload_n (pc := 5) (x := p2) C dX4_wring_5 rfl ?_
  refine g_callR (pc' := 9) (cs' := 0) (sl' := 0) hf C (fun u => none) (fun u hu => gr_V (rest := []) C (cX4_checkBlock_ (kL k) C.tr (kD k) N rG rV rN rT aS v p2 u hu) (fun ht => cwV 1 ht gX4_wring_X4_checkBlock rfl rfl rfl hdX4_checkBlock ⟨(Nat.le_of_ble_eq_true rfl), (Nat.le_of_ble_eq_true rfl)⟩) 0 rfl rfl [0, 1, 2, 3, 4, 5, 6, 7, 8, 9] rfl (by decide) rfl rfl (Nat.le_of_ble_eq_true rfl) dX4_wring_6 ⟨(Nat.le_of_ble_eq_true rfl), (Nat.le_of_ble_eq_true rfl)⟩) [0, 1, 2, 3, 4, 5, 6, 7, 8, 9] rfl rfl rfl rfl (fun u => []) (fun u => rfl) (fun r2 hf => ?_)
  refine g_aload_n (pc := 9) (x := rG) C dX4_wring_9 rfl ?_
  refine g_getf (pc := 10) C 0 rfl rfl inX4_wring_X4 1 (by decide) lkX4_wring_19 rfl rfl dX4_wring_10 ?_
  refine g_aload_n (pc := 13) (x := rG) C dX4_wring_13 rfl ?_
  refine g_getf (pc := 14) C 0 rfl rfl inX4_wring_X4 0 (by decide) lkX4_wring_12 rfl rfl dX4_wring_14 ?_
  refine g_callPA (wr := wG (kD k) rG (aS 0) rV rN rT ) (pc' := 20) (cs' := 0) (sl' := 0) hf C (fun u => none) (fun u a => (wS (kD k) aS v ++ (wV (kD k) rV a u))) (((pm0 (List.Perm.refl _)).trans (pmc pmL)).trans as2) (fun u hu => gr_V (rest := []) C (cX2_push_ (kL k) C.tr (kD k) N aS rV aV v z u hu) (fun ht => cwV 1 ht gX4_wring_X2_push rfl rfl rfl hdX2_push ⟨(Nat.le_of_ble_eq_true rfl), (Nat.le_of_ble_eq_true rfl)⟩) 9 rfl rfl _ (rg_map _ _) (rg_nd _) rfl rfl (Nat.le_of_ble_eq_true rfl) dX4_wring_17 ⟨(Nat.le_of_ble_eq_true rfl), (Nat.le_of_ble_eq_true rfl)⟩) (ws' := fun u a => (wG (kD k) rG (aS 0) rV rN rT  ++ (wS (kD k) aS v ++ (wV (kD k) rV a u)))) (fun u a => (as2.symm.trans (pm0 pmL))) rfl rfl rfl (fun u => []) (fun u => rfl) (fun r3 aV3 hf => ?_)
  refine g_aload_n (pc := 20) (x := rG) C dX4_wring_20 rfl ?_
  refine g_getf (pc := 21) C 0 rfl rfl inX4_wring_X4 0 (by decide) lkX4_wring_12 rfl rfl dX4_wring_21 ?_
  refine g_iload_n (pc := 24) (x := p1) C dX4_wring_24 rfl ?_
  refine g_iload_n (pc := 25) (x := p2) C dX4_wring_25 rfl ?_
  refine g_callWA (wr := wG (kD k) rG (aS 0) rV rN rT  ++ (wV (kD k) rV aV3 r3)) (pc' := 29) (cs' := 0) (sl' := 0) hf C (fun u => some (.int u.2)) (fun u => (wS (kD k) aS u.1)) (pm0 (List.Perm.refl _)) (fun u hu => gr_V (rest := []) C (cX3_tryToWring_ (kL k) C.tr (kD k) N aS v p1 p2 u hu) (fun ht => cwV 2 ht gX4_wring_X3_tryToWring rfl rfl rfl hdX3_tryToWring ⟨(Nat.le_of_ble_eq_true rfl), (Nat.le_of_ble_eq_true rfl)⟩) 0 rfl rfl _ (rg_map _ _) (rg_nd _) rfl rfl (Nat.le_of_ble_eq_true rfl) dX4_wring_26 ⟨(Nat.le_of_ble_eq_true rfl), (Nat.le_of_ble_eq_true rfl)⟩) (ws' := fun u => (wG (kD k) rG (aS 0) rV rN rT  ++ (wS (kD k) aS u.1 ++ (wV (kD k) rV aV3 r3)))) (fun u => (pm0 (List.Perm.refl _))) rfl rfl rfl (fun u => [.int u.2]) (fun u => rfl) (fun r4 hf => ?_)
  obtain rfl := Option.some.inj hf
  exact g_iret (v := r4.2) C E dX4_wring_29 (Nat.le_of_ble_eq_true rfl) (Nat.le_of_ble_eq_true rfl) ⟨rfl, _, rfl⟩
set_option maxRecDepth 100000 in
set_option maxHeartbeats 4000000 in
theorem cX4_wring_ (l : Launch) (htr : l.stackTraces = false) (D : va_G) (N : Nat) (rG : Nat) (rN : Nat) (rT : Nat) (aS : Nat → Nat) (rV : Nat) (aV : Nat → Nat) (v : VS) (z : VV) (p1 : Int32) (p2 : Int32) (r : VS × VV × Int32) (hf : fX4_wring N v z p1 p2 = some r) : Tc l D yX4_wring wsX4_wring rmX4_wring [.ref rG, .int p1, .int p2] (wG D rG (aS 0) rV rN rT ++ (wS D aS v ++ (wV D rV aV z))) (fun rv w => rv = some (.int r.2.2) ∧ ∃ a : Nat → Nat, w = (wG D rG (aS 0) rV rN rT ++ (wS D aS r.1 ++ (wV D rV a r.2.1)))) (fun _ _ => False) 0 0 := Tc_of htr (by decide +kernel) rfl (Nat.le_of_ble_eq_true rfl) (fun k C E hl hD => by subst hD; exact wkX4_wring C N rG rN rT aS rV aV v z p1 p2 r hf E)
abbrev rmX4_takeOff : Room := { frames := 4, cells := 0, slots := 0, locals := 111 }
theorem inX4_takeOff_X4 : ∀ w ∈ wsX40, w ∈ wsX4_takeOff := by decide +kernel
theorem lkX4_takeOff_12 : Cond.fieldLink RX4 12 "GaugeBlocks" (TX4 0).2.1 (TX4 0).2.2.1 ∈ wsX4_takeOff := by decide +kernel
theorem lkX4_takeOff_19 : Cond.fieldLink RX4 19 "GaugeBlocks" (TX4 1).2.1 (TX4 1).2.2.1 ∈ wsX4_takeOff := by decide +kernel
theorem hdX4_takeOff : yX4_takeOff.cls = RX4 ∧ yX4_takeOff.cls ≠ "java/lang/invoke/MethodHandle" ∧ yX4_takeOff.cls ≠ "java/lang/invoke/VarHandle" ∧ (parseMethodDescriptor yX4_takeOff.desc).map (fun d => d.parameters.length) = some 1 := by decide +kernel
def fX4_takeOff (N : Nat) (v : VS) (z : VV) (p1 : Int32) : Option (VS × VV × Int32) := ((fX4_checkStack N p1).bind fun r1 => ((fX3_heightOf N v p1).bind fun r2 => (if r2 = (0 : Int32) then none else ((fX2_push N v z).bind fun r3 => ((fX3_takeTopOff N v p1).bind fun r4 => some (r4.1, r3, r4.2))))))
set_option maxRecDepth 100000 in
set_option maxHeartbeats 4000000 in
theorem wkX4_takeOff {k : Kt} (C : gC k cX4_takeOff 2 RX4 wsX4_takeOff rmX4_takeOff "takeOff") (N : Nat) (rG : Nat) (rN : Nat) (rT : Nat) (aS : Nat → Nat) (rV : Nat) (aV : Nat → Nat) (v : VS) (z : VV) (p1 : Int32) (r : VS × VV × Int32) (hf : fX4_takeOff N v z p1 = some r) (E : gE k (wG (kD k) rG (aS 0) rV rN rT ++ (wS (kD k) aS v ++ (wV (kD k) rV aV z))) (fun rv w => rv = some (.int r.2.2) ∧ ∃ a : Nat → Nat, w = (wG (kD k) rG (aS 0) rV rN rT ++ (wS (kD k) aS r.1 ++ (wV (kD k) rV a r.2.1)))) (fun _ _ => False) 0 0 (some .int) []) : gG k (wG (kD k) rG (aS 0) rV rN rT ++ (wS (kD k) aS v ++ (wV (kD k) rV aV z))) [(0, .ref rG), (1, .int p1)] 0 0 0 [] := by
  unfold fX4_takeOff at hf
  refine g_iload_n (pc := 0) (x := p1) C dX4_takeOff_0 rfl ?_
  refine g_callR (pc' := 4) (cs' := 0) (sl' := 0) hf C (fun u => none) (fun u hu => gr_S (rest := []) C (cX4_checkStack_ (kL k) C.tr (kD k) N p1 u hu) (fun ht => va_cwS 1 ht gX4_takeOff_X4_checkStack rfl rfl rfl hsX4_checkStack ⟨(Nat.le_of_ble_eq_true rfl), (Nat.le_of_ble_eq_true rfl)⟩) [] rfl (by decide) rfl rfl (Nat.le_of_ble_eq_true rfl) dX4_takeOff_1 ⟨(Nat.le_of_ble_eq_true rfl), (Nat.le_of_ble_eq_true rfl)⟩) [] rfl rfl rfl rfl (fun u => []) (fun u => rfl) (fun r1 hf => ?_)
  refine g_aload_n (pc := 4) (x := rG) C dX4_takeOff_4 rfl ?_
  refine g_getf (pc := 5) C 0 rfl rfl inX4_takeOff_X4 0 (by decide) lkX4_takeOff_12 rfl rfl dX4_takeOff_5 ?_
  refine g_iload_n (pc := 8) (x := p1) C dX4_takeOff_8 rfl ?_
  refine g_callR (pc' := 12) (cs' := 0) (sl' := 0) hf C (fun u => some (.int u)) (fun u hu => gr_V (rest := []) C (cX3_heightOf_ (kL k) C.tr (kD k) N aS v p1 u hu) (fun ht => cwV 1 ht gX4_takeOff_X3_heightOf rfl rfl rfl hdX3_heightOf ⟨(Nat.le_of_ble_eq_true rfl), (Nat.le_of_ble_eq_true rfl)⟩) 1 rfl rfl [1, 2, 3, 4, 5, 6, 7, 8, 9] rfl (by decide) rfl rfl (Nat.le_of_ble_eq_true rfl) dX4_takeOff_9 ⟨(Nat.le_of_ble_eq_true rfl), (Nat.le_of_ble_eq_true rfl)⟩) [1, 2, 3, 4, 5, 6, 7, 8, 9] rfl rfl rfl rfl (fun u => [.int u]) (fun u => rfl) (fun r2 hf => ?_)
  refine g_if_ne (pc := 12) (tgt := 25) (x := r2) hf C dX4_takeOff_12 (by decide) (fun hf => ?_) (fun hf => ?_)
  · refine g_aload_n (pc := 25) (x := rG) C dX4_takeOff_25 rfl ?_
    refine g_getf (pc := 26) C 0 rfl rfl inX4_takeOff_X4 1 (by decide) lkX4_takeOff_19 rfl rfl dX4_takeOff_26 ?_
    refine g_aload_n (pc := 29) (x := rG) C dX4_takeOff_29 rfl ?_
    refine g_getf (pc := 30) C 0 rfl rfl inX4_takeOff_X4 0 (by decide) lkX4_takeOff_12 rfl rfl dX4_takeOff_30 ?_
    refine g_callPA (wr := wG (kD k) rG (aS 0) rV rN rT ) (pc' := 36) (cs' := 0) (sl' := 0) hf C (fun u => none) (fun u a => (wS (kD k) aS v ++ (wV (kD k) rV a u))) (((pm0 (List.Perm.refl _)).trans (pmc pmL)).trans as2) (fun u hu => gr_V (rest := []) C (cX2_push_ (kL k) C.tr (kD k) N aS rV aV v z u hu) (fun ht => cwV 1 ht gX4_takeOff_X2_push rfl rfl rfl hdX2_push ⟨(Nat.le_of_ble_eq_true rfl), (Nat.le_of_ble_eq_true rfl)⟩) 9 rfl rfl _ (rg_map _ _) (rg_nd _) rfl rfl (Nat.le_of_ble_eq_true rfl) dX4_takeOff_33 ⟨(Nat.le_of_ble_eq_true rfl), (Nat.le_of_ble_eq_true rfl)⟩) (ws' := fun u a => (wG (kD k) rG (aS 0) rV rN rT  ++ (wS (kD k) aS v ++ (wV (kD k) rV a u)))) (fun u a => (as2.symm.trans (pm0 pmL))) rfl rfl rfl (fun u => []) (fun u => rfl) (fun r3 aV3 hf => ?_)
    refine g_aload_n (pc := 36) (x := rG) C dX4_takeOff_36 rfl ?_
    refine g_getf (pc := 37) C 0 rfl rfl inX4_takeOff_X4 0 (by decide) lkX4_takeOff_12 rfl rfl dX4_takeOff_37 ?_
    refine g_iload_n (pc := 40) (x := p1) C dX4_takeOff_40 rfl ?_
    refine g_callWA (wr := wG (kD k) rG (aS 0) rV rN rT  ++ (wV (kD k) rV aV3 r3)) (pc' := 44) (cs' := 0) (sl' := 0) hf C (fun u => some (.int u.2)) (fun u => (wS (kD k) aS u.1)) (pm0 (List.Perm.refl _)) (fun u hu => gr_V (rest := []) C (cX3_takeTopOff_ (kL k) C.tr (kD k) N aS v p1 u hu) (fun ht => cwV 1 ht gX4_takeOff_X3_takeTopOff rfl rfl rfl hdX3_takeTopOff ⟨(Nat.le_of_ble_eq_true rfl), (Nat.le_of_ble_eq_true rfl)⟩) 0 rfl rfl _ (rg_map _ _) (rg_nd _) rfl rfl (Nat.le_of_ble_eq_true rfl) dX4_takeOff_41 ⟨(Nat.le_of_ble_eq_true rfl), (Nat.le_of_ble_eq_true rfl)⟩) (ws' := fun u => (wG (kD k) rG (aS 0) rV rN rT  ++ (wS (kD k) aS u.1 ++ (wV (kD k) rV aV3 r3)))) (fun u => (pm0 (List.Perm.refl _))) rfl rfl rfl (fun u => [.int u.2]) (fun u => rfl) (fun r4 hf => ?_)
    obtain rfl := Option.some.inj hf
    exact g_iret (v := r4.2) C E dX4_takeOff_44 (Nat.le_of_ble_eq_true rfl) (Nat.le_of_ble_eq_true rfl) ⟨rfl, _, rfl⟩
  · cases hf
set_option maxRecDepth 100000 in
set_option maxHeartbeats 4000000 in
theorem cX4_takeOff_ (l : Launch) (htr : l.stackTraces = false) (D : va_G) (N : Nat) (rG : Nat) (rN : Nat) (rT : Nat) (aS : Nat → Nat) (rV : Nat) (aV : Nat → Nat) (v : VS) (z : VV) (p1 : Int32) (r : VS × VV × Int32) (hf : fX4_takeOff N v z p1 = some r) : Tc l D yX4_takeOff wsX4_takeOff rmX4_takeOff [.ref rG, .int p1] (wG D rG (aS 0) rV rN rT ++ (wS D aS v ++ (wV D rV aV z))) (fun rv w => rv = some (.int r.2.2) ∧ ∃ a : Nat → Nat, w = (wG D rG (aS 0) rV rN rT ++ (wS D aS r.1 ++ (wV D rV a r.2.1)))) (fun _ _ => False) 0 0 := Tc_of htr (by decide +kernel) rfl (Nat.le_of_ble_eq_true rfl) (fun k C E hl hD => by subst hD; exact wkX4_takeOff C N rG rN rT aS rV aV v z p1 r hf E)
abbrev rmX4_checkLength : Room := { frames := 1, cells := 0, slots := 0, locals := 22 }
theorem kcX4_checkLength_287 : Jvm.Cond.constant RX4 287 600000 ∈ wsX4_checkLength := by decide +kernel
theorem hsX4_checkLength : yX4_checkLength.cls ≠ "java/lang/invoke/MethodHandle" ∧ yX4_checkLength.cls ≠ "java/lang/invoke/VarHandle" ∧ (parseMethodDescriptor yX4_checkLength.desc).map (fun d => d.parameters.length) = some 1 := by decide +kernel
def fX4_checkLength (N : Nat) (p0 : Int32) : Option (Unit) := ((fX4_checkRange N p0 500 600000).bind fun r1 => some ())
set_option maxRecDepth 100000 in
set_option maxHeartbeats 4000000 in
theorem wkX4_checkLength {k : Kt} (C : gC k cX4_checkLength 1 RX4 wsX4_checkLength rmX4_checkLength "checkLength") (N : Nat) (p0 : Int32) (r : Unit) (hf : fX4_checkLength N p0 = some r) (E : gE k [] (fun rv w => rv = none ∧ w = []) (fun _ _ => False) 0 0 none []) : gG k [] [(0, .int p0)] 0 0 0 [] := by
  unfold fX4_checkLength at hf
  refine g_iload_n (pc := 0) (x := p0) C dX4_checkLength_0 rfl ?_
  refine g_sipush (pc := 1) (v := 500) C dX4_checkLength_1 (by decide) ?_
  refine g_ldcw (pc := 4) (v := 600000) C dX4_checkLength_4 kcX4_checkLength_287 ?_
  refine g_callR (pc' := 10) (cs' := 0) (sl' := 0) hf C (fun u => none) (fun u hu => gr_S (rest := []) C (cX4_checkRange_ (kL k) C.tr (kD k) N p0 500 600000 u hu) (fun ht => va_cwS 3 ht gX4_checkLength_X4_checkRange rfl rfl rfl hsX4_checkRange ⟨(Nat.le_of_ble_eq_true rfl), (Nat.le_of_ble_eq_true rfl)⟩) [] rfl (by decide) rfl rfl (Nat.le_of_ble_eq_true rfl) dX4_checkLength_7 ⟨(Nat.le_of_ble_eq_true rfl), (Nat.le_of_ble_eq_true rfl)⟩) [] rfl rfl rfl rfl (fun u => []) (fun u => rfl) (fun r1 hf => ?_)
  obtain rfl := Option.some.inj hf
  exact g_vret C E dX4_checkLength_10 (Nat.le_of_ble_eq_true rfl) (Nat.le_of_ble_eq_true rfl) ⟨rfl, rfl⟩
set_option maxRecDepth 100000 in
set_option maxHeartbeats 4000000 in
theorem cX4_checkLength_ (l : Launch) (htr : l.stackTraces = false) (D : va_G) (N : Nat) (p0 : Int32) (r : Unit) (hf : fX4_checkLength N p0 = some r) : Tc l D yX4_checkLength wsX4_checkLength rmX4_checkLength [.int p0] [] (fun rv w => rv = none ∧ w = []) (fun _ _ => False) 0 0 := Tc_of htr (by decide +kernel) rfl (Nat.le_of_ble_eq_true rfl) (fun k C E hl hD => by subst hD; exact wkX4_checkLength C N p0 r hf E)
abbrev rmX4_make : Room := { frames := 10, cells := 0, slots := 0, locals := 267 }
theorem inX4_make_X4 : ∀ w ∈ wsX40, w ∈ wsX4_make := by decide +kernel
theorem lkX4_make_12 : Cond.fieldLink RX4 12 "GaugeBlocks" (TX4 0).2.1 (TX4 0).2.2.1 ∈ wsX4_make := by decide +kernel
theorem lkX4_make_19 : Cond.fieldLink RX4 19 "GaugeBlocks" (TX4 1).2.1 (TX4 1).2.2.1 ∈ wsX4_make := by decide +kernel
theorem hdX4_make : yX4_make.cls = RX4 ∧ yX4_make.cls ≠ "java/lang/invoke/MethodHandle" ∧ yX4_make.cls ≠ "java/lang/invoke/VarHandle" ∧ (parseMethodDescriptor yX4_make.desc).map (fun d => d.parameters.length) = some 2 := by decide +kernel
def fX4_make (N : Nat) (v : VS) (z : VV) (p1 : Int32) (p2 : Int32) : Option (VS × VV × Int32) := ((fX4_checkStack N p1).bind fun r1 => ((fX4_checkLength N p2).bind fun r2 => ((fX3_heightOf N v p1).bind fun r3 => (if r3 = (0 : Int32) then ((fX2_push N v z).bind fun r4 => ((fX0_fewestFor N v p2).bind fun r5 => (if r5 = (0 : Int32) then some (v, r4, (-1)) else ((fX3_wringSet N v p1 r5).bind fun r6 => some (r6.1, r4, r6.2))))) else none))))
set_option maxRecDepth 100000 in
set_option maxHeartbeats 4000000 in
theorem wkX4_make {k : Kt} (C : gC k cX4_make 4 RX4 wsX4_make rmX4_make "make") (N : Nat) (rG : Nat) (rN : Nat) (rT : Nat) (aS : Nat → Nat) (rV : Nat) (aV : Nat → Nat) (v : VS) (z : VV) (p1 : Int32) (p2 : Int32) (r : VS × VV × Int32) (hf : fX4_make N v z p1 p2 = some r) (E : gE k (wG (kD k) rG (aS 0) rV rN rT ++ (wS (kD k) aS v ++ (wV (kD k) rV aV z))) (fun rv w => rv = some (.int r.2.2) ∧ ∃ a : Nat → Nat, w = (wG (kD k) rG (aS 0) rV rN rT ++ (wS (kD k) aS r.1 ++ (wV (kD k) rV a r.2.1)))) (fun _ _ => False) 0 0 (some .int) []) : gG k (wG (kD k) rG (aS 0) rV rN rT ++ (wS (kD k) aS v ++ (wV (kD k) rV aV z))) [(0, .ref rG), (1, .int p1), (2, .int p2)] 0 0 0 [] := by
  unfold fX4_make at hf
  refine g_iload_n (pc := 0) (x := p1) C dX4_make_0 rfl ?_
  refine g_callR (pc' := 4) (cs' := 0) (sl' := 0) hf C (fun u => none) (fun u hu => gr_S (rest := []) C (cX4_checkStack_ (kL k) C.tr (kD k) N p1 u hu) (fun ht => va_cwS 1 ht gX4_make_X4_checkStack rfl rfl rfl hsX4_checkStack ⟨(Nat.le_of_ble_eq_true rfl), (Nat.le_of_ble_eq_true rfl)⟩) [] rfl (by decide) rfl rfl (Nat.le_of_ble_eq_true rfl) dX4_make_1 ⟨(Nat.le_of_ble_eq_true rfl), (Nat.le_of_ble_eq_true rfl)⟩) [] rfl rfl rfl rfl (fun u => []) (fun u => rfl) (fun r1 hf => ?_)
  refine g_iload_n (pc := 4) (x := p2) C dX4_make_4 rfl ?_
  refine g_callR (pc' := 8) (cs' := 0) (sl' := 0) hf C (fun u => none) (fun u hu => gr_S (rest := []) C (cX4_checkLength_ (kL k) C.tr (kD k) N p2 u hu) (fun ht => va_cwS 1 ht gX4_make_X4_checkLength rfl rfl rfl hsX4_checkLength ⟨(Nat.le_of_ble_eq_true rfl), (Nat.le_of_ble_eq_true rfl)⟩) [] rfl (by decide) rfl rfl (Nat.le_of_ble_eq_true rfl) dX4_make_5 ⟨(Nat.le_of_ble_eq_true rfl), (Nat.le_of_ble_eq_true rfl)⟩) [] rfl rfl rfl rfl (fun u => []) (fun u => rfl) (fun r2 hf => ?_)
  refine g_aload_n (pc := 8) (x := rG) C dX4_make_8 rfl ?_
  refine g_getf (pc := 9) C 0 rfl rfl inX4_make_X4 0 (by decide) lkX4_make_12 rfl rfl dX4_make_9 ?_
  refine g_iload_n (pc := 12) (x := p1) C dX4_make_12 rfl ?_
  refine g_callR (pc' := 16) (cs' := 0) (sl' := 0) hf C (fun u => some (.int u)) (fun u hu => gr_V (rest := []) C (cX3_heightOf_ (kL k) C.tr (kD k) N aS v p1 u hu) (fun ht => cwV 1 ht gX4_make_X3_heightOf rfl rfl rfl hdX3_heightOf ⟨(Nat.le_of_ble_eq_true rfl), (Nat.le_of_ble_eq_true rfl)⟩) 1 rfl rfl [1, 2, 3, 4, 5, 6, 7, 8, 9] rfl (by decide) rfl rfl (Nat.le_of_ble_eq_true rfl) dX4_make_13 ⟨(Nat.le_of_ble_eq_true rfl), (Nat.le_of_ble_eq_true rfl)⟩) [1, 2, 3, 4, 5, 6, 7, 8, 9] rfl rfl rfl rfl (fun u => [.int u]) (fun u => rfl) (fun r3 hf => ?_)
  refine g_if_eq (pc := 16) (tgt := 29) (x := r3) hf C dX4_make_16 (by decide) (fun hf => ?_) (fun hf => ?_)
  · refine g_aload_n (pc := 29) (x := rG) C dX4_make_29 rfl ?_
    refine g_getf (pc := 30) C 0 rfl rfl inX4_make_X4 1 (by decide) lkX4_make_19 rfl rfl dX4_make_30 ?_
    refine g_aload_n (pc := 33) (x := rG) C dX4_make_33 rfl ?_
    refine g_getf (pc := 34) C 0 rfl rfl inX4_make_X4 0 (by decide) lkX4_make_12 rfl rfl dX4_make_34 ?_
    refine g_callPA (wr := wG (kD k) rG (aS 0) rV rN rT ) (pc' := 40) (cs' := 0) (sl' := 0) hf C (fun u => none) (fun u a => (wS (kD k) aS v ++ (wV (kD k) rV a u))) (((pm0 (List.Perm.refl _)).trans (pmc pmL)).trans as2) (fun u hu => gr_V (rest := []) C (cX2_push_ (kL k) C.tr (kD k) N aS rV aV v z u hu) (fun ht => cwV 1 ht gX4_make_X2_push rfl rfl rfl hdX2_push ⟨(Nat.le_of_ble_eq_true rfl), (Nat.le_of_ble_eq_true rfl)⟩) 9 rfl rfl _ (rg_map _ _) (rg_nd _) rfl rfl (Nat.le_of_ble_eq_true rfl) dX4_make_37 ⟨(Nat.le_of_ble_eq_true rfl), (Nat.le_of_ble_eq_true rfl)⟩) (ws' := fun u a => (wG (kD k) rG (aS 0) rV rN rT  ++ (wS (kD k) aS v ++ (wV (kD k) rV a u)))) (fun u a => (as2.symm.trans (pm0 pmL))) rfl rfl rfl (fun u => []) (fun u => rfl) (fun r4 aV4 hf => ?_)
    refine g_aload_n (pc := 40) (x := rG) C dX4_make_40 rfl ?_
    refine g_getf (pc := 41) C 0 rfl rfl inX4_make_X4 0 (by decide) lkX4_make_12 rfl rfl dX4_make_41 ?_
    refine g_iload_n (pc := 44) (x := p2) C dX4_make_44 rfl ?_
    refine g_callR (pc' := 48) (cs' := 0) (sl' := 0) hf C (fun u => some (.int u)) (fun u hu => gr_S (rest := []) C (cX0_fewestFor_ (kL k) C.tr (kD k) N aS v p2 u hu) (fun ht => va_cwS 2 ht gX4_make_X0_fewestFor rfl rfl rfl hsX0_fewestFor ⟨(Nat.le_of_ble_eq_true rfl), (Nat.le_of_ble_eq_true rfl)⟩) [1, 2, 3, 4, 5, 6, 7, 8, 9] rfl (by decide) rfl rfl (Nat.le_of_ble_eq_true rfl) dX4_make_45 ⟨(Nat.le_of_ble_eq_true rfl), (Nat.le_of_ble_eq_true rfl)⟩) [1, 2, 3, 4, 5, 6, 7, 8, 9] rfl rfl rfl rfl (fun u => [.int u]) (fun u => rfl) (fun r5 hf => ?_)
    refine g_istore_n (pc := 48) (lv' := [(3, .int r5), (0, .ref rG), (1, .int p1), (2, .int p2)]) C dX4_make_48 (by decide) rfl ?_
    refine g_iload_n (pc := 49) (x := r5) C dX4_make_49 rfl ?_
    refine g_if_ne (pc := 50) (tgt := 57) (x := r5) hf C dX4_make_50 (by decide) (fun hf => ?_) (fun hf => ?_)
    · refine g_aload_n (pc := 57) (x := rG) C dX4_make_57 rfl ?_
      refine g_getf (pc := 58) C 0 rfl rfl inX4_make_X4 0 (by decide) lkX4_make_12 rfl rfl dX4_make_58 ?_
      refine g_iload_n (pc := 61) (x := p1) C dX4_make_61 rfl ?_
      refine g_iload_n (pc := 62) (x := r5) C dX4_make_62 rfl ?_
      refine g_callWA (wr := wG (kD k) rG (aS 0) rV rN rT  ++ (wV (kD k) rV aV4 r4)) (pc' := 66) (cs' := 0) (sl' := 0) hf C (fun u => some (.int u.2)) (fun u => (wS (kD k) aS u.1)) (pm0 (List.Perm.refl _)) (fun u hu => gr_V (rest := []) C (cX3_wringSet_ (kL k) C.tr (kD k) N aS v p1 r5 u hu) (fun ht => cwV 2 ht gX4_make_X3_wringSet rfl rfl rfl hdX3_wringSet ⟨(Nat.le_of_ble_eq_true rfl), (Nat.le_of_ble_eq_true rfl)⟩) 0 rfl rfl _ (rg_map _ _) (rg_nd _) rfl rfl (Nat.le_of_ble_eq_true rfl) dX4_make_63 ⟨(Nat.le_of_ble_eq_true rfl), (Nat.le_of_ble_eq_true rfl)⟩) (ws' := fun u => (wG (kD k) rG (aS 0) rV rN rT  ++ (wS (kD k) aS u.1 ++ (wV (kD k) rV aV4 r4)))) (fun u => (pm0 (List.Perm.refl _))) rfl rfl rfl (fun u => [.int u.2]) (fun u => rfl) (fun r6 hf => ?_)
      obtain rfl := Option.some.inj hf
      exact g_iret (v := r6.2) C E dX4_make_66 (Nat.le_of_ble_eq_true rfl) (Nat.le_of_ble_eq_true rfl) ⟨rfl, _, rfl⟩
    · refine g_iconst (pc := 53) (v := (-1)) C dX4_make_53 (by decide) ?_
      refine g_goto (pc := 54) (tgt := 66) C dX4_make_54 (by decide) ?_
      obtain rfl := Option.some.inj hf
      exact g_iret (v := (-1)) C E dX4_make_66 (Nat.le_of_ble_eq_true rfl) (Nat.le_of_ble_eq_true rfl) ⟨rfl, _, rfl⟩
  · cases hf
set_option maxRecDepth 100000 in
set_option maxHeartbeats 4000000 in
theorem cX4_make_ (l : Launch) (htr : l.stackTraces = false) (D : va_G) (N : Nat) (rG : Nat) (rN : Nat) (rT : Nat) (aS : Nat → Nat) (rV : Nat) (aV : Nat → Nat) (v : VS) (z : VV) (p1 : Int32) (p2 : Int32) (r : VS × VV × Int32) (hf : fX4_make N v z p1 p2 = some r) : Tc l D yX4_make wsX4_make rmX4_make [.ref rG, .int p1, .int p2] (wG D rG (aS 0) rV rN rT ++ (wS D aS v ++ (wV D rV aV z))) (fun rv w => rv = some (.int r.2.2) ∧ ∃ a : Nat → Nat, w = (wG D rG (aS 0) rV rN rT ++ (wS D aS r.1 ++ (wV D rV a r.2.1)))) (fun _ _ => False) 0 0 := Tc_of htr (by decide +kernel) rfl (Nat.le_of_ble_eq_true rfl) (fun k C E hl hD => by subst hD; exact wkX4_make C N rG rN rT aS rV aV v z p1 p2 r hf E)
abbrev rmX4_blockOf : Room := { frames := 3, cells := 0, slots := 0, locals := 64 }
theorem inX4_blockOf_X3 : ∀ w ∈ wsX30, w ∈ wsX4_blockOf := by decide +kernel
theorem inX4_blockOf_X4 : ∀ w ∈ wsX40, w ∈ wsX4_blockOf := by decide +kernel
theorem lkX4_blockOf_12 : Cond.fieldLink RX4 12 "GaugeBlocks" (TX4 0).2.1 (TX4 0).2.2.1 ∈ wsX4_blockOf := by decide +kernel
theorem lkX4_blockOf_186 : Cond.fieldLink RX4 186 "GaugeBlocks$State" (TX3 0).2.1 (TX3 0).2.2.1 ∈ wsX4_blockOf := by decide +kernel
theorem lkX4_blockOf_192 : Cond.fieldLink RX4 192 "GaugeBlocks$State" (TX3 2).2.1 (TX3 2).2.2.1 ∈ wsX4_blockOf := by decide +kernel
theorem lkX4_blockOf_83 : Cond.fieldLink RX4 83 "GaugeBlocks$State" (TX3 3).2.1 (TX3 3).2.2.1 ∈ wsX4_blockOf := by decide +kernel
theorem lkX4_blockOf_198 : Cond.fieldLink RX4 198 "GaugeBlocks$State" (TX3 4).2.1 (TX3 4).2.2.1 ∈ wsX4_blockOf := by decide +kernel
theorem lkX4_blockOf_201 : Cond.fieldLink RX4 201 "GaugeBlocks$State" (TX3 5).2.1 (TX3 5).2.2.1 ∈ wsX4_blockOf := by decide +kernel
theorem lkX4_blockOf_204 : Cond.fieldLink RX4 204 "GaugeBlocks$State" (TX3 6).2.1 (TX3 6).2.2.1 ∈ wsX4_blockOf := by decide +kernel
theorem hdX4_blockOf : yX4_blockOf.cls = RX4 ∧ yX4_blockOf.cls ≠ "java/lang/invoke/MethodHandle" ∧ yX4_blockOf.cls ≠ "java/lang/invoke/VarHandle" ∧ (parseMethodDescriptor yX4_blockOf.desc).map (fun d => d.parameters.length) = some 2 := by decide +kernel
def fX4_blockOf (N : Nat) (v : VS) (p1 : Int32) (p2 : Int32) : Option (Int32) := ((fX4_checkBlock N v p1).bind fun r1 => (if p2 = 0 then ck p1 20 (some ((sN v) (Int32.toNatClampNeg p1))) else (if p2 = 1 then ((fX3_errorOf N v p1).bind fun r2 => some (r2 + 10000)) else (if p2 = 2 then ck p1 20 (some ((sW v) (Int32.toNatClampNeg p1))) else (if p2 = 3 then ck p1 20 (some ((sH v) (Int32.toNatClampNeg p1))) else (if p2 = 4 then ((fX3_gradeOf N v p1).bind fun r3 => some r3) else (if p2 = 5 then ((fX3_trueLengthOf N v p1 0).bind fun r4 => some r4) else (if p2 = 6 then ck p1 20 (some ((sK v) (Int32.toNatClampNeg p1))) else (if p2 = 7 then ck p1 20 (some ((sP v) (Int32.toNatClampNeg p1))) else (if p2 = 8 then ck p1 20 (some ((sT v) (Int32.toNatClampNeg p1))) else none))))))))))
set_option maxRecDepth 100000 in
set_option maxHeartbeats 4000000 in
theorem wkX4_blockOf {k : Kt} (C : gC k cX4_blockOf 3 RX4 wsX4_blockOf rmX4_blockOf "blockOf") (N : Nat) (rG : Nat) (rV : Nat) (rN : Nat) (rT : Nat) (aS : Nat → Nat) (v : VS) (p1 : Int32) (p2 : Int32) (r : Int32) (hf : fX4_blockOf N v p1 p2 = some r) (E : gE k (wG (kD k) rG (aS 0) rV rN rT ++ (wS (kD k) aS v)) (fun rv w => rv = some (.int r) ∧ w = (wG (kD k) rG (aS 0) rV rN rT ++ (wS (kD k) aS v))) (fun _ _ => False) 0 0 (some .int) []) : gG k (wG (kD k) rG (aS 0) rV rN rT ++ (wS (kD k) aS v)) [(0, .ref rG), (1, .int p1), (2, .int p2)] 0 0 0 [] := by
  unfold fX4_blockOf at hf
  refine g_aload_n (pc := 0) (x := rG) C dX4_blockOf_0 rfl ?_
  refine g_iload_n (pc := 1) (x := p1) C dX4_blockOf_1 rfl ?_
  refine g_callR (pc' := 5) (cs' := 0) (sl' := 0) hf C (fun u => none) (fun u hu => gr_V (rest := []) C (cX4_checkBlock_ (kL k) C.tr (kD k) N rG rV rN rT aS v p1 u hu) (fun ht => cwV 1 ht gX4_blockOf_X4_checkBlock rfl rfl rfl hdX4_checkBlock ⟨(Nat.le_of_ble_eq_true rfl), (Nat.le_of_ble_eq_true rfl)⟩) 0 rfl rfl [0, 1, 2, 3, 4, 5, 6, 7, 8, 9] rfl (by decide) rfl rfl (Nat.le_of_ble_eq_true rfl) dX4_blockOf_2 ⟨(Nat.le_of_ble_eq_true rfl), (Nat.le_of_ble_eq_true rfl)⟩) [0, 1, 2, 3, 4, 5, 6, 7, 8, 9] rfl rfl rfl rfl (fun u => []) (fun u => rfl) (fun r1 hf => ?_)
  refine g_iload_n (pc := 5) (x := p2) C dX4_blockOf_5 rfl ?_
  refine g_split hf (fun e hf => ?_) (fun n6_0 hf => ?_)
  · refine g_tsw (pc := 6) (tgt := 56) C dX4_blockOf_6 e (by decide) (by decide) rfl (by decide) ?_
    refine g_aload_n (pc := 56) (x := rG) C dX4_blockOf_56 rfl ?_
    refine g_getf (pc := 57) C 0 rfl rfl inX4_blockOf_X4 0 (by decide) lkX4_blockOf_12 rfl rfl dX4_blockOf_57 ?_
    refine g_getf (pc := 60) C 1 rfl rfl inX4_blockOf_X3 0 (by decide) lkX4_blockOf_186 rfl rfl dX4_blockOf_60 ?_
    refine g_iload_n (pc := 63) (x := p1) C dX4_blockOf_63 rfl ?_
    refine g_iald (pc := 64) (i := p1) hf C 2 rfl dX4_blockOf_64 (fun hf => ?_)
    obtain rfl := Option.some.inj hf
    exact g_iret (v := ((sN v) (Int32.toNatClampNeg p1))) C E dX4_blockOf_65 (Nat.le_of_ble_eq_true rfl) (Nat.le_of_ble_eq_true rfl) ⟨rfl, rfl⟩
  refine g_split hf (fun e hf => ?_) (fun n6_1 hf => ?_)
  · refine g_tsw (pc := 6) (tgt := 66) C dX4_blockOf_6 e (by decide) (by decide) rfl (by decide) ?_
    refine g_aload_n (pc := 66) (x := rG) C dX4_blockOf_66 rfl ?_
    refine g_getf (pc := 67) C 0 rfl rfl inX4_blockOf_X4 0 (by decide) lkX4_blockOf_12 rfl rfl dX4_blockOf_67 ?_
    refine g_iload_n (pc := 70) (x := p1) C dX4_blockOf_70 rfl ?_
    refine g_callR (pc' := 74) (cs' := 0) (sl' := 0) hf C (fun u => some (.int u)) (fun u hu => gr_V (rest := []) C (cX3_errorOf_ (kL k) C.tr (kD k) N aS v p1 u hu) (fun ht => cwV 1 ht gX4_blockOf_X3_errorOf rfl rfl rfl hdX3_errorOf ⟨(Nat.le_of_ble_eq_true rfl), (Nat.le_of_ble_eq_true rfl)⟩) 1 rfl rfl [1, 2, 3, 4, 5, 6, 7, 8, 9] rfl (by decide) rfl rfl (Nat.le_of_ble_eq_true rfl) dX4_blockOf_71 ⟨(Nat.le_of_ble_eq_true rfl), (Nat.le_of_ble_eq_true rfl)⟩) [1, 2, 3, 4, 5, 6, 7, 8, 9] rfl rfl rfl rfl (fun u => [.int u]) (fun u => rfl) (fun r2 hf => ?_)
    refine g_sipush (pc := 74) (v := 10000) C dX4_blockOf_74 (by decide) ?_
    refine g_iadd (pc := 77) (x := r2) (y := 10000) C dX4_blockOf_77 ?_
    obtain rfl := Option.some.inj hf
    exact g_iret (v := (r2 + 10000)) C E dX4_blockOf_78 (Nat.le_of_ble_eq_true rfl) (Nat.le_of_ble_eq_true rfl) ⟨rfl, rfl⟩
  refine g_split hf (fun e hf => ?_) (fun n6_2 hf => ?_)
  · refine g_tsw (pc := 6) (tgt := 79) C dX4_blockOf_6 e (by decide) (by decide) rfl (by decide) ?_
    refine g_aload_n (pc := 79) (x := rG) C dX4_blockOf_79 rfl ?_
    refine g_getf (pc := 80) C 0 rfl rfl inX4_blockOf_X4 0 (by decide) lkX4_blockOf_12 rfl rfl dX4_blockOf_80 ?_
    refine g_getf (pc := 83) C 1 rfl rfl inX4_blockOf_X3 2 (by decide) lkX4_blockOf_192 rfl rfl dX4_blockOf_83 ?_
    refine g_iload_n (pc := 86) (x := p1) C dX4_blockOf_86 rfl ?_
    refine g_iald (pc := 87) (i := p1) hf C 4 rfl dX4_blockOf_87 (fun hf => ?_)
    obtain rfl := Option.some.inj hf
    exact g_iret (v := ((sW v) (Int32.toNatClampNeg p1))) C E dX4_blockOf_88 (Nat.le_of_ble_eq_true rfl) (Nat.le_of_ble_eq_true rfl) ⟨rfl, rfl⟩
  refine g_split hf (fun e hf => ?_) (fun n6_3 hf => ?_)
  · refine g_tsw (pc := 6) (tgt := 89) C dX4_blockOf_6 e (by decide) (by decide) rfl (by decide) ?_
    refine g_aload_n (pc := 89) (x := rG) C dX4_blockOf_89 rfl ?_
    refine g_getf (pc := 90) C 0 rfl rfl inX4_blockOf_X4 0 (by decide) lkX4_blockOf_12 rfl rfl dX4_blockOf_90 ?_
    refine g_getf (pc := 93) C 1 rfl rfl inX4_blockOf_X3 3 (by decide) lkX4_blockOf_83 rfl rfl dX4_blockOf_93 ?_
    refine g_iload_n (pc := 96) (x := p1) C dX4_blockOf_96 rfl ?_
    refine g_iald (pc := 97) (i := p1) hf C 5 rfl dX4_blockOf_97 (fun hf => ?_)
    obtain rfl := Option.some.inj hf
    exact g_iret (v := ((sH v) (Int32.toNatClampNeg p1))) C E dX4_blockOf_98 (Nat.le_of_ble_eq_true rfl) (Nat.le_of_ble_eq_true rfl) ⟨rfl, rfl⟩
  refine g_split hf (fun e hf => ?_) (fun n6_4 hf => ?_)
  · refine g_tsw (pc := 6) (tgt := 99) C dX4_blockOf_6 e (by decide) (by decide) rfl (by decide) ?_
    refine g_aload_n (pc := 99) (x := rG) C dX4_blockOf_99 rfl ?_
    refine g_getf (pc := 100) C 0 rfl rfl inX4_blockOf_X4 0 (by decide) lkX4_blockOf_12 rfl rfl dX4_blockOf_100 ?_
    refine g_iload_n (pc := 103) (x := p1) C dX4_blockOf_103 rfl ?_
    refine g_callR (pc' := 107) (cs' := 0) (sl' := 0) hf C (fun u => some (.int u)) (fun u hu => gr_V (rest := []) C (cX3_gradeOf_ (kL k) C.tr (kD k) N aS v p1 u hu) (fun ht => cwV 1 ht gX4_blockOf_X3_gradeOf rfl rfl rfl hdX3_gradeOf ⟨(Nat.le_of_ble_eq_true rfl), (Nat.le_of_ble_eq_true rfl)⟩) 1 rfl rfl [1, 2, 3, 4, 5, 6, 7, 8, 9] rfl (by decide) rfl rfl (Nat.le_of_ble_eq_true rfl) dX4_blockOf_104 ⟨(Nat.le_of_ble_eq_true rfl), (Nat.le_of_ble_eq_true rfl)⟩) [1, 2, 3, 4, 5, 6, 7, 8, 9] rfl rfl rfl rfl (fun u => [.int u]) (fun u => rfl) (fun r3 hf => ?_)
    obtain rfl := Option.some.inj hf
    exact g_iret (v := r3) C E dX4_blockOf_107 (Nat.le_of_ble_eq_true rfl) (Nat.le_of_ble_eq_true rfl) ⟨rfl, rfl⟩
  refine g_split hf (fun e hf => ?_) (fun n6_5 hf => ?_)
  · refine g_tsw (pc := 6) (tgt := 108) C dX4_blockOf_6 e (by decide) (by decide) rfl (by decide) ?_
    refine g_aload_n (pc := 108) (x := rG) C dX4_blockOf_108 rfl ?_
    refine g_getf (pc := 109) C 0 rfl rfl inX4_blockOf_X4 0 (by decide) lkX4_blockOf_12 rfl rfl dX4_blockOf_109 ?_
    refine g_iload_n (pc := 112) (x := p1) C dX4_blockOf_112 rfl ?_
    refine g_iconst (pc := 113) (v := 0) C dX4_blockOf_113 (by decide) ?_
    refine g_callR (pc' := 117) (cs' := 0) (sl' := 0) hf C (fun u => some (.int u)) (fun u hu => gr_V (rest := []) C (cX3_trueLengthOf_ (kL k) C.tr (kD k) N aS v p1 0 u hu) (fun ht => cwV 2 ht gX4_blockOf_X3_trueLengthOf rfl rfl rfl hdX3_trueLengthOf ⟨(Nat.le_of_ble_eq_true rfl), (Nat.le_of_ble_eq_true rfl)⟩) 1 rfl rfl [1, 2, 3, 4, 5, 6, 7, 8, 9] rfl (by decide) rfl rfl (Nat.le_of_ble_eq_true rfl) dX4_blockOf_114 ⟨(Nat.le_of_ble_eq_true rfl), (Nat.le_of_ble_eq_true rfl)⟩) [1, 2, 3, 4, 5, 6, 7, 8, 9] rfl rfl rfl rfl (fun u => [.int u]) (fun u => rfl) (fun r4 hf => ?_)
    obtain rfl := Option.some.inj hf
    exact g_iret (v := r4) C E dX4_blockOf_117 (Nat.le_of_ble_eq_true rfl) (Nat.le_of_ble_eq_true rfl) ⟨rfl, rfl⟩
  refine g_split hf (fun e hf => ?_) (fun n6_6 hf => ?_)
  · refine g_tsw (pc := 6) (tgt := 118) C dX4_blockOf_6 e (by decide) (by decide) rfl (by decide) ?_
    refine g_aload_n (pc := 118) (x := rG) C dX4_blockOf_118 rfl ?_
    refine g_getf (pc := 119) C 0 rfl rfl inX4_blockOf_X4 0 (by decide) lkX4_blockOf_12 rfl rfl dX4_blockOf_119 ?_
    refine g_getf (pc := 122) C 1 rfl rfl inX4_blockOf_X3 4 (by decide) lkX4_blockOf_198 rfl rfl dX4_blockOf_122 ?_
    refine g_iload_n (pc := 125) (x := p1) C dX4_blockOf_125 rfl ?_
    refine g_iald (pc := 126) (i := p1) hf C 6 rfl dX4_blockOf_126 (fun hf => ?_)
    obtain rfl := Option.some.inj hf
    exact g_iret (v := ((sK v) (Int32.toNatClampNeg p1))) C E dX4_blockOf_127 (Nat.le_of_ble_eq_true rfl) (Nat.le_of_ble_eq_true rfl) ⟨rfl, rfl⟩
  refine g_split hf (fun e hf => ?_) (fun n6_7 hf => ?_)
  · refine g_tsw (pc := 6) (tgt := 128) C dX4_blockOf_6 e (by decide) (by decide) rfl (by decide) ?_
    refine g_aload_n (pc := 128) (x := rG) C dX4_blockOf_128 rfl ?_
    refine g_getf (pc := 129) C 0 rfl rfl inX4_blockOf_X4 0 (by decide) lkX4_blockOf_12 rfl rfl dX4_blockOf_129 ?_
    refine g_getf (pc := 132) C 1 rfl rfl inX4_blockOf_X3 5 (by decide) lkX4_blockOf_201 rfl rfl dX4_blockOf_132 ?_
    refine g_iload_n (pc := 135) (x := p1) C dX4_blockOf_135 rfl ?_
    refine g_iald (pc := 136) (i := p1) hf C 7 rfl dX4_blockOf_136 (fun hf => ?_)
    obtain rfl := Option.some.inj hf
    exact g_iret (v := ((sP v) (Int32.toNatClampNeg p1))) C E dX4_blockOf_137 (Nat.le_of_ble_eq_true rfl) (Nat.le_of_ble_eq_true rfl) ⟨rfl, rfl⟩
  refine g_split hf (fun e hf => ?_) (fun n6_8 hf => ?_)
  · refine g_tsw (pc := 6) (tgt := 138) C dX4_blockOf_6 e (by decide) (by decide) rfl (by decide) ?_
    refine g_aload_n (pc := 138) (x := rG) C dX4_blockOf_138 rfl ?_
    refine g_getf (pc := 139) C 0 rfl rfl inX4_blockOf_X4 0 (by decide) lkX4_blockOf_12 rfl rfl dX4_blockOf_139 ?_
    refine g_getf (pc := 142) C 1 rfl rfl inX4_blockOf_X3 6 (by decide) lkX4_blockOf_204 rfl rfl dX4_blockOf_142 ?_
    refine g_iload_n (pc := 145) (x := p1) C dX4_blockOf_145 rfl ?_
    refine g_iald (pc := 146) (i := p1) hf C 8 rfl dX4_blockOf_146 (fun hf => ?_)
    obtain rfl := Option.some.inj hf
    exact g_iret (v := ((sT v) (Int32.toNatClampNeg p1))) C E dX4_blockOf_147 (Nat.le_of_ble_eq_true rfl) (Nat.le_of_ble_eq_true rfl) ⟨rfl, rfl⟩
  refine g_tswd (pc := 6) (x := p2) (tgt := 148) C dX4_blockOf_6 (by have e6_0 : (p2).toInt ≠ 0 := fun h => n6_0 (Int32.toInt_inj.mp (h.trans (by decide))); have e6_1 : (p2).toInt ≠ 1 := fun h => n6_1 (Int32.toInt_inj.mp (h.trans (by decide))); have e6_2 : (p2).toInt ≠ 2 := fun h => n6_2 (Int32.toInt_inj.mp (h.trans (by decide))); have e6_3 : (p2).toInt ≠ 3 := fun h => n6_3 (Int32.toInt_inj.mp (h.trans (by decide))); have e6_4 : (p2).toInt ≠ 4 := fun h => n6_4 (Int32.toInt_inj.mp (h.trans (by decide))); have e6_5 : (p2).toInt ≠ 5 := fun h => n6_5 (Int32.toInt_inj.mp (h.trans (by decide))); have e6_6 : (p2).toInt ≠ 6 := fun h => n6_6 (Int32.toInt_inj.mp (h.trans (by decide))); have e6_7 : (p2).toInt ≠ 7 := fun h => n6_7 (Int32.toInt_inj.mp (h.trans (by decide))); have e6_8 : (p2).toInt ≠ 8 := fun h => n6_8 (Int32.toInt_inj.mp (h.trans (by decide))); omega) (by decide) ?_
  cases hf
set_option maxRecDepth 100000 in
set_option maxHeartbeats 4000000 in
theorem cX4_blockOf_ (l : Launch) (htr : l.stackTraces = false) (D : va_G) (N : Nat) (rG : Nat) (rV : Nat) (rN : Nat) (rT : Nat) (aS : Nat → Nat) (v : VS) (p1 : Int32) (p2 : Int32) (r : Int32) (hf : fX4_blockOf N v p1 p2 = some r) : Tc l D yX4_blockOf wsX4_blockOf rmX4_blockOf [.ref rG, .int p1, .int p2] (wG D rG (aS 0) rV rN rT ++ (wS D aS v)) (fun rv w => rv = some (.int r) ∧ w = (wG D rG (aS 0) rV rN rT ++ (wS D aS v))) (fun _ _ => False) 0 0 := Tc_of htr (by decide +kernel) rfl (Nat.le_of_ble_eq_true rfl) (fun k C E hl hD => by subst hD; exact wkX4_blockOf C N rG rV rN rT aS v p1 p2 r hf E)
abbrev rmX4_stackOf : Room := { frames := 4, cells := 0, slots := 0, locals := 92 }
theorem inX4_stackOf_X4 : ∀ w ∈ wsX40, w ∈ wsX4_stackOf := by decide +kernel
theorem lkX4_stackOf_12 : Cond.fieldLink RX4 12 "GaugeBlocks" (TX4 0).2.1 (TX4 0).2.2.1 ∈ wsX4_stackOf := by decide +kernel
theorem hdX4_stackOf : yX4_stackOf.cls = RX4 ∧ yX4_stackOf.cls ≠ "java/lang/invoke/MethodHandle" ∧ yX4_stackOf.cls ≠ "java/lang/invoke/VarHandle" ∧ (parseMethodDescriptor yX4_stackOf.desc).map (fun d => d.parameters.length) = some 2 := by decide +kernel
def fX4_stackOf (N : Nat) (v : VS) (p1 : Int32) (p2 : Int32) : Option (Int32) := ((fX4_checkStack N p1).bind fun r1 => (if p2 = 0 then ((fX3_heightOf N v p1).bind fun r2 => some r2) else (if p2 = 1 then ((fX3_blocksIn N v p1).bind fun r3 => ((fX3_nominalOfSet N v r3).bind fun r4 => some r4)) else (if p2 = 2 then ((fX3_trueLengthOfStack N v p1 0).bind fun r5 => some r5) else (if p2 = 3 then ((fX3_blocksIn N v p1).bind fun r6 => some r6) else (if p2 = 4 then ((fX3_heightOf N v p1).bind fun r7 => ((fX3_blockAt N v p1 (r7 - 1)).bind fun r8 => some r8)) else (if p2 = 5 then ((fX3_greatestGradeIn N v p1).bind fun r9 => some r9) else (if p2 = 6 then ((fX3_sizeOfDifference N v p1).bind fun r10 => some r10) else none))))))))
set_option maxRecDepth 100000 in
set_option maxHeartbeats 4000000 in
theorem wkX4_stackOf {k : Kt} (C : gC k cX4_stackOf 3 RX4 wsX4_stackOf rmX4_stackOf "stackOf") (N : Nat) (rG : Nat) (rV : Nat) (rN : Nat) (rT : Nat) (aS : Nat → Nat) (v : VS) (p1 : Int32) (p2 : Int32) (r : Int32) (hf : fX4_stackOf N v p1 p2 = some r) (E : gE k (wG (kD k) rG (aS 0) rV rN rT ++ (wS (kD k) aS v)) (fun rv w => rv = some (.int r) ∧ w = (wG (kD k) rG (aS 0) rV rN rT ++ (wS (kD k) aS v))) (fun _ _ => False) 0 0 (some .int) []) : gG k (wG (kD k) rG (aS 0) rV rN rT ++ (wS (kD k) aS v)) [(0, .ref rG), (1, .int p1), (2, .int p2)] 0 0 0 [] := by
  unfold fX4_stackOf at hf
  refine g_iload_n (pc := 0) (x := p1) C dX4_stackOf_0 rfl ?_
  refine g_callR (pc' := 4) (cs' := 0) (sl' := 0) hf C (fun u => none) (fun u hu => gr_S (rest := []) C (cX4_checkStack_ (kL k) C.tr (kD k) N p1 u hu) (fun ht => va_cwS 1 ht gX4_stackOf_X4_checkStack rfl rfl rfl hsX4_checkStack ⟨(Nat.le_of_ble_eq_true rfl), (Nat.le_of_ble_eq_true rfl)⟩) [] rfl (by decide) rfl rfl (Nat.le_of_ble_eq_true rfl) dX4_stackOf_1 ⟨(Nat.le_of_ble_eq_true rfl), (Nat.le_of_ble_eq_true rfl)⟩) [] rfl rfl rfl rfl (fun u => []) (fun u => rfl) (fun r1 hf => ?_)
  refine g_iload_n (pc := 4) (x := p2) C dX4_stackOf_4 rfl ?_
  refine g_split hf (fun e hf => ?_) (fun n5_0 hf => ?_)
  · refine g_tsw (pc := 5) (tgt := 48) C dX4_stackOf_5 e (by decide) (by decide) rfl (by decide) ?_
    refine g_aload_n (pc := 48) (x := rG) C dX4_stackOf_48 rfl ?_
    refine g_getf (pc := 49) C 0 rfl rfl inX4_stackOf_X4 0 (by decide) lkX4_stackOf_12 rfl rfl dX4_stackOf_49 ?_
    refine g_iload_n (pc := 52) (x := p1) C dX4_stackOf_52 rfl ?_
    refine g_callR (pc' := 56) (cs' := 0) (sl' := 0) hf C (fun u => some (.int u)) (fun u hu => gr_V (rest := []) C (cX3_heightOf_ (kL k) C.tr (kD k) N aS v p1 u hu) (fun ht => cwV 1 ht gX4_stackOf_X3_heightOf rfl rfl rfl hdX3_heightOf ⟨(Nat.le_of_ble_eq_true rfl), (Nat.le_of_ble_eq_true rfl)⟩) 1 rfl rfl [1, 2, 3, 4, 5, 6, 7, 8, 9] rfl (by decide) rfl rfl (Nat.le_of_ble_eq_true rfl) dX4_stackOf_53 ⟨(Nat.le_of_ble_eq_true rfl), (Nat.le_of_ble_eq_true rfl)⟩) [1, 2, 3, 4, 5, 6, 7, 8, 9] rfl rfl rfl rfl (fun u => [.int u]) (fun u => rfl) (fun r2 hf => ?_)
    obtain rfl := Option.some.inj hf
    exact g_iret (v := r2) C E dX4_stackOf_56 (Nat.le_of_ble_eq_true rfl) (Nat.le_of_ble_eq_true rfl) ⟨rfl, rfl⟩
  refine g_split hf (fun e hf => ?_) (fun n5_1 hf => ?_)
  · refine g_tsw (pc := 5) (tgt := 57) C dX4_stackOf_5 e (by decide) (by decide) rfl (by decide) ?_
    refine g_aload_n (pc := 57) (x := rG) C dX4_stackOf_57 rfl ?_
    refine g_getf (pc := 58) C 0 rfl rfl inX4_stackOf_X4 0 (by decide) lkX4_stackOf_12 rfl rfl dX4_stackOf_58 ?_
    refine g_aload_n (pc := 61) (x := rG) C dX4_stackOf_61 rfl ?_
    refine g_getf (pc := 62) C 0 rfl rfl inX4_stackOf_X4 0 (by decide) lkX4_stackOf_12 rfl rfl dX4_stackOf_62 ?_
    refine g_iload_n (pc := 65) (x := p1) C dX4_stackOf_65 rfl ?_
    refine g_callR (pc' := 69) (cs' := 0) (sl' := 0) hf C (fun u => some (.int u)) (fun u hu => gr_V (rest := [.ref (aS 0)]) C (cX3_blocksIn_ (kL k) C.tr (kD k) N aS v p1 u hu) (fun ht => cwV 1 ht gX4_stackOf_X3_blocksIn rfl rfl rfl hdX3_blocksIn ⟨(Nat.le_of_ble_eq_true rfl), (Nat.le_of_ble_eq_true rfl)⟩) 1 rfl rfl [1, 2, 3, 4, 5, 6, 7, 8, 9] rfl (by decide) rfl rfl (Nat.le_of_ble_eq_true rfl) dX4_stackOf_66 ⟨(Nat.le_of_ble_eq_true rfl), (Nat.le_of_ble_eq_true rfl)⟩) [1, 2, 3, 4, 5, 6, 7, 8, 9] rfl rfl rfl rfl (fun u => [.int u, .ref (aS 0)]) (fun u => rfl) (fun r3 hf => ?_)
    refine g_callR (pc' := 72) (cs' := 0) (sl' := 0) hf C (fun u => some (.int u)) (fun u hu => gr_V (rest := []) C (cX3_nominalOfSet_ (kL k) C.tr (kD k) N aS v r3 u hu) (fun ht => cwV 1 ht gX4_stackOf_X3_nominalOfSet rfl rfl rfl hdX3_nominalOfSet ⟨(Nat.le_of_ble_eq_true rfl), (Nat.le_of_ble_eq_true rfl)⟩) 1 rfl rfl [1, 2, 3, 4, 5, 6, 7, 8, 9] rfl (by decide) rfl rfl (Nat.le_of_ble_eq_true rfl) dX4_stackOf_69 ⟨(Nat.le_of_ble_eq_true rfl), (Nat.le_of_ble_eq_true rfl)⟩) [1, 2, 3, 4, 5, 6, 7, 8, 9] rfl rfl rfl rfl (fun u => [.int u]) (fun u => rfl) (fun r4 hf => ?_)
    obtain rfl := Option.some.inj hf
    exact g_iret (v := r4) C E dX4_stackOf_72 (Nat.le_of_ble_eq_true rfl) (Nat.le_of_ble_eq_true rfl) ⟨rfl, rfl⟩
  refine g_split hf (fun e hf => ?_) (fun n5_2 hf => ?_)
  · refine g_tsw (pc := 5) (tgt := 73) C dX4_stackOf_5 e (by decide) (by decide) rfl (by decide) ?_
    refine g_aload_n (pc := 73) (x := rG) C dX4_stackOf_73 rfl ?_
    refine g_getf (pc := 74) C 0 rfl rfl inX4_stackOf_X4 0 (by decide) lkX4_stackOf_12 rfl rfl dX4_stackOf_74 ?_
    refine g_iload_n (pc := 77) (x := p1) C dX4_stackOf_77 rfl ?_
    refine g_iconst (pc := 78) (v := 0) C dX4_stackOf_78 (by decide) ?_
    refine g_callR (pc' := 82) (cs' := 0) (sl' := 0) hf C (fun u => some (.int u)) (fun u hu => gr_V (rest := []) C (cX3_trueLengthOfStack_ (kL k) C.tr (kD k) N aS v p1 0 u hu) (fun ht => cwV 2 ht gX4_stackOf_X3_trueLengthOfStack rfl rfl rfl hdX3_trueLengthOfStack ⟨(Nat.le_of_ble_eq_true rfl), (Nat.le_of_ble_eq_true rfl)⟩) 1 rfl rfl [1, 2, 3, 4, 5, 6, 7, 8, 9] rfl (by decide) rfl rfl (Nat.le_of_ble_eq_true rfl) dX4_stackOf_79 ⟨(Nat.le_of_ble_eq_true rfl), (Nat.le_of_ble_eq_true rfl)⟩) [1, 2, 3, 4, 5, 6, 7, 8, 9] rfl rfl rfl rfl (fun u => [.int u]) (fun u => rfl) (fun r5 hf => ?_)
    obtain rfl := Option.some.inj hf
    exact g_iret (v := r5) C E dX4_stackOf_82 (Nat.le_of_ble_eq_true rfl) (Nat.le_of_ble_eq_true rfl) ⟨rfl, rfl⟩
  refine g_split hf (fun e hf => ?_) (fun n5_3 hf => ?_)
  · refine g_tsw (pc := 5) (tgt := 83) C dX4_stackOf_5 e (by decide) (by decide) rfl (by decide) ?_
    refine g_aload_n (pc := 83) (x := rG) C dX4_stackOf_83 rfl ?_
    refine g_getf (pc := 84) C 0 rfl rfl inX4_stackOf_X4 0 (by decide) lkX4_stackOf_12 rfl rfl dX4_stackOf_84 ?_
    refine g_iload_n (pc := 87) (x := p1) C dX4_stackOf_87 rfl ?_
    refine g_callR (pc' := 91) (cs' := 0) (sl' := 0) hf C (fun u => some (.int u)) (fun u hu => gr_V (rest := []) C (cX3_blocksIn_ (kL k) C.tr (kD k) N aS v p1 u hu) (fun ht => cwV 1 ht gX4_stackOf_X3_blocksIn rfl rfl rfl hdX3_blocksIn ⟨(Nat.le_of_ble_eq_true rfl), (Nat.le_of_ble_eq_true rfl)⟩) 1 rfl rfl [1, 2, 3, 4, 5, 6, 7, 8, 9] rfl (by decide) rfl rfl (Nat.le_of_ble_eq_true rfl) dX4_stackOf_88 ⟨(Nat.le_of_ble_eq_true rfl), (Nat.le_of_ble_eq_true rfl)⟩) [1, 2, 3, 4, 5, 6, 7, 8, 9] rfl rfl rfl rfl (fun u => [.int u]) (fun u => rfl) (fun r6 hf => ?_)
    obtain rfl := Option.some.inj hf
    exact g_iret (v := r6) C E dX4_stackOf_91 (Nat.le_of_ble_eq_true rfl) (Nat.le_of_ble_eq_true rfl) ⟨rfl, rfl⟩
  refine g_split hf (fun e hf => ?_) (fun n5_4 hf => ?_)
  · refine g_tsw (pc := 5) (tgt := 92) C dX4_stackOf_5 e (by decide) (by decide) rfl (by decide) ?_
    refine g_aload_n (pc := 92) (x := rG) C dX4_stackOf_92 rfl ?_
    refine g_getf (pc := 93) C 0 rfl rfl inX4_stackOf_X4 0 (by decide) lkX4_stackOf_12 rfl rfl dX4_stackOf_93 ?_
    refine g_iload_n (pc := 96) (x := p1) C dX4_stackOf_96 rfl ?_
    refine g_aload_n (pc := 97) (x := rG) C dX4_stackOf_97 rfl ?_
    refine g_getf (pc := 98) C 0 rfl rfl inX4_stackOf_X4 0 (by decide) lkX4_stackOf_12 rfl rfl dX4_stackOf_98 ?_
    refine g_iload_n (pc := 101) (x := p1) C dX4_stackOf_101 rfl ?_
    refine g_callR (pc' := 105) (cs' := 0) (sl' := 0) hf C (fun u => some (.int u)) (fun u hu => gr_V (rest := [.int p1, .ref (aS 0)]) C (cX3_heightOf_ (kL k) C.tr (kD k) N aS v p1 u hu) (fun ht => cwV 1 ht gX4_stackOf_X3_heightOf rfl rfl rfl hdX3_heightOf ⟨(Nat.le_of_ble_eq_true rfl), (Nat.le_of_ble_eq_true rfl)⟩) 1 rfl rfl [1, 2, 3, 4, 5, 6, 7, 8, 9] rfl (by decide) rfl rfl (Nat.le_of_ble_eq_true rfl) dX4_stackOf_102 ⟨(Nat.le_of_ble_eq_true rfl), (Nat.le_of_ble_eq_true rfl)⟩) [1, 2, 3, 4, 5, 6, 7, 8, 9] rfl rfl rfl rfl (fun u => [.int u, .int p1, .ref (aS 0)]) (fun u => rfl) (fun r7 hf => ?_)
    refine g_iconst (pc := 105) (v := 1) C dX4_stackOf_105 (by decide) ?_
    refine g_isub (pc := 106) (x := r7) (y := 1) C dX4_stackOf_106 ?_
    refine g_callR (pc' := 110) (cs' := 0) (sl' := 0) hf C (fun u => some (.int u)) (fun u hu => gr_V (rest := []) C (cX3_blockAt_ (kL k) C.tr (kD k) N aS v p1 (r7 - 1) u hu) (fun ht => cwV 2 ht gX4_stackOf_X3_blockAt rfl rfl rfl hdX3_blockAt ⟨(Nat.le_of_ble_eq_true rfl), (Nat.le_of_ble_eq_true rfl)⟩) 1 rfl rfl [1, 2, 3, 4, 5, 6, 7, 8, 9] rfl (by decide) rfl rfl (Nat.le_of_ble_eq_true rfl) dX4_stackOf_107 ⟨(Nat.le_of_ble_eq_true rfl), (Nat.le_of_ble_eq_true rfl)⟩) [1, 2, 3, 4, 5, 6, 7, 8, 9] rfl rfl rfl rfl (fun u => [.int u]) (fun u => rfl) (fun r8 hf => ?_)
    obtain rfl := Option.some.inj hf
    exact g_iret (v := r8) C E dX4_stackOf_110 (Nat.le_of_ble_eq_true rfl) (Nat.le_of_ble_eq_true rfl) ⟨rfl, rfl⟩
  refine g_split hf (fun e hf => ?_) (fun n5_5 hf => ?_)
  · refine g_tsw (pc := 5) (tgt := 111) C dX4_stackOf_5 e (by decide) (by decide) rfl (by decide) ?_
    refine g_aload_n (pc := 111) (x := rG) C dX4_stackOf_111 rfl ?_
    refine g_getf (pc := 112) C 0 rfl rfl inX4_stackOf_X4 0 (by decide) lkX4_stackOf_12 rfl rfl dX4_stackOf_112 ?_
    refine g_iload_n (pc := 115) (x := p1) C dX4_stackOf_115 rfl ?_
    refine g_callR (pc' := 119) (cs' := 0) (sl' := 0) hf C (fun u => some (.int u)) (fun u hu => gr_V (rest := []) C (cX3_greatestGradeIn_ (kL k) C.tr (kD k) N aS v p1 u hu) (fun ht => cwV 1 ht gX4_stackOf_X3_greatestGradeIn rfl rfl rfl hdX3_greatestGradeIn ⟨(Nat.le_of_ble_eq_true rfl), (Nat.le_of_ble_eq_true rfl)⟩) 1 rfl rfl [1, 2, 3, 4, 5, 6, 7, 8, 9] rfl (by decide) rfl rfl (Nat.le_of_ble_eq_true rfl) dX4_stackOf_116 ⟨(Nat.le_of_ble_eq_true rfl), (Nat.le_of_ble_eq_true rfl)⟩) [1, 2, 3, 4, 5, 6, 7, 8, 9] rfl rfl rfl rfl (fun u => [.int u]) (fun u => rfl) (fun r9 hf => ?_)
    obtain rfl := Option.some.inj hf
    exact g_iret (v := r9) C E dX4_stackOf_119 (Nat.le_of_ble_eq_true rfl) (Nat.le_of_ble_eq_true rfl) ⟨rfl, rfl⟩
  refine g_split hf (fun e hf => ?_) (fun n5_6 hf => ?_)
  · refine g_tsw (pc := 5) (tgt := 120) C dX4_stackOf_5 e (by decide) (by decide) rfl (by decide) ?_
    refine g_aload_n (pc := 120) (x := rG) C dX4_stackOf_120 rfl ?_
    refine g_getf (pc := 121) C 0 rfl rfl inX4_stackOf_X4 0 (by decide) lkX4_stackOf_12 rfl rfl dX4_stackOf_121 ?_
    refine g_iload_n (pc := 124) (x := p1) C dX4_stackOf_124 rfl ?_
    refine g_callR (pc' := 128) (cs' := 0) (sl' := 0) hf C (fun u => some (.int u)) (fun u hu => gr_V (rest := []) C (cX3_sizeOfDifference_ (kL k) C.tr (kD k) N aS v p1 u hu) (fun ht => cwV 1 ht gX4_stackOf_X3_sizeOfDifference rfl rfl rfl hdX3_sizeOfDifference ⟨(Nat.le_of_ble_eq_true rfl), (Nat.le_of_ble_eq_true rfl)⟩) 1 rfl rfl [1, 2, 3, 4, 5, 6, 7, 8, 9] rfl (by decide) rfl rfl (Nat.le_of_ble_eq_true rfl) dX4_stackOf_125 ⟨(Nat.le_of_ble_eq_true rfl), (Nat.le_of_ble_eq_true rfl)⟩) [1, 2, 3, 4, 5, 6, 7, 8, 9] rfl rfl rfl rfl (fun u => [.int u]) (fun u => rfl) (fun r10 hf => ?_)
    obtain rfl := Option.some.inj hf
    exact g_iret (v := r10) C E dX4_stackOf_128 (Nat.le_of_ble_eq_true rfl) (Nat.le_of_ble_eq_true rfl) ⟨rfl, rfl⟩
  refine g_tswd (pc := 5) (x := p2) (tgt := 129) C dX4_stackOf_5 (by have e5_0 : (p2).toInt ≠ 0 := fun h => n5_0 (Int32.toInt_inj.mp (h.trans (by decide))); have e5_1 : (p2).toInt ≠ 1 := fun h => n5_1 (Int32.toInt_inj.mp (h.trans (by decide))); have e5_2 : (p2).toInt ≠ 2 := fun h => n5_2 (Int32.toInt_inj.mp (h.trans (by decide))); have e5_3 : (p2).toInt ≠ 3 := fun h => n5_3 (Int32.toInt_inj.mp (h.trans (by decide))); have e5_4 : (p2).toInt ≠ 4 := fun h => n5_4 (Int32.toInt_inj.mp (h.trans (by decide))); have e5_5 : (p2).toInt ≠ 5 := fun h => n5_5 (Int32.toInt_inj.mp (h.trans (by decide))); have e5_6 : (p2).toInt ≠ 6 := fun h => n5_6 (Int32.toInt_inj.mp (h.trans (by decide))); omega) (by decide) ?_
  cases hf
set_option maxRecDepth 100000 in
set_option maxHeartbeats 4000000 in
theorem cX4_stackOf_ (l : Launch) (htr : l.stackTraces = false) (D : va_G) (N : Nat) (rG : Nat) (rV : Nat) (rN : Nat) (rT : Nat) (aS : Nat → Nat) (v : VS) (p1 : Int32) (p2 : Int32) (r : Int32) (hf : fX4_stackOf N v p1 p2 = some r) : Tc l D yX4_stackOf wsX4_stackOf rmX4_stackOf [.ref rG, .int p1, .int p2] (wG D rG (aS 0) rV rN rT ++ (wS D aS v)) (fun rv w => rv = some (.int r) ∧ w = (wG D rG (aS 0) rV rN rT ++ (wS D aS v))) (fun _ _ => False) 0 0 := Tc_of htr (by decide +kernel) rfl (Nat.le_of_ble_eq_true rfl) (fun k C E hl hD => by subst hD; exact wkX4_stackOf C N rG rV rN rT aS v p1 p2 r hf E)
abbrev rmX4_checkLeast : Room := { frames := 0, cells := 0, slots := 0, locals := 0 }
theorem hsX4_checkLeast : yX4_checkLeast.cls ≠ "java/lang/invoke/MethodHandle" ∧ yX4_checkLeast.cls ≠ "java/lang/invoke/VarHandle" ∧ (parseMethodDescriptor yX4_checkLeast.desc).map (fun d => d.parameters.length) = some 2 := by decide +kernel
def fX4_checkLeast (N : Nat) (p0 : Int32) (p1 : Int32) : Option (Unit) := (if p1 ≤ p0 then some () else none)
set_option maxRecDepth 100000 in
set_option maxHeartbeats 4000000 in
theorem wkX4_checkLeast {k : Kt} (C : gC k cX4_checkLeast 2 RX4 wsX4_checkLeast rmX4_checkLeast "checkLeast") (N : Nat) (p0 : Int32) (p1 : Int32) (r : Unit) (hf : fX4_checkLeast N p0 p1 = some r) (E : gE k [] (fun rv w => rv = none ∧ w = []) (fun _ _ => False) 0 0 none []) : gG k [] [(0, .int p0), (1, .int p1)] 0 0 0 [] := by
  unfold fX4_checkLeast at hf
  refine g_iload_n (pc := 0) (x := p0) C dX4_checkLeast_0 rfl ?_
  refine g_iload_n (pc := 1) (x := p1) C dX4_checkLeast_1 rfl ?_
  refine g_icmp_ge (pc := 2) (tgt := 16) (x := p0) (y := p1) hf C dX4_checkLeast_2 (by decide) (fun hf => ?_) (fun hf => ?_)
  · obtain rfl := Option.some.inj hf
    exact g_vret C E dX4_checkLeast_16 (Nat.le_of_ble_eq_true rfl) (Nat.le_of_ble_eq_true rfl) ⟨rfl, rfl⟩
  · cases hf
set_option maxRecDepth 100000 in
set_option maxHeartbeats 4000000 in
theorem cX4_checkLeast_ (l : Launch) (htr : l.stackTraces = false) (D : va_G) (N : Nat) (p0 : Int32) (p1 : Int32) (r : Unit) (hf : fX4_checkLeast N p0 p1 = some r) : Tc l D yX4_checkLeast wsX4_checkLeast rmX4_checkLeast [.int p0, .int p1] [] (fun rv w => rv = none ∧ w = []) (fun _ _ => False) 0 0 := Tc_of htr (by decide +kernel) rfl (Nat.le_of_ble_eq_true rfl) (fun k C E hl hD => by subst hD; exact wkX4_checkLeast C N p0 p1 r hf E)
abbrev rmX4_ranked : Room := { frames := 5, cells := 0, slots := 0, locals := 112 }
theorem inX4_ranked_X4 : ∀ w ∈ wsX40, w ∈ wsX4_ranked := by decide +kernel
theorem lkX4_ranked_12 : Cond.fieldLink RX4 12 "GaugeBlocks" (TX4 0).2.1 (TX4 0).2.2.1 ∈ wsX4_ranked := by decide +kernel
theorem hdX4_ranked : yX4_ranked.cls = RX4 ∧ yX4_ranked.cls ≠ "java/lang/invoke/MethodHandle" ∧ yX4_ranked.cls ≠ "java/lang/invoke/VarHandle" ∧ (parseMethodDescriptor yX4_ranked.desc).map (fun d => d.parameters.length) = some 2 := by decide +kernel
def fX4_ranked (N : Nat) (v : VS) (p1 : Int32) (p2 : Int32) : Option (Int32) := ((fX4_checkRange N p1 0 2).bind fun r1 => ((fX4_checkLeast N p2 0).bind fun r2 => ((fX0_blockOfRank N v p1 p2).bind fun r3 => some r3)))
set_option maxRecDepth 100000 in
set_option maxHeartbeats 4000000 in
theorem wkX4_ranked {k : Kt} (C : gC k cX4_ranked 3 RX4 wsX4_ranked rmX4_ranked "ranked") (N : Nat) (rG : Nat) (rV : Nat) (rN : Nat) (rT : Nat) (aS : Nat → Nat) (v : VS) (p1 : Int32) (p2 : Int32) (r : Int32) (hf : fX4_ranked N v p1 p2 = some r) (E : gE k (wG (kD k) rG (aS 0) rV rN rT ++ (wS (kD k) aS v)) (fun rv w => rv = some (.int r) ∧ w = (wG (kD k) rG (aS 0) rV rN rT ++ (wS (kD k) aS v))) (fun _ _ => False) 0 0 (some .int) []) : gG k (wG (kD k) rG (aS 0) rV rN rT ++ (wS (kD k) aS v)) [(0, .ref rG), (1, .int p1), (2, .int p2)] 0 0 0 [] := by
  unfold fX4_ranked at hf
  refine g_iload_n (pc := 0) (x := p1) C dX4_ranked_0 rfl ?_
  refine g_iconst (pc := 1) (v := 0) C dX4_ranked_1 (by decide) ?_
  refine g_iconst (pc := 2) (v := 2) C dX4_ranked_2 (by decide) ?_
  refine g_callR (pc' := 6) (cs' := 0) (sl' := 0) hf C (fun u => none) (fun u hu => gr_S (rest := []) C (cX4_checkRange_ (kL k) C.tr (kD k) N p1 0 2 u hu) (fun ht => va_cwS 3 ht gX4_ranked_X4_checkRange rfl rfl rfl hsX4_checkRange ⟨(Nat.le_of_ble_eq_true rfl), (Nat.le_of_ble_eq_true rfl)⟩) [] rfl (by decide) rfl rfl (Nat.le_of_ble_eq_true rfl) dX4_ranked_3 ⟨(Nat.le_of_ble_eq_true rfl), (Nat.le_of_ble_eq_true rfl)⟩) [] rfl rfl rfl rfl (fun u => []) (fun u => rfl) (fun r1 hf => ?_)
  refine g_iload_n (pc := 6) (x := p2) C dX4_ranked_6 rfl ?_
  refine g_iconst (pc := 7) (v := 0) C dX4_ranked_7 (by decide) ?_
  refine g_callR (pc' := 11) (cs' := 0) (sl' := 0) hf C (fun u => none) (fun u hu => gr_S (rest := []) C (cX4_checkLeast_ (kL k) C.tr (kD k) N p2 0 u hu) (fun ht => va_cwS 2 ht gX4_ranked_X4_checkLeast rfl rfl rfl hsX4_checkLeast ⟨(Nat.le_of_ble_eq_true rfl), (Nat.le_of_ble_eq_true rfl)⟩) [] rfl (by decide) rfl rfl (Nat.le_of_ble_eq_true rfl) dX4_ranked_8 ⟨(Nat.le_of_ble_eq_true rfl), (Nat.le_of_ble_eq_true rfl)⟩) [] rfl rfl rfl rfl (fun u => []) (fun u => rfl) (fun r2 hf => ?_)
  refine g_aload_n (pc := 11) (x := rG) C dX4_ranked_11 rfl ?_
  refine g_getf (pc := 12) C 0 rfl rfl inX4_ranked_X4 0 (by decide) lkX4_ranked_12 rfl rfl dX4_ranked_12 ?_
  refine g_iload_n (pc := 15) (x := p1) C dX4_ranked_15 rfl ?_
  refine g_iload_n (pc := 16) (x := p2) C dX4_ranked_16 rfl ?_
  refine g_callR (pc' := 20) (cs' := 0) (sl' := 0) hf C (fun u => some (.int u)) (fun u hu => gr_S (rest := []) C (cX0_blockOfRank_ (kL k) C.tr (kD k) N aS v p1 p2 u hu) (fun ht => va_cwS 3 ht gX4_ranked_X0_blockOfRank rfl rfl rfl hsX0_blockOfRank ⟨(Nat.le_of_ble_eq_true rfl), (Nat.le_of_ble_eq_true rfl)⟩) [1, 2, 3, 4, 5, 6, 7, 8, 9] rfl (by decide) rfl rfl (Nat.le_of_ble_eq_true rfl) dX4_ranked_17 ⟨(Nat.le_of_ble_eq_true rfl), (Nat.le_of_ble_eq_true rfl)⟩) [1, 2, 3, 4, 5, 6, 7, 8, 9] rfl rfl rfl rfl (fun u => [.int u]) (fun u => rfl) (fun r3 hf => ?_)
  obtain rfl := Option.some.inj hf
  exact g_iret (v := r3) C E dX4_ranked_20 (Nat.le_of_ble_eq_true rfl) (Nat.le_of_ble_eq_true rfl) ⟨rfl, rfl⟩
set_option maxRecDepth 100000 in
set_option maxHeartbeats 4000000 in
theorem cX4_ranked_ (l : Launch) (htr : l.stackTraces = false) (D : va_G) (N : Nat) (rG : Nat) (rV : Nat) (rN : Nat) (rT : Nat) (aS : Nat → Nat) (v : VS) (p1 : Int32) (p2 : Int32) (r : Int32) (hf : fX4_ranked N v p1 p2 = some r) : Tc l D yX4_ranked wsX4_ranked rmX4_ranked [.ref rG, .int p1, .int p2] (wG D rG (aS 0) rV rN rT ++ (wS D aS v)) (fun rv w => rv = some (.int r) ∧ w = (wG D rG (aS 0) rV rN rT ++ (wS D aS v))) (fun _ _ => False) 0 0 := Tc_of htr (by decide +kernel) rfl (Nat.le_of_ble_eq_true rfl) (fun k C E hl hD => by subst hD; exact wkX4_ranked C N rG rV rN rT aS v p1 p2 r hf E)
abbrev rmX4_lengths : Room := { frames := 4, cells := 0, slots := 0, locals := 89 }
theorem inX4_lengths_X4 : ∀ w ∈ wsX40, w ∈ wsX4_lengths := by decide +kernel
theorem lkX4_lengths_12 : Cond.fieldLink RX4 12 "GaugeBlocks" (TX4 0).2.1 (TX4 0).2.2.1 ∈ wsX4_lengths := by decide +kernel
theorem hdX4_lengths : yX4_lengths.cls = RX4 ∧ yX4_lengths.cls ≠ "java/lang/invoke/MethodHandle" ∧ yX4_lengths.cls ≠ "java/lang/invoke/VarHandle" ∧ (parseMethodDescriptor yX4_lengths.desc).map (fun d => d.parameters.length) = some 1 := by decide +kernel
def fX4_lengths (N : Nat) (v : VS) (p1 : Int32) : Option (Int32) := ((fX4_checkLeast N p1 (-1)).bind fun r1 => (if p1 = ((-1) : Int32) then ((fX0_differentLengths N v).bind fun r3 => some r3) else ((fX0_lengthOfRank N v p1).bind fun r2 => some r2)))
set_option maxRecDepth 100000 in
set_option maxHeartbeats 4000000 in
theorem wkX4_lengths {k : Kt} (C : gC k cX4_lengths 2 RX4 wsX4_lengths rmX4_lengths "lengths") (N : Nat) (rG : Nat) (rV : Nat) (rN : Nat) (rT : Nat) (aS : Nat → Nat) (v : VS) (p1 : Int32) (r : Int32) (hf : fX4_lengths N v p1 = some r) (E : gE k (wG (kD k) rG (aS 0) rV rN rT ++ (wS (kD k) aS v)) (fun rv w => rv = some (.int r) ∧ w = (wG (kD k) rG (aS 0) rV rN rT ++ (wS (kD k) aS v))) (fun _ _ => False) 0 0 (some .int) []) : gG k (wG (kD k) rG (aS 0) rV rN rT ++ (wS (kD k) aS v)) [(0, .ref rG), (1, .int p1)] 0 0 0 [] := by
  unfold fX4_lengths at hf
  refine g_iload_n (pc := 0) (x := p1) C dX4_lengths_0 rfl ?_
  refine g_iconst (pc := 1) (v := (-1)) C dX4_lengths_1 (by decide) ?_
  refine g_callR (pc' := 5) (cs' := 0) (sl' := 0) hf C (fun u => none) (fun u hu => gr_S (rest := []) C (cX4_checkLeast_ (kL k) C.tr (kD k) N p1 (-1) u hu) (fun ht => va_cwS 2 ht gX4_lengths_X4_checkLeast rfl rfl rfl hsX4_checkLeast ⟨(Nat.le_of_ble_eq_true rfl), (Nat.le_of_ble_eq_true rfl)⟩) [] rfl (by decide) rfl rfl (Nat.le_of_ble_eq_true rfl) dX4_lengths_2 ⟨(Nat.le_of_ble_eq_true rfl), (Nat.le_of_ble_eq_true rfl)⟩) [] rfl rfl rfl rfl (fun u => []) (fun u => rfl) (fun r1 hf => ?_)
  refine g_iload_n (pc := 5) (x := p1) C dX4_lengths_5 rfl ?_
  refine g_iconst (pc := 6) (v := (-1)) C dX4_lengths_6 (by decide) ?_
  refine g_icmp_ne (pc := 7) (tgt := 20) (x := p1) (y := (-1)) hf C dX4_lengths_7 (by decide) (fun hf => ?_) (fun hf => ?_)
  · refine g_aload_n (pc := 20) (x := rG) C dX4_lengths_20 rfl ?_
    refine g_getf (pc := 21) C 0 rfl rfl inX4_lengths_X4 0 (by decide) lkX4_lengths_12 rfl rfl dX4_lengths_21 ?_
    refine g_iload_n (pc := 24) (x := p1) C dX4_lengths_24 rfl ?_
    refine g_callR (pc' := 28) (cs' := 0) (sl' := 0) hf C (fun u => some (.int u)) (fun u hu => gr_S (rest := []) C (cX0_lengthOfRank_ (kL k) C.tr (kD k) N aS v p1 u hu) (fun ht => va_cwS 2 ht gX4_lengths_X0_lengthOfRank rfl rfl rfl hsX0_lengthOfRank ⟨(Nat.le_of_ble_eq_true rfl), (Nat.le_of_ble_eq_true rfl)⟩) [1, 2, 3, 4, 5, 6, 7, 8, 9] rfl (by decide) rfl rfl (Nat.le_of_ble_eq_true rfl) dX4_lengths_25 ⟨(Nat.le_of_ble_eq_true rfl), (Nat.le_of_ble_eq_true rfl)⟩) [1, 2, 3, 4, 5, 6, 7, 8, 9] rfl rfl rfl rfl (fun u => [.int u]) (fun u => rfl) (fun r2 hf => ?_)
    obtain rfl := Option.some.inj hf
    exact g_iret (v := r2) C E dX4_lengths_28 (Nat.le_of_ble_eq_true rfl) (Nat.le_of_ble_eq_true rfl) ⟨rfl, rfl⟩
  · refine g_aload_n (pc := 10) (x := rG) C dX4_lengths_10 rfl ?_
    refine g_getf (pc := 11) C 0 rfl rfl inX4_lengths_X4 0 (by decide) lkX4_lengths_12 rfl rfl dX4_lengths_11 ?_
    refine g_callR (pc' := 17) (cs' := 0) (sl' := 0) hf C (fun u => some (.int u)) (fun u hu => gr_S (rest := []) C (cX0_differentLengths_ (kL k) C.tr (kD k) N aS v u hu) (fun ht => va_cwS 1 ht gX4_lengths_X0_differentLengths rfl rfl rfl hsX0_differentLengths ⟨(Nat.le_of_ble_eq_true rfl), (Nat.le_of_ble_eq_true rfl)⟩) [1, 2, 3, 4, 5, 6, 7, 8, 9] rfl (by decide) rfl rfl (Nat.le_of_ble_eq_true rfl) dX4_lengths_14 ⟨(Nat.le_of_ble_eq_true rfl), (Nat.le_of_ble_eq_true rfl)⟩) [1, 2, 3, 4, 5, 6, 7, 8, 9] rfl rfl rfl rfl (fun u => [.int u]) (fun u => rfl) (fun r3 hf => ?_)
    refine g_goto (pc := 17) (tgt := 28) C dX4_lengths_17 (by decide) ?_
    obtain rfl := Option.some.inj hf
    exact g_iret (v := r3) C E dX4_lengths_28 (Nat.le_of_ble_eq_true rfl) (Nat.le_of_ble_eq_true rfl) ⟨rfl, rfl⟩
set_option maxRecDepth 100000 in
set_option maxHeartbeats 4000000 in
theorem cX4_lengths_ (l : Launch) (htr : l.stackTraces = false) (D : va_G) (N : Nat) (rG : Nat) (rV : Nat) (rN : Nat) (rT : Nat) (aS : Nat → Nat) (v : VS) (p1 : Int32) (r : Int32) (hf : fX4_lengths N v p1 = some r) : Tc l D yX4_lengths wsX4_lengths rmX4_lengths [.ref rG, .int p1] (wG D rG (aS 0) rV rN rT ++ (wS D aS v)) (fun rv w => rv = some (.int r) ∧ w = (wG D rG (aS 0) rV rN rT ++ (wS D aS v))) (fun _ _ => False) 0 0 := Tc_of htr (by decide +kernel) rfl (Nat.le_of_ble_eq_true rfl) (fun k C E hl hD => by subst hD; exact wkX4_lengths C N rG rV rN rT aS v p1 r hf E)
abbrev rmX4_count : Room := { frames := 4, cells := 0, slots := 0, locals := 87 }
theorem inX4_count_X1 : ∀ w ∈ wsX10, w ∈ wsX4_count := by decide +kernel
theorem inX4_count_X2 : ∀ w ∈ wsX20, w ∈ wsX4_count := by decide +kernel
theorem inX4_count_X3 : ∀ w ∈ wsX30, w ∈ wsX4_count := by decide +kernel
theorem inX4_count_X4 : ∀ w ∈ wsX40, w ∈ wsX4_count := by decide +kernel
theorem lkX4_count_12 : Cond.fieldLink RX4 12 "GaugeBlocks" (TX4 0).2.1 (TX4 0).2.2.1 ∈ wsX4_count := by decide +kernel
theorem lkX4_count_68 : Cond.fieldLink RX4 68 "GaugeBlocks$State" (TX3 8).2.1 (TX3 8).2.2.1 ∈ wsX4_count := by decide +kernel
theorem lkX4_count_243 : Cond.fieldLink RX4 243 "GaugeBlocks$State" (TX3 9).2.1 (TX3 9).2.2.1 ∈ wsX4_count := by decide +kernel
theorem lkX4_count_246 : Cond.fieldLink RX4 246 "GaugeBlocks$State" (TX3 10).2.1 (TX3 10).2.2.1 ∈ wsX4_count := by decide +kernel
theorem lkX4_count_249 : Cond.fieldLink RX4 249 "GaugeBlocks$State" (TX3 11).2.1 (TX3 11).2.2.1 ∈ wsX4_count := by decide +kernel
theorem lkX4_count_255 : Cond.fieldLink RX4 255 "GaugeBlocks$State" (TX3 12).2.1 (TX3 12).2.2.1 ∈ wsX4_count := by decide +kernel
theorem lkX4_count_19 : Cond.fieldLink RX4 19 "GaugeBlocks" (TX4 1).2.1 (TX4 1).2.2.1 ∈ wsX4_count := by decide +kernel
theorem lkX4_count_173 : Cond.fieldLink RX4 173 "GaugeBlocks$SavedStates" (TX2 1).2.1 (TX2 1).2.2.1 ∈ wsX4_count := by decide +kernel
theorem lkX4_count_30 : Cond.fieldLink RX4 30 "GaugeBlocks" (TX4 3).2.1 (TX4 3).2.2.1 ∈ wsX4_count := by decide +kernel
theorem lkX4_count_131 : Cond.fieldLink RX4 131 "GaugeBlocks$OrderText" (TX1 1).2.1 (TX1 1).2.2.1 ∈ wsX4_count := by decide +kernel
theorem hdX4_count : yX4_count.cls = RX4 ∧ yX4_count.cls ≠ "java/lang/invoke/MethodHandle" ∧ yX4_count.cls ≠ "java/lang/invoke/VarHandle" ∧ (parseMethodDescriptor yX4_count.desc).map (fun d => d.parameters.length) = some 1 := by decide +kernel
def fX4_count (N : Nat) (v : VS) (tx : VT) (z : VV) (p1 : Int32) : Option (Int32) := (if p1 = 0 then some (sB v) else (if p1 = 1 then ((fX3_blocksIn N v (-1)).bind fun r1 => some r1) else (if p1 = 2 then some (sM v) else (if p1 = 3 then some (sG v) else (if p1 = 4 then some (sO v) else (if p1 = 5 then ((fX3_wearOfAll N v).bind fun r2 => some r2) else (if p1 = 6 then some (sR v) else (if p1 = 7 then ((fX3_blocksOfGrade N v 3).bind fun r3 => some r3) else (if p1 = 8 then some (vN z) else (if p1 = 9 then some (tL tx) else none))))))))))
set_option maxRecDepth 100000 in
set_option maxHeartbeats 4000000 in
theorem wkX4_count {k : Kt} (C : gC k cX4_count 2 RX4 wsX4_count rmX4_count "count") (N : Nat) (rG : Nat) (rN : Nat) (aS : Nat → Nat) (aT : Nat → Nat) (rV : Nat) (aV : Nat → Nat) (v : VS) (tx : VT) (z : VV) (p1 : Int32) (r : Int32) (hf : fX4_count N v tx z p1 = some r) (E : gE k (wG (kD k) rG (aS 0) rV rN (aT 0) ++ (wS (kD k) aS v ++ (wT (kD k) aT tx ++ (wV (kD k) rV aV z)))) (fun rv w => rv = some (.int r) ∧ w = (wG (kD k) rG (aS 0) rV rN (aT 0) ++ (wS (kD k) aS v ++ (wT (kD k) aT tx ++ (wV (kD k) rV aV z))))) (fun _ _ => False) 0 0 (some .int) []) : gG k (wG (kD k) rG (aS 0) rV rN (aT 0) ++ (wS (kD k) aS v ++ (wT (kD k) aT tx ++ (wV (kD k) rV aV z)))) [(0, .ref rG), (1, .int p1)] 0 0 0 [] := by
  unfold fX4_count at hf
  refine g_iload_n (pc := 0) (x := p1) C dX4_count_0 rfl ?_
  refine g_split hf (fun e hf => ?_) (fun n1_0 hf => ?_)
  · refine g_tsw (pc := 1) (tgt := 56) C dX4_count_1 e (by decide) (by decide) rfl (by decide) ?_
    refine g_aload_n (pc := 56) (x := rG) C dX4_count_56 rfl ?_
    refine g_getf (pc := 57) C 0 rfl rfl inX4_count_X4 0 (by decide) lkX4_count_12 rfl rfl dX4_count_57 ?_
    refine g_getf (pc := 60) C 1 rfl rfl inX4_count_X3 8 (by decide) lkX4_count_68 rfl rfl dX4_count_60 ?_
    obtain rfl := Option.some.inj hf
    exact g_iret (v := (sB v)) C E dX4_count_63 (Nat.le_of_ble_eq_true rfl) (Nat.le_of_ble_eq_true rfl) ⟨rfl, rfl⟩
  refine g_split hf (fun e hf => ?_) (fun n1_1 hf => ?_)
  · refine g_tsw (pc := 1) (tgt := 64) C dX4_count_1 e (by decide) (by decide) rfl (by decide) ?_
    refine g_aload_n (pc := 64) (x := rG) C dX4_count_64 rfl ?_
    refine g_getf (pc := 65) C 0 rfl rfl inX4_count_X4 0 (by decide) lkX4_count_12 rfl rfl dX4_count_65 ?_
    refine g_iconst (pc := 68) (v := (-1)) C dX4_count_68 (by decide) ?_
    refine g_callR (pc' := 72) (cs' := 0) (sl' := 0) hf C (fun u => some (.int u)) (fun u hu => gr_V (rest := []) C (cX3_blocksIn_ (kL k) C.tr (kD k) N aS v (-1) u hu) (fun ht => cwV 1 ht gX4_count_X3_blocksIn rfl rfl rfl hdX3_blocksIn ⟨(Nat.le_of_ble_eq_true rfl), (Nat.le_of_ble_eq_true rfl)⟩) 1 rfl rfl [1, 2, 3, 4, 5, 6, 7, 8, 9] rfl (by decide) rfl rfl (Nat.le_of_ble_eq_true rfl) dX4_count_69 ⟨(Nat.le_of_ble_eq_true rfl), (Nat.le_of_ble_eq_true rfl)⟩) [1, 2, 3, 4, 5, 6, 7, 8, 9] rfl rfl rfl rfl (fun u => [.int u]) (fun u => rfl) (fun r1 hf => ?_)
    obtain rfl := Option.some.inj hf
    exact g_iret (v := r1) C E dX4_count_72 (Nat.le_of_ble_eq_true rfl) (Nat.le_of_ble_eq_true rfl) ⟨rfl, rfl⟩
  refine g_split hf (fun e hf => ?_) (fun n1_2 hf => ?_)
  · refine g_tsw (pc := 1) (tgt := 73) C dX4_count_1 e (by decide) (by decide) rfl (by decide) ?_
    refine g_aload_n (pc := 73) (x := rG) C dX4_count_73 rfl ?_
    refine g_getf (pc := 74) C 0 rfl rfl inX4_count_X4 0 (by decide) lkX4_count_12 rfl rfl dX4_count_74 ?_
    refine g_getf (pc := 77) C 1 rfl rfl inX4_count_X3 9 (by decide) lkX4_count_243 rfl rfl dX4_count_77 ?_
    obtain rfl := Option.some.inj hf
    exact g_iret (v := (sM v)) C E dX4_count_80 (Nat.le_of_ble_eq_true rfl) (Nat.le_of_ble_eq_true rfl) ⟨rfl, rfl⟩
  refine g_split hf (fun e hf => ?_) (fun n1_3 hf => ?_)
  · refine g_tsw (pc := 1) (tgt := 81) C dX4_count_1 e (by decide) (by decide) rfl (by decide) ?_
    refine g_aload_n (pc := 81) (x := rG) C dX4_count_81 rfl ?_
    refine g_getf (pc := 82) C 0 rfl rfl inX4_count_X4 0 (by decide) lkX4_count_12 rfl rfl dX4_count_82 ?_
    refine g_getf (pc := 85) C 1 rfl rfl inX4_count_X3 10 (by decide) lkX4_count_246 rfl rfl dX4_count_85 ?_
    obtain rfl := Option.some.inj hf
    exact g_iret (v := (sG v)) C E dX4_count_88 (Nat.le_of_ble_eq_true rfl) (Nat.le_of_ble_eq_true rfl) ⟨rfl, rfl⟩
  refine g_split hf (fun e hf => ?_) (fun n1_4 hf => ?_)
  · refine g_tsw (pc := 1) (tgt := 89) C dX4_count_1 e (by decide) (by decide) rfl (by decide) ?_
    refine g_aload_n (pc := 89) (x := rG) C dX4_count_89 rfl ?_
    refine g_getf (pc := 90) C 0 rfl rfl inX4_count_X4 0 (by decide) lkX4_count_12 rfl rfl dX4_count_90 ?_
    refine g_getf (pc := 93) C 1 rfl rfl inX4_count_X3 11 (by decide) lkX4_count_249 rfl rfl dX4_count_93 ?_
    obtain rfl := Option.some.inj hf
    exact g_iret (v := (sO v)) C E dX4_count_96 (Nat.le_of_ble_eq_true rfl) (Nat.le_of_ble_eq_true rfl) ⟨rfl, rfl⟩
  refine g_split hf (fun e hf => ?_) (fun n1_5 hf => ?_)
  · refine g_tsw (pc := 1) (tgt := 97) C dX4_count_1 e (by decide) (by decide) rfl (by decide) ?_
    refine g_aload_n (pc := 97) (x := rG) C dX4_count_97 rfl ?_
    refine g_getf (pc := 98) C 0 rfl rfl inX4_count_X4 0 (by decide) lkX4_count_12 rfl rfl dX4_count_98 ?_
    refine g_callR (pc' := 104) (cs' := 0) (sl' := 0) hf C (fun u => some (.int u)) (fun u hu => gr_V (rest := []) C (cX3_wearOfAll_ (kL k) C.tr (kD k) N aS v u hu) (fun ht => cwV 0 ht gX4_count_X3_wearOfAll rfl rfl rfl hdX3_wearOfAll ⟨(Nat.le_of_ble_eq_true rfl), (Nat.le_of_ble_eq_true rfl)⟩) 1 rfl rfl [1, 2, 3, 4, 5, 6, 7, 8, 9] rfl (by decide) rfl rfl (Nat.le_of_ble_eq_true rfl) dX4_count_101 ⟨(Nat.le_of_ble_eq_true rfl), (Nat.le_of_ble_eq_true rfl)⟩) [1, 2, 3, 4, 5, 6, 7, 8, 9] rfl rfl rfl rfl (fun u => [.int u]) (fun u => rfl) (fun r2 hf => ?_)
    obtain rfl := Option.some.inj hf
    exact g_iret (v := r2) C E dX4_count_104 (Nat.le_of_ble_eq_true rfl) (Nat.le_of_ble_eq_true rfl) ⟨rfl, rfl⟩
  refine g_split hf (fun e hf => ?_) (fun n1_6 hf => ?_)
  · refine g_tsw (pc := 1) (tgt := 105) C dX4_count_1 e (by decide) (by decide) rfl (by decide) ?_
    refine g_aload_n (pc := 105) (x := rG) C dX4_count_105 rfl ?_
    refine g_getf (pc := 106) C 0 rfl rfl inX4_count_X4 0 (by decide) lkX4_count_12 rfl rfl dX4_count_106 ?_
    refine g_getf (pc := 109) C 1 rfl rfl inX4_count_X3 12 (by decide) lkX4_count_255 rfl rfl dX4_count_109 ?_
    obtain rfl := Option.some.inj hf
    exact g_iret (v := (sR v)) C E dX4_count_112 (Nat.le_of_ble_eq_true rfl) (Nat.le_of_ble_eq_true rfl) ⟨rfl, rfl⟩
  refine g_split hf (fun e hf => ?_) (fun n1_7 hf => ?_)
  · refine g_tsw (pc := 1) (tgt := 113) C dX4_count_1 e (by decide) (by decide) rfl (by decide) ?_
    refine g_aload_n (pc := 113) (x := rG) C dX4_count_113 rfl ?_
    refine g_getf (pc := 114) C 0 rfl rfl inX4_count_X4 0 (by decide) lkX4_count_12 rfl rfl dX4_count_114 ?_
    refine g_iconst (pc := 117) (v := 3) C dX4_count_117 (by decide) ?_
    refine g_callR (pc' := 121) (cs' := 0) (sl' := 0) hf C (fun u => some (.int u)) (fun u hu => gr_V (rest := []) C (cX3_blocksOfGrade_ (kL k) C.tr (kD k) N aS v 3 u hu) (fun ht => cwV 1 ht gX4_count_X3_blocksOfGrade rfl rfl rfl hdX3_blocksOfGrade ⟨(Nat.le_of_ble_eq_true rfl), (Nat.le_of_ble_eq_true rfl)⟩) 1 rfl rfl [1, 2, 3, 4, 5, 6, 7, 8, 9] rfl (by decide) rfl rfl (Nat.le_of_ble_eq_true rfl) dX4_count_118 ⟨(Nat.le_of_ble_eq_true rfl), (Nat.le_of_ble_eq_true rfl)⟩) [1, 2, 3, 4, 5, 6, 7, 8, 9] rfl rfl rfl rfl (fun u => [.int u]) (fun u => rfl) (fun r3 hf => ?_)
    obtain rfl := Option.some.inj hf
    exact g_iret (v := r3) C E dX4_count_121 (Nat.le_of_ble_eq_true rfl) (Nat.le_of_ble_eq_true rfl) ⟨rfl, rfl⟩
  refine g_split hf (fun e hf => ?_) (fun n1_8 hf => ?_)
  · refine g_tsw (pc := 1) (tgt := 122) C dX4_count_1 e (by decide) (by decide) rfl (by decide) ?_
    refine g_aload_n (pc := 122) (x := rG) C dX4_count_122 rfl ?_
    refine g_getf (pc := 123) C 0 rfl rfl inX4_count_X4 1 (by decide) lkX4_count_19 rfl rfl dX4_count_123 ?_
    refine g_getf (pc := 126) C 12 rfl rfl inX4_count_X2 1 (by decide) lkX4_count_173 rfl rfl dX4_count_126 ?_
    obtain rfl := Option.some.inj hf
    exact g_iret (v := (vN z)) C E dX4_count_129 (Nat.le_of_ble_eq_true rfl) (Nat.le_of_ble_eq_true rfl) ⟨rfl, rfl⟩
  refine g_split hf (fun e hf => ?_) (fun n1_9 hf => ?_)
  · refine g_tsw (pc := 1) (tgt := 130) C dX4_count_1 e (by decide) (by decide) rfl (by decide) ?_
    refine g_aload_n (pc := 130) (x := rG) C dX4_count_130 rfl ?_
    refine g_getf (pc := 131) C 0 rfl rfl inX4_count_X4 3 (by decide) lkX4_count_30 rfl rfl dX4_count_131 ?_
    refine g_getf (pc := 134) C 10 rfl rfl inX4_count_X1 1 (by decide) lkX4_count_131 rfl rfl dX4_count_134 ?_
    obtain rfl := Option.some.inj hf
    exact g_iret (v := (tL tx)) C E dX4_count_137 (Nat.le_of_ble_eq_true rfl) (Nat.le_of_ble_eq_true rfl) ⟨rfl, rfl⟩
  refine g_tswd (pc := 1) (x := p1) (tgt := 138) C dX4_count_1 (by have e1_0 : (p1).toInt ≠ 0 := fun h => n1_0 (Int32.toInt_inj.mp (h.trans (by decide))); have e1_1 : (p1).toInt ≠ 1 := fun h => n1_1 (Int32.toInt_inj.mp (h.trans (by decide))); have e1_2 : (p1).toInt ≠ 2 := fun h => n1_2 (Int32.toInt_inj.mp (h.trans (by decide))); have e1_3 : (p1).toInt ≠ 3 := fun h => n1_3 (Int32.toInt_inj.mp (h.trans (by decide))); have e1_4 : (p1).toInt ≠ 4 := fun h => n1_4 (Int32.toInt_inj.mp (h.trans (by decide))); have e1_5 : (p1).toInt ≠ 5 := fun h => n1_5 (Int32.toInt_inj.mp (h.trans (by decide))); have e1_6 : (p1).toInt ≠ 6 := fun h => n1_6 (Int32.toInt_inj.mp (h.trans (by decide))); have e1_7 : (p1).toInt ≠ 7 := fun h => n1_7 (Int32.toInt_inj.mp (h.trans (by decide))); have e1_8 : (p1).toInt ≠ 8 := fun h => n1_8 (Int32.toInt_inj.mp (h.trans (by decide))); have e1_9 : (p1).toInt ≠ 9 := fun h => n1_9 (Int32.toInt_inj.mp (h.trans (by decide))); omega) (by decide) ?_
  cases hf
set_option maxRecDepth 100000 in
set_option maxHeartbeats 4000000 in
theorem cX4_count_ (l : Launch) (htr : l.stackTraces = false) (D : va_G) (N : Nat) (rG : Nat) (rN : Nat) (aS : Nat → Nat) (aT : Nat → Nat) (rV : Nat) (aV : Nat → Nat) (v : VS) (tx : VT) (z : VV) (p1 : Int32) (r : Int32) (hf : fX4_count N v tx z p1 = some r) : Tc l D yX4_count wsX4_count rmX4_count [.ref rG, .int p1] (wG D rG (aS 0) rV rN (aT 0) ++ (wS D aS v ++ (wT D aT tx ++ (wV D rV aV z)))) (fun rv w => rv = some (.int r) ∧ w = (wG D rG (aS 0) rV rN (aT 0) ++ (wS D aS v ++ (wT D aT tx ++ (wV D rV aV z))))) (fun _ _ => False) 0 0 := Tc_of htr (by decide +kernel) rfl (Nat.le_of_ble_eq_true rfl) (fun k C E hl hD => by subst hD; exact wkX4_count C N rG rN aS aT rV aV v tx z p1 r hf E)
abbrev rmX4_setting : Room := { frames := 1, cells := 0, slots := 0, locals := 20 }
theorem inX4_setting_X3 : ∀ w ∈ wsX30, w ∈ wsX4_setting := by decide +kernel
theorem inX4_setting_X4 : ∀ w ∈ wsX40, w ∈ wsX4_setting := by decide +kernel
theorem lkX4_setting_12 : Cond.fieldLink RX4 12 "GaugeBlocks" (TX4 0).2.1 (TX4 0).2.2.1 ∈ wsX4_setting := by decide +kernel
theorem lkX4_setting_100 : Cond.fieldLink RX4 100 "GaugeBlocks$State" (TX3 7).2.1 (TX3 7).2.2.1 ∈ wsX4_setting := by decide +kernel
theorem hdX4_setting : yX4_setting.cls = RX4 ∧ yX4_setting.cls ≠ "java/lang/invoke/MethodHandle" ∧ yX4_setting.cls ≠ "java/lang/invoke/VarHandle" ∧ (parseMethodDescriptor yX4_setting.desc).map (fun d => d.parameters.length) = some 1 := by decide +kernel
def fX4_setting (N : Nat) (v : VS) (p1 : Int32) : Option (Int32) := ((fX4_checkSetting N p1).bind fun r1 => ck p1 4 (some ((sS v) (Int32.toNatClampNeg p1))))
set_option maxRecDepth 100000 in
set_option maxHeartbeats 4000000 in
theorem wkX4_setting {k : Kt} (C : gC k cX4_setting 2 RX4 wsX4_setting rmX4_setting "setting") (N : Nat) (rG : Nat) (rV : Nat) (rN : Nat) (rT : Nat) (aS : Nat → Nat) (v : VS) (p1 : Int32) (r : Int32) (hf : fX4_setting N v p1 = some r) (E : gE k (wG (kD k) rG (aS 0) rV rN rT ++ (wS (kD k) aS v)) (fun rv w => rv = some (.int r) ∧ w = (wG (kD k) rG (aS 0) rV rN rT ++ (wS (kD k) aS v))) (fun _ _ => False) 0 0 (some .int) []) : gG k (wG (kD k) rG (aS 0) rV rN rT ++ (wS (kD k) aS v)) [(0, .ref rG), (1, .int p1)] 0 0 0 [] := by
  unfold fX4_setting at hf
  refine g_iload_n (pc := 0) (x := p1) C dX4_setting_0 rfl ?_
  refine g_callR (pc' := 4) (cs' := 0) (sl' := 0) hf C (fun u => none) (fun u hu => gr_S (rest := []) C (cX4_checkSetting_ (kL k) C.tr (kD k) N p1 u hu) (fun ht => va_cwS 1 ht gX4_setting_X4_checkSetting rfl rfl rfl hsX4_checkSetting ⟨(Nat.le_of_ble_eq_true rfl), (Nat.le_of_ble_eq_true rfl)⟩) [] rfl (by decide) rfl rfl (Nat.le_of_ble_eq_true rfl) dX4_setting_1 ⟨(Nat.le_of_ble_eq_true rfl), (Nat.le_of_ble_eq_true rfl)⟩) [] rfl rfl rfl rfl (fun u => []) (fun u => rfl) (fun r1 hf => ?_)
  refine g_aload_n (pc := 4) (x := rG) C dX4_setting_4 rfl ?_
  refine g_getf (pc := 5) C 0 rfl rfl inX4_setting_X4 0 (by decide) lkX4_setting_12 rfl rfl dX4_setting_5 ?_
  refine g_getf (pc := 8) C 1 rfl rfl inX4_setting_X3 7 (by decide) lkX4_setting_100 rfl rfl dX4_setting_8 ?_
  refine g_iload_n (pc := 11) (x := p1) C dX4_setting_11 rfl ?_
  refine g_iald (pc := 12) (i := p1) hf C 9 rfl dX4_setting_12 (fun hf => ?_)
  obtain rfl := Option.some.inj hf
  exact g_iret (v := ((sS v) (Int32.toNatClampNeg p1))) C E dX4_setting_13 (Nat.le_of_ble_eq_true rfl) (Nat.le_of_ble_eq_true rfl) ⟨rfl, rfl⟩
set_option maxRecDepth 100000 in
set_option maxHeartbeats 4000000 in
theorem cX4_setting_ (l : Launch) (htr : l.stackTraces = false) (D : va_G) (N : Nat) (rG : Nat) (rV : Nat) (rN : Nat) (rT : Nat) (aS : Nat → Nat) (v : VS) (p1 : Int32) (r : Int32) (hf : fX4_setting N v p1 = some r) : Tc l D yX4_setting wsX4_setting rmX4_setting [.ref rG, .int p1] (wG D rG (aS 0) rV rN rT ++ (wS D aS v)) (fun rv w => rv = some (.int r) ∧ w = (wG D rG (aS 0) rV rN rT ++ (wS D aS v))) (fun _ _ => False) 0 0 := Tc_of htr (by decide +kernel) rfl (Nat.le_of_ble_eq_true rfl) (fun k C E hl hD => by subst hD; exact wkX4_setting C N rG rV rN rT aS v p1 r hf E)
abbrev rmX4_refusal : Room := { frames := 4, cells := 0, slots := 0, locals := 86 }
theorem inX4_refusal_X4 : ∀ w ∈ wsX40, w ∈ wsX4_refusal := by decide +kernel
theorem lkX4_refusal_12 : Cond.fieldLink RX4 12 "GaugeBlocks" (TX4 0).2.1 (TX4 0).2.2.1 ∈ wsX4_refusal := by decide +kernel
theorem hdX4_refusal : yX4_refusal.cls = RX4 ∧ yX4_refusal.cls ≠ "java/lang/invoke/MethodHandle" ∧ yX4_refusal.cls ≠ "java/lang/invoke/VarHandle" ∧ (parseMethodDescriptor yX4_refusal.desc).map (fun d => d.parameters.length) = some 2 := by decide +kernel
def fX4_refusal (N : Nat) (v : VS) (p1 : Int32) (p2 : Int32) : Option (Int32) := ((fX4_checkStack N p1).bind fun r1 => ((fX4_checkBlock N v p2).bind fun r2 => ((fX3_reasonToRefuse N v p1 p2).bind fun r3 => some r3)))
set_option maxRecDepth 100000 in
set_option maxHeartbeats 4000000 in
theorem wkX4_refusal {k : Kt} (C : gC k cX4_refusal 3 RX4 wsX4_refusal rmX4_refusal "refusal") (N : Nat) (rG : Nat) (rV : Nat) (rN : Nat) (rT : Nat) (aS : Nat → Nat) (v : VS) (p1 : Int32) (p2 : Int32) (r : Int32) (hf : fX4_refusal N v p1 p2 = some r) (E : gE k (wG (kD k) rG (aS 0) rV rN rT ++ (wS (kD k) aS v)) (fun rv w => rv = some (.int r) ∧ w = (wG (kD k) rG (aS 0) rV rN rT ++ (wS (kD k) aS v))) (fun _ _ => False) 0 0 (some .int) []) : gG k (wG (kD k) rG (aS 0) rV rN rT ++ (wS (kD k) aS v)) [(0, .ref rG), (1, .int p1), (2, .int p2)] 0 0 0 [] := by
  unfold fX4_refusal at hf
  refine g_iload_n (pc := 0) (x := p1) C dX4_refusal_0 rfl ?_
  refine g_callR (pc' := 4) (cs' := 0) (sl' := 0) hf C (fun u => none) (fun u hu => gr_S (rest := []) C (cX4_checkStack_ (kL k) C.tr (kD k) N p1 u hu) (fun ht => va_cwS 1 ht gX4_refusal_X4_checkStack rfl rfl rfl hsX4_checkStack ⟨(Nat.le_of_ble_eq_true rfl), (Nat.le_of_ble_eq_true rfl)⟩) [] rfl (by decide) rfl rfl (Nat.le_of_ble_eq_true rfl) dX4_refusal_1 ⟨(Nat.le_of_ble_eq_true rfl), (Nat.le_of_ble_eq_true rfl)⟩) [] rfl rfl rfl rfl (fun u => []) (fun u => rfl) (fun r1 hf => ?_)
  refine g_aload_n (pc := 4) (x := rG) C dX4_refusal_4 rfl ?_
  refine g_iload_n (pc := 5) (x := p2) C dX4_refusal_5 rfl ?_
  refine g_callR (pc' := 9) (cs' := 0) (sl' := 0) hf C (fun u => none) (fun u hu => gr_V (rest := []) C (cX4_checkBlock_ (kL k) C.tr (kD k) N rG rV rN rT aS v p2 u hu) (fun ht => cwV 1 ht gX4_refusal_X4_checkBlock rfl rfl rfl hdX4_checkBlock ⟨(Nat.le_of_ble_eq_true rfl), (Nat.le_of_ble_eq_true rfl)⟩) 0 rfl rfl [0, 1, 2, 3, 4, 5, 6, 7, 8, 9] rfl (by decide) rfl rfl (Nat.le_of_ble_eq_true rfl) dX4_refusal_6 ⟨(Nat.le_of_ble_eq_true rfl), (Nat.le_of_ble_eq_true rfl)⟩) [0, 1, 2, 3, 4, 5, 6, 7, 8, 9] rfl rfl rfl rfl (fun u => []) (fun u => rfl) (fun r2 hf => ?_)
  refine g_aload_n (pc := 9) (x := rG) C dX4_refusal_9 rfl ?_
  refine g_getf (pc := 10) C 0 rfl rfl inX4_refusal_X4 0 (by decide) lkX4_refusal_12 rfl rfl dX4_refusal_10 ?_
  refine g_iload_n (pc := 13) (x := p1) C dX4_refusal_13 rfl ?_
  refine g_iload_n (pc := 14) (x := p2) C dX4_refusal_14 rfl ?_
  refine g_callR (pc' := 18) (cs' := 0) (sl' := 0) hf C (fun u => some (.int u)) (fun u hu => gr_V (rest := []) C (cX3_reasonToRefuse_ (kL k) C.tr (kD k) N aS v p1 p2 u hu) (fun ht => cwV 2 ht gX4_refusal_X3_reasonToRefuse rfl rfl rfl hdX3_reasonToRefuse ⟨(Nat.le_of_ble_eq_true rfl), (Nat.le_of_ble_eq_true rfl)⟩) 1 rfl rfl [1, 2, 3, 4, 5, 6, 7, 8, 9] rfl (by decide) rfl rfl (Nat.le_of_ble_eq_true rfl) dX4_refusal_15 ⟨(Nat.le_of_ble_eq_true rfl), (Nat.le_of_ble_eq_true rfl)⟩) [1, 2, 3, 4, 5, 6, 7, 8, 9] rfl rfl rfl rfl (fun u => [.int u]) (fun u => rfl) (fun r3 hf => ?_)
  obtain rfl := Option.some.inj hf
  exact g_iret (v := r3) C E dX4_refusal_18 (Nat.le_of_ble_eq_true rfl) (Nat.le_of_ble_eq_true rfl) ⟨rfl, rfl⟩
set_option maxRecDepth 100000 in
set_option maxHeartbeats 4000000 in
theorem cX4_refusal_ (l : Launch) (htr : l.stackTraces = false) (D : va_G) (N : Nat) (rG : Nat) (rV : Nat) (rN : Nat) (rT : Nat) (aS : Nat → Nat) (v : VS) (p1 : Int32) (p2 : Int32) (r : Int32) (hf : fX4_refusal N v p1 p2 = some r) : Tc l D yX4_refusal wsX4_refusal rmX4_refusal [.ref rG, .int p1, .int p2] (wG D rG (aS 0) rV rN rT ++ (wS D aS v)) (fun rv w => rv = some (.int r) ∧ w = (wG D rG (aS 0) rV rN rT ++ (wS D aS v))) (fun _ _ => False) 0 0 := Tc_of htr (by decide +kernel) rfl (Nat.le_of_ble_eq_true rfl) (fun k C E hl hD => by subst hD; exact wkX4_refusal C N rG rV rN rT aS v p1 p2 r hf E)
abbrev rmX4_fewest : Room := { frames := 10, cells := 0, slots := 0, locals := 267 }
theorem inX4_fewest_X4 : ∀ w ∈ wsX40, w ∈ wsX4_fewest := by decide +kernel
theorem lkX4_fewest_12 : Cond.fieldLink RX4 12 "GaugeBlocks" (TX4 0).2.1 (TX4 0).2.2.1 ∈ wsX4_fewest := by decide +kernel
theorem hdX4_fewest : yX4_fewest.cls = RX4 ∧ yX4_fewest.cls ≠ "java/lang/invoke/MethodHandle" ∧ yX4_fewest.cls ≠ "java/lang/invoke/VarHandle" ∧ (parseMethodDescriptor yX4_fewest.desc).map (fun d => d.parameters.length) = some 2 := by decide +kernel
def fX4_fewest (N : Nat) (v : VS) (p1 : Int32) (p2 : Int32) : Option (Int32) := ((fX4_checkLength N p1).bind fun r1 => ((fX4_checkRange N p2 0 1).bind fun r2 => ((fX0_fewestFor N v p1).bind fun r3 => (if r3 = (0 : Int32) then some (-1) else (if p2 = (0 : Int32) then ((fJ6_bitCount_0f7a4 N r3).bind fun r4 => some r4) else some r3)))))
set_option maxRecDepth 100000 in
set_option maxHeartbeats 4000000 in
theorem wkX4_fewest {k : Kt} (C : gC k cX4_fewest 4 RX4 wsX4_fewest rmX4_fewest "fewest") (N : Nat) (rG : Nat) (rV : Nat) (rN : Nat) (rT : Nat) (aS : Nat → Nat) (v : VS) (p1 : Int32) (p2 : Int32) (r : Int32) (hf : fX4_fewest N v p1 p2 = some r) (E : gE k (wG (kD k) rG (aS 0) rV rN rT ++ (wS (kD k) aS v)) (fun rv w => rv = some (.int r) ∧ w = (wG (kD k) rG (aS 0) rV rN rT ++ (wS (kD k) aS v))) (fun _ _ => False) 0 0 (some .int) []) : gG k (wG (kD k) rG (aS 0) rV rN rT ++ (wS (kD k) aS v)) [(0, .ref rG), (1, .int p1), (2, .int p2)] 0 0 0 [] := by
  unfold fX4_fewest at hf
  refine g_iload_n (pc := 0) (x := p1) C dX4_fewest_0 rfl ?_
  refine g_callR (pc' := 4) (cs' := 0) (sl' := 0) hf C (fun u => none) (fun u hu => gr_S (rest := []) C (cX4_checkLength_ (kL k) C.tr (kD k) N p1 u hu) (fun ht => va_cwS 1 ht gX4_fewest_X4_checkLength rfl rfl rfl hsX4_checkLength ⟨(Nat.le_of_ble_eq_true rfl), (Nat.le_of_ble_eq_true rfl)⟩) [] rfl (by decide) rfl rfl (Nat.le_of_ble_eq_true rfl) dX4_fewest_1 ⟨(Nat.le_of_ble_eq_true rfl), (Nat.le_of_ble_eq_true rfl)⟩) [] rfl rfl rfl rfl (fun u => []) (fun u => rfl) (fun r1 hf => ?_)
  refine g_iload_n (pc := 4) (x := p2) C dX4_fewest_4 rfl ?_
  refine g_iconst (pc := 5) (v := 0) C dX4_fewest_5 (by decide) ?_
  refine g_iconst (pc := 6) (v := 1) C dX4_fewest_6 (by decide) ?_
  refine g_callR (pc' := 10) (cs' := 0) (sl' := 0) hf C (fun u => none) (fun u hu => gr_S (rest := []) C (cX4_checkRange_ (kL k) C.tr (kD k) N p2 0 1 u hu) (fun ht => va_cwS 3 ht gX4_fewest_X4_checkRange rfl rfl rfl hsX4_checkRange ⟨(Nat.le_of_ble_eq_true rfl), (Nat.le_of_ble_eq_true rfl)⟩) [] rfl (by decide) rfl rfl (Nat.le_of_ble_eq_true rfl) dX4_fewest_7 ⟨(Nat.le_of_ble_eq_true rfl), (Nat.le_of_ble_eq_true rfl)⟩) [] rfl rfl rfl rfl (fun u => []) (fun u => rfl) (fun r2 hf => ?_)
  refine g_aload_n (pc := 10) (x := rG) C dX4_fewest_10 rfl ?_
  refine g_getf (pc := 11) C 0 rfl rfl inX4_fewest_X4 0 (by decide) lkX4_fewest_12 rfl rfl dX4_fewest_11 ?_
  refine g_iload_n (pc := 14) (x := p1) C dX4_fewest_14 rfl ?_
  refine g_callR (pc' := 18) (cs' := 0) (sl' := 0) hf C (fun u => some (.int u)) (fun u hu => gr_S (rest := []) C (cX0_fewestFor_ (kL k) C.tr (kD k) N aS v p1 u hu) (fun ht => va_cwS 2 ht gX4_fewest_X0_fewestFor rfl rfl rfl hsX0_fewestFor ⟨(Nat.le_of_ble_eq_true rfl), (Nat.le_of_ble_eq_true rfl)⟩) [1, 2, 3, 4, 5, 6, 7, 8, 9] rfl (by decide) rfl rfl (Nat.le_of_ble_eq_true rfl) dX4_fewest_15 ⟨(Nat.le_of_ble_eq_true rfl), (Nat.le_of_ble_eq_true rfl)⟩) [1, 2, 3, 4, 5, 6, 7, 8, 9] rfl rfl rfl rfl (fun u => [.int u]) (fun u => rfl) (fun r3 hf => ?_)
  refine g_istore_n (pc := 18) (lv' := [(3, .int r3), (0, .ref rG), (1, .int p1), (2, .int p2)]) C dX4_fewest_18 (by decide) rfl ?_
  refine g_iload_n (pc := 19) (x := r3) C dX4_fewest_19 rfl ?_
  refine g_if_ne (pc := 20) (tgt := 25) (x := r3) hf C dX4_fewest_20 (by decide) (fun hf => ?_) (fun hf => ?_)
  · refine g_iload_n (pc := 25) (x := p2) C dX4_fewest_25 rfl ?_
    refine g_if_ne (pc := 26) (tgt := 36) (x := p2) hf C dX4_fewest_26 (by decide) (fun hf => ?_) (fun hf => ?_)
    · refine g_iload_n (pc := 36) (x := r3) C dX4_fewest_36 rfl ?_
      obtain rfl := Option.some.inj hf
      exact g_iret (v := r3) C E dX4_fewest_37 (Nat.le_of_ble_eq_true rfl) (Nat.le_of_ble_eq_true rfl) ⟨rfl, rfl⟩
    · refine g_iload_n (pc := 29) (x := r3) C dX4_fewest_29 rfl ?_
      refine g_callR (pc' := 33) (cs' := 0) (sl' := 0) hf C (fun u => some (.int u)) (fun u hu => gr_S (rest := []) C (cJ6_bitCount_0f7a4_ (kL k) C.tr (kD k) N r3 u hu) (fun ht => va_cwS 1 ht gX4_fewest_J6_bitCount_0f7a4 rfl rfl rfl hsJ6_bitCount_0f7a4 ⟨(Nat.le_of_ble_eq_true rfl), (Nat.le_of_ble_eq_true rfl)⟩) [] rfl (by decide) rfl rfl (Nat.le_of_ble_eq_true rfl) dX4_fewest_30 ⟨(Nat.le_of_ble_eq_true rfl), (Nat.le_of_ble_eq_true rfl)⟩) [] rfl rfl rfl rfl (fun u => [.int u]) (fun u => rfl) (fun r4 hf => ?_)
      refine g_goto (pc := 33) (tgt := 37) C dX4_fewest_33 (by decide) ?_
      obtain rfl := Option.some.inj hf
      exact g_iret (v := r4) C E dX4_fewest_37 (Nat.le_of_ble_eq_true rfl) (Nat.le_of_ble_eq_true rfl) ⟨rfl, rfl⟩
  · refine g_iconst (pc := 23) (v := (-1)) C dX4_fewest_23 (by decide) ?_
    obtain rfl := Option.some.inj hf
    exact g_iret (v := (-1)) C E dX4_fewest_24 (Nat.le_of_ble_eq_true rfl) (Nat.le_of_ble_eq_true rfl) ⟨rfl, rfl⟩
set_option maxRecDepth 100000 in
set_option maxHeartbeats 4000000 in
theorem cX4_fewest_ (l : Launch) (htr : l.stackTraces = false) (D : va_G) (N : Nat) (rG : Nat) (rV : Nat) (rN : Nat) (rT : Nat) (aS : Nat → Nat) (v : VS) (p1 : Int32) (p2 : Int32) (r : Int32) (hf : fX4_fewest N v p1 p2 = some r) : Tc l D yX4_fewest wsX4_fewest rmX4_fewest [.ref rG, .int p1, .int p2] (wG D rG (aS 0) rV rN rT ++ (wS D aS v)) (fun rv w => rv = some (.int r) ∧ w = (wG D rG (aS 0) rV rN rT ++ (wS D aS v))) (fun _ _ => False) 0 0 := Tc_of htr (by decide +kernel) rfl (Nat.le_of_ble_eq_true rfl) (fun k C E hl hD => by subst hD; exact wkX4_fewest C N rG rV rN rT aS v p1 p2 r hf E)
abbrev rmX4_oldWay : Room := { frames := 3, cells := 0, slots := 0, locals := 75 }
theorem inX4_oldWay_X4 : ∀ w ∈ wsX40, w ∈ wsX4_oldWay := by decide +kernel
theorem lkX4_oldWay_12 : Cond.fieldLink RX4 12 "GaugeBlocks" (TX4 0).2.1 (TX4 0).2.2.1 ∈ wsX4_oldWay := by decide +kernel
theorem hdX4_oldWay : yX4_oldWay.cls = RX4 ∧ yX4_oldWay.cls ≠ "java/lang/invoke/MethodHandle" ∧ yX4_oldWay.cls ≠ "java/lang/invoke/VarHandle" ∧ (parseMethodDescriptor yX4_oldWay.desc).map (fun d => d.parameters.length) = some 2 := by decide +kernel
def fX4_oldWay (N : Nat) (v : VS) (p1 : Int32) (p2 : Int32) : Option (Int32) := ((fX4_checkLength N p1).bind fun r1 => ((fX4_checkRange N p2 0 2).bind fun r2 => ((fX0_takenByOldWay N v p1).bind fun r3 => ((fX3_nominalOfSet N v r3).bind fun r4 => (if p2 = (2 : Int32) then some (p1 - r4) else (if (p1 - r4) = (0 : Int32) then (if p2 = (0 : Int32) then ((fJ6_bitCount_0f7a4 N r3).bind fun r5 => some r5) else some r3) else some (-1)))))))
set_option maxRecDepth 100000 in
set_option maxHeartbeats 4000000 in
theorem wkX4_oldWay {k : Kt} (C : gC k cX4_oldWay 5 RX4 wsX4_oldWay rmX4_oldWay "oldWay") (N : Nat) (rG : Nat) (rV : Nat) (rN : Nat) (rT : Nat) (aS : Nat → Nat) (v : VS) (p1 : Int32) (p2 : Int32) (r : Int32) (hf : fX4_oldWay N v p1 p2 = some r) (E : gE k (wG (kD k) rG (aS 0) rV rN rT ++ (wS (kD k) aS v)) (fun rv w => rv = some (.int r) ∧ w = (wG (kD k) rG (aS 0) rV rN rT ++ (wS (kD k) aS v))) (fun _ _ => False) 0 0 (some .int) []) : gG k (wG (kD k) rG (aS 0) rV rN rT ++ (wS (kD k) aS v)) [(0, .ref rG), (1, .int p1), (2, .int p2)] 0 0 0 [] := by
  unfold fX4_oldWay at hf
  refine g_iload_n (pc := 0) (x := p1) C dX4_oldWay_0 rfl ?_
  refine g_callR (pc' := 4) (cs' := 0) (sl' := 0) hf C (fun u => none) (fun u hu => gr_S (rest := []) C (cX4_checkLength_ (kL k) C.tr (kD k) N p1 u hu) (fun ht => va_cwS 1 ht gX4_oldWay_X4_checkLength rfl rfl rfl hsX4_checkLength ⟨(Nat.le_of_ble_eq_true rfl), (Nat.le_of_ble_eq_true rfl)⟩) [] rfl (by decide) rfl rfl (Nat.le_of_ble_eq_true rfl) dX4_oldWay_1 ⟨(Nat.le_of_ble_eq_true rfl), (Nat.le_of_ble_eq_true rfl)⟩) [] rfl rfl rfl rfl (fun u => []) (fun u => rfl) (fun r1 hf => ?_)
  refine g_iload_n (pc := 4) (x := p2) C dX4_oldWay_4 rfl ?_
  refine g_iconst (pc := 5) (v := 0) C dX4_oldWay_5 (by decide) ?_
  refine g_iconst (pc := 6) (v := 2) C dX4_oldWay_6 (by decide) ?_
  refine g_callR (pc' := 10) (cs' := 0) (sl' := 0) hf C (fun u => none) (fun u hu => gr_S (rest := []) C (cX4_checkRange_ (kL k) C.tr (kD k) N p2 0 2 u hu) (fun ht => va_cwS 3 ht gX4_oldWay_X4_checkRange rfl rfl rfl hsX4_checkRange ⟨(Nat.le_of_ble_eq_true rfl), (Nat.le_of_ble_eq_true rfl)⟩) [] rfl (by decide) rfl rfl (Nat.le_of_ble_eq_true rfl) dX4_oldWay_7 ⟨(Nat.le_of_ble_eq_true rfl), (Nat.le_of_ble_eq_true rfl)⟩) [] rfl rfl rfl rfl (fun u => []) (fun u => rfl) (fun r2 hf => ?_)
  refine g_aload_n (pc := 10) (x := rG) C dX4_oldWay_10 rfl ?_
  refine g_getf (pc := 11) C 0 rfl rfl inX4_oldWay_X4 0 (by decide) lkX4_oldWay_12 rfl rfl dX4_oldWay_11 ?_
  refine g_iload_n (pc := 14) (x := p1) C dX4_oldWay_14 rfl ?_
  refine g_callR (pc' := 18) (cs' := 0) (sl' := 0) hf C (fun u => some (.int u)) (fun u hu => gr_S (rest := []) C (cX0_takenByOldWay_ (kL k) C.tr (kD k) N aS v p1 u hu) (fun ht => va_cwS 2 ht gX4_oldWay_X0_takenByOldWay rfl rfl rfl hsX0_takenByOldWay ⟨(Nat.le_of_ble_eq_true rfl), (Nat.le_of_ble_eq_true rfl)⟩) [1, 2, 3, 4, 5, 6, 7, 8, 9] rfl (by decide) rfl rfl (Nat.le_of_ble_eq_true rfl) dX4_oldWay_15 ⟨(Nat.le_of_ble_eq_true rfl), (Nat.le_of_ble_eq_true rfl)⟩) [1, 2, 3, 4, 5, 6, 7, 8, 9] rfl rfl rfl rfl (fun u => [.int u]) (fun u => rfl) (fun r3 hf => ?_)
  refine g_istore_n (pc := 18) (lv' := [(3, .int r3), (0, .ref rG), (1, .int p1), (2, .int p2)]) C dX4_oldWay_18 (by decide) rfl ?_
  refine g_iload_n (pc := 19) (x := p1) C dX4_oldWay_19 rfl ?_
  refine g_aload_n (pc := 20) (x := rG) C dX4_oldWay_20 rfl ?_
  refine g_getf (pc := 21) C 0 rfl rfl inX4_oldWay_X4 0 (by decide) lkX4_oldWay_12 rfl rfl dX4_oldWay_21 ?_
  refine g_iload_n (pc := 24) (x := r3) C dX4_oldWay_24 rfl ?_
  refine g_callR (pc' := 28) (cs' := 0) (sl' := 0) hf C (fun u => some (.int u)) (fun u hu => gr_V (rest := [.int p1]) C (cX3_nominalOfSet_ (kL k) C.tr (kD k) N aS v r3 u hu) (fun ht => cwV 1 ht gX4_oldWay_X3_nominalOfSet rfl rfl rfl hdX3_nominalOfSet ⟨(Nat.le_of_ble_eq_true rfl), (Nat.le_of_ble_eq_true rfl)⟩) 1 rfl rfl [1, 2, 3, 4, 5, 6, 7, 8, 9] rfl (by decide) rfl rfl (Nat.le_of_ble_eq_true rfl) dX4_oldWay_25 ⟨(Nat.le_of_ble_eq_true rfl), (Nat.le_of_ble_eq_true rfl)⟩) [1, 2, 3, 4, 5, 6, 7, 8, 9] rfl rfl rfl rfl (fun u => [.int u, .int p1]) (fun u => rfl) (fun r4 hf => ?_)
  refine g_isub (pc := 28) (x := p1) (y := r4) C dX4_oldWay_28 ?_
  refine g_istore (pc := 29) (lv' := [(4, .int (p1 - r4)), (3, .int r3), (0, .ref rG), (1, .int p1), (2, .int p2)]) C dX4_oldWay_29 (by decide) rfl ?_
  refine g_iload_n (pc := 31) (x := p2) C dX4_oldWay_31 rfl ?_
  refine g_iconst (pc := 32) (v := 2) C dX4_oldWay_32 (by decide) ?_
  refine g_icmp_ne (pc := 33) (tgt := 39) (x := p2) (y := 2) hf C dX4_oldWay_33 (by decide) (fun hf => ?_) (fun hf => ?_)
  · refine g_iload (pc := 39) (x := (p1 - r4)) C dX4_oldWay_39 rfl ?_
    refine g_if_eq (pc := 41) (tgt := 46) (x := (p1 - r4)) hf C dX4_oldWay_41 (by decide) (fun hf => ?_) (fun hf => ?_)
    · refine g_iload_n (pc := 46) (x := p2) C dX4_oldWay_46 rfl ?_
      refine g_if_ne (pc := 47) (tgt := 57) (x := p2) hf C dX4_oldWay_47 (by decide) (fun hf => ?_) (fun hf => ?_)
      · refine g_iload_n (pc := 57) (x := r3) C dX4_oldWay_57 rfl ?_
        obtain rfl := Option.some.inj hf
        exact g_iret (v := r3) C E dX4_oldWay_58 (Nat.le_of_ble_eq_true rfl) (Nat.le_of_ble_eq_true rfl) ⟨rfl, rfl⟩
      · refine g_iload_n (pc := 50) (x := r3) C dX4_oldWay_50 rfl ?_
        refine g_callR (pc' := 54) (cs' := 0) (sl' := 0) hf C (fun u => some (.int u)) (fun u hu => gr_S (rest := []) C (cJ6_bitCount_0f7a4_ (kL k) C.tr (kD k) N r3 u hu) (fun ht => va_cwS 1 ht gX4_oldWay_J6_bitCount_0f7a4 rfl rfl rfl hsJ6_bitCount_0f7a4 ⟨(Nat.le_of_ble_eq_true rfl), (Nat.le_of_ble_eq_true rfl)⟩) [] rfl (by decide) rfl rfl (Nat.le_of_ble_eq_true rfl) dX4_oldWay_51 ⟨(Nat.le_of_ble_eq_true rfl), (Nat.le_of_ble_eq_true rfl)⟩) [] rfl rfl rfl rfl (fun u => [.int u]) (fun u => rfl) (fun r5 hf => ?_)
        refine g_goto (pc := 54) (tgt := 58) C dX4_oldWay_54 (by decide) ?_
        obtain rfl := Option.some.inj hf
        exact g_iret (v := r5) C E dX4_oldWay_58 (Nat.le_of_ble_eq_true rfl) (Nat.le_of_ble_eq_true rfl) ⟨rfl, rfl⟩
    · refine g_iconst (pc := 44) (v := (-1)) C dX4_oldWay_44 (by decide) ?_
      obtain rfl := Option.some.inj hf
      exact g_iret (v := (-1)) C E dX4_oldWay_45 (Nat.le_of_ble_eq_true rfl) (Nat.le_of_ble_eq_true rfl) ⟨rfl, rfl⟩
  · refine g_iload (pc := 36) (x := (p1 - r4)) C dX4_oldWay_36 rfl ?_
    obtain rfl := Option.some.inj hf
    exact g_iret (v := (p1 - r4)) C E dX4_oldWay_38 (Nat.le_of_ble_eq_true rfl) (Nat.le_of_ble_eq_true rfl) ⟨rfl, rfl⟩
set_option maxRecDepth 100000 in
set_option maxHeartbeats 4000000 in
theorem cX4_oldWay_ (l : Launch) (htr : l.stackTraces = false) (D : va_G) (N : Nat) (rG : Nat) (rV : Nat) (rN : Nat) (rT : Nat) (aS : Nat → Nat) (v : VS) (p1 : Int32) (p2 : Int32) (r : Int32) (hf : fX4_oldWay N v p1 p2 = some r) : Tc l D yX4_oldWay wsX4_oldWay rmX4_oldWay [.ref rG, .int p1, .int p2] (wG D rG (aS 0) rV rN rT ++ (wS D aS v)) (fun rv w => rv = some (.int r) ∧ w = (wG D rG (aS 0) rV rN rT ++ (wS D aS v))) (fun _ _ => False) 0 0 := Tc_of htr (by decide +kernel) rfl (Nat.le_of_ble_eq_true rfl) (fun k C E hl hD => by subst hD; exact wkX4_oldWay C N rG rV rN rT aS v p1 p2 r hf E)
abbrev rmX4_nearest : Room := { frames := 3, cells := 0, slots := 0, locals := 61 }
theorem inX4_nearest_X4 : ∀ w ∈ wsX40, w ∈ wsX4_nearest := by decide +kernel
theorem lkX4_nearest_12 : Cond.fieldLink RX4 12 "GaugeBlocks" (TX4 0).2.1 (TX4 0).2.2.1 ∈ wsX4_nearest := by decide +kernel
theorem hdX4_nearest : yX4_nearest.cls = RX4 ∧ yX4_nearest.cls ≠ "java/lang/invoke/MethodHandle" ∧ yX4_nearest.cls ≠ "java/lang/invoke/VarHandle" ∧ (parseMethodDescriptor yX4_nearest.desc).map (fun d => d.parameters.length) = some 1 := by decide +kernel
def fX4_nearest (N : Nat) (v : VS) (p1 : Int32) : Option (Int32) := ((fX4_checkLength N p1).bind fun r1 => ((fX0_nearestTo N v p1).bind fun r2 => some r2))
set_option maxRecDepth 100000 in
set_option maxHeartbeats 4000000 in
theorem wkX4_nearest {k : Kt} (C : gC k cX4_nearest 2 RX4 wsX4_nearest rmX4_nearest "nearest") (N : Nat) (rG : Nat) (rV : Nat) (rN : Nat) (rT : Nat) (aS : Nat → Nat) (v : VS) (p1 : Int32) (r : Int32) (hf : fX4_nearest N v p1 = some r) (E : gE k (wG (kD k) rG (aS 0) rV rN rT ++ (wS (kD k) aS v)) (fun rv w => rv = some (.int r) ∧ w = (wG (kD k) rG (aS 0) rV rN rT ++ (wS (kD k) aS v))) (fun _ _ => False) 0 0 (some .int) []) : gG k (wG (kD k) rG (aS 0) rV rN rT ++ (wS (kD k) aS v)) [(0, .ref rG), (1, .int p1)] 0 0 0 [] := by
  unfold fX4_nearest at hf
  refine g_iload_n (pc := 0) (x := p1) C dX4_nearest_0 rfl ?_
  refine g_callR (pc' := 4) (cs' := 0) (sl' := 0) hf C (fun u => none) (fun u hu => gr_S (rest := []) C (cX4_checkLength_ (kL k) C.tr (kD k) N p1 u hu) (fun ht => va_cwS 1 ht gX4_nearest_X4_checkLength rfl rfl rfl hsX4_checkLength ⟨(Nat.le_of_ble_eq_true rfl), (Nat.le_of_ble_eq_true rfl)⟩) [] rfl (by decide) rfl rfl (Nat.le_of_ble_eq_true rfl) dX4_nearest_1 ⟨(Nat.le_of_ble_eq_true rfl), (Nat.le_of_ble_eq_true rfl)⟩) [] rfl rfl rfl rfl (fun u => []) (fun u => rfl) (fun r1 hf => ?_)
  refine g_aload_n (pc := 4) (x := rG) C dX4_nearest_4 rfl ?_
  refine g_getf (pc := 5) C 0 rfl rfl inX4_nearest_X4 0 (by decide) lkX4_nearest_12 rfl rfl dX4_nearest_5 ?_
  refine g_iload_n (pc := 8) (x := p1) C dX4_nearest_8 rfl ?_
  refine g_callR (pc' := 12) (cs' := 0) (sl' := 0) hf C (fun u => some (.int u)) (fun u hu => gr_S (rest := []) C (cX0_nearestTo_ (kL k) C.tr (kD k) N aS v p1 u hu) (fun ht => va_cwS 2 ht gX4_nearest_X0_nearestTo rfl rfl rfl hsX0_nearestTo ⟨(Nat.le_of_ble_eq_true rfl), (Nat.le_of_ble_eq_true rfl)⟩) [1, 2, 3, 4, 5, 6, 7, 8, 9] rfl (by decide) rfl rfl (Nat.le_of_ble_eq_true rfl) dX4_nearest_9 ⟨(Nat.le_of_ble_eq_true rfl), (Nat.le_of_ble_eq_true rfl)⟩) [1, 2, 3, 4, 5, 6, 7, 8, 9] rfl rfl rfl rfl (fun u => [.int u]) (fun u => rfl) (fun r2 hf => ?_)
  obtain rfl := Option.some.inj hf
  exact g_iret (v := r2) C E dX4_nearest_12 (Nat.le_of_ble_eq_true rfl) (Nat.le_of_ble_eq_true rfl) ⟨rfl, rfl⟩
set_option maxRecDepth 100000 in
set_option maxHeartbeats 4000000 in
theorem cX4_nearest_ (l : Launch) (htr : l.stackTraces = false) (D : va_G) (N : Nat) (rG : Nat) (rV : Nat) (rN : Nat) (rT : Nat) (aS : Nat → Nat) (v : VS) (p1 : Int32) (r : Int32) (hf : fX4_nearest N v p1 = some r) : Tc l D yX4_nearest wsX4_nearest rmX4_nearest [.ref rG, .int p1] (wG D rG (aS 0) rV rN rT ++ (wS D aS v)) (fun rv w => rv = some (.int r) ∧ w = (wG D rG (aS 0) rV rN rT ++ (wS D aS v))) (fun _ _ => False) 0 0 := Tc_of htr (by decide +kernel) rfl (Nat.le_of_ble_eq_true rfl) (fun k C E hl hD => by subst hD; exact wkX4_nearest C N rG rV rN rT aS v p1 r hf E)
abbrev rmX4_coolIn : Room := { frames := 2, cells := 0, slots := 0, locals := 46 }
theorem inX4_coolIn_X4 : ∀ w ∈ wsX40, w ∈ wsX4_coolIn := by decide +kernel
theorem lkX4_coolIn_12 : Cond.fieldLink RX4 12 "GaugeBlocks" (TX4 0).2.1 (TX4 0).2.2.1 ∈ wsX4_coolIn := by decide +kernel
theorem hdX4_coolIn : yX4_coolIn.cls = RX4 ∧ yX4_coolIn.cls ≠ "java/lang/invoke/MethodHandle" ∧ yX4_coolIn.cls ≠ "java/lang/invoke/VarHandle" ∧ (parseMethodDescriptor yX4_coolIn.desc).map (fun d => d.parameters.length) = some 1 := by decide +kernel
def fX4_coolIn (N : Nat) (v : VS) (p1 : Int32) : Option (Int32) := ((fX4_checkBlock N v p1).bind fun r1 => ((fX3_minutesUntilCool N v p1).bind fun r2 => some r2))
set_option maxRecDepth 100000 in
set_option maxHeartbeats 4000000 in
theorem wkX4_coolIn {k : Kt} (C : gC k cX4_coolIn 2 RX4 wsX4_coolIn rmX4_coolIn "coolIn") (N : Nat) (rG : Nat) (rV : Nat) (rN : Nat) (rT : Nat) (aS : Nat → Nat) (v : VS) (p1 : Int32) (r : Int32) (hf : fX4_coolIn N v p1 = some r) (E : gE k (wG (kD k) rG (aS 0) rV rN rT ++ (wS (kD k) aS v)) (fun rv w => rv = some (.int r) ∧ w = (wG (kD k) rG (aS 0) rV rN rT ++ (wS (kD k) aS v))) (fun _ _ => False) 0 0 (some .int) []) : gG k (wG (kD k) rG (aS 0) rV rN rT ++ (wS (kD k) aS v)) [(0, .ref rG), (1, .int p1)] 0 0 0 [] := by
  unfold fX4_coolIn at hf
  refine g_aload_n (pc := 0) (x := rG) C dX4_coolIn_0 rfl ?_
  refine g_iload_n (pc := 1) (x := p1) C dX4_coolIn_1 rfl ?_
  refine g_callR (pc' := 5) (cs' := 0) (sl' := 0) hf C (fun u => none) (fun u hu => gr_V (rest := []) C (cX4_checkBlock_ (kL k) C.tr (kD k) N rG rV rN rT aS v p1 u hu) (fun ht => cwV 1 ht gX4_coolIn_X4_checkBlock rfl rfl rfl hdX4_checkBlock ⟨(Nat.le_of_ble_eq_true rfl), (Nat.le_of_ble_eq_true rfl)⟩) 0 rfl rfl [0, 1, 2, 3, 4, 5, 6, 7, 8, 9] rfl (by decide) rfl rfl (Nat.le_of_ble_eq_true rfl) dX4_coolIn_2 ⟨(Nat.le_of_ble_eq_true rfl), (Nat.le_of_ble_eq_true rfl)⟩) [0, 1, 2, 3, 4, 5, 6, 7, 8, 9] rfl rfl rfl rfl (fun u => []) (fun u => rfl) (fun r1 hf => ?_)
  refine g_aload_n (pc := 5) (x := rG) C dX4_coolIn_5 rfl ?_
  refine g_getf (pc := 6) C 0 rfl rfl inX4_coolIn_X4 0 (by decide) lkX4_coolIn_12 rfl rfl dX4_coolIn_6 ?_
  refine g_iload_n (pc := 9) (x := p1) C dX4_coolIn_9 rfl ?_
  refine g_callR (pc' := 13) (cs' := 0) (sl' := 0) hf C (fun u => some (.int u)) (fun u hu => gr_V (rest := []) C (cX3_minutesUntilCool_ (kL k) C.tr (kD k) N aS v p1 u hu) (fun ht => cwV 1 ht gX4_coolIn_X3_minutesUntilCool rfl rfl rfl hdX3_minutesUntilCool ⟨(Nat.le_of_ble_eq_true rfl), (Nat.le_of_ble_eq_true rfl)⟩) 1 rfl rfl [1, 2, 3, 4, 5, 6, 7, 8, 9] rfl (by decide) rfl rfl (Nat.le_of_ble_eq_true rfl) dX4_coolIn_10 ⟨(Nat.le_of_ble_eq_true rfl), (Nat.le_of_ble_eq_true rfl)⟩) [1, 2, 3, 4, 5, 6, 7, 8, 9] rfl rfl rfl rfl (fun u => [.int u]) (fun u => rfl) (fun r2 hf => ?_)
  obtain rfl := Option.some.inj hf
  exact g_iret (v := r2) C E dX4_coolIn_13 (Nat.le_of_ble_eq_true rfl) (Nat.le_of_ble_eq_true rfl) ⟨rfl, rfl⟩
set_option maxRecDepth 100000 in
set_option maxHeartbeats 4000000 in
theorem cX4_coolIn_ (l : Launch) (htr : l.stackTraces = false) (D : va_G) (N : Nat) (rG : Nat) (rV : Nat) (rN : Nat) (rT : Nat) (aS : Nat → Nat) (v : VS) (p1 : Int32) (r : Int32) (hf : fX4_coolIn N v p1 = some r) : Tc l D yX4_coolIn wsX4_coolIn rmX4_coolIn [.ref rG, .int p1] (wG D rG (aS 0) rV rN rT ++ (wS D aS v)) (fun rv w => rv = some (.int r) ∧ w = (wG D rG (aS 0) rV rN rT ++ (wS D aS v))) (fun _ _ => False) 0 0 := Tc_of htr (by decide +kernel) rfl (Nat.le_of_ble_eq_true rfl) (fun k C E hl hD => by subst hD; exact wkX4_coolIn C N rG rV rN rT aS v p1 r hf E)
abbrev rmX4_lengthIn : Room := { frames := 3, cells := 0, slots := 0, locals := 71 }
theorem inX4_lengthIn_X4 : ∀ w ∈ wsX40, w ∈ wsX4_lengthIn := by decide +kernel
theorem lkX4_lengthIn_12 : Cond.fieldLink RX4 12 "GaugeBlocks" (TX4 0).2.1 (TX4 0).2.2.1 ∈ wsX4_lengthIn := by decide +kernel
theorem hdX4_lengthIn : yX4_lengthIn.cls = RX4 ∧ yX4_lengthIn.cls ≠ "java/lang/invoke/MethodHandle" ∧ yX4_lengthIn.cls ≠ "java/lang/invoke/VarHandle" ∧ (parseMethodDescriptor yX4_lengthIn.desc).map (fun d => d.parameters.length) = some 2 := by decide +kernel
def fX4_lengthIn (N : Nat) (v : VS) (p1 : Int32) (p2 : Int32) : Option (Int32) := ((fX4_checkStack N p1).bind fun r1 => ((fX4_checkRange N p2 0 600).bind fun r2 => ((fX3_trueLengthOfStack N v p1 p2).bind fun r3 => some r3)))
set_option maxRecDepth 100000 in
set_option maxHeartbeats 4000000 in
theorem wkX4_lengthIn {k : Kt} (C : gC k cX4_lengthIn 3 RX4 wsX4_lengthIn rmX4_lengthIn "lengthIn") (N : Nat) (rG : Nat) (rV : Nat) (rN : Nat) (rT : Nat) (aS : Nat → Nat) (v : VS) (p1 : Int32) (p2 : Int32) (r : Int32) (hf : fX4_lengthIn N v p1 p2 = some r) (E : gE k (wG (kD k) rG (aS 0) rV rN rT ++ (wS (kD k) aS v)) (fun rv w => rv = some (.int r) ∧ w = (wG (kD k) rG (aS 0) rV rN rT ++ (wS (kD k) aS v))) (fun _ _ => False) 0 0 (some .int) []) : gG k (wG (kD k) rG (aS 0) rV rN rT ++ (wS (kD k) aS v)) [(0, .ref rG), (1, .int p1), (2, .int p2)] 0 0 0 [] := by
  unfold fX4_lengthIn at hf
  refine g_iload_n (pc := 0) (x := p1) C dX4_lengthIn_0 rfl ?_
  refine g_callR (pc' := 4) (cs' := 0) (sl' := 0) hf C (fun u => none) (fun u hu => gr_S (rest := []) C (cX4_checkStack_ (kL k) C.tr (kD k) N p1 u hu) (fun ht => va_cwS 1 ht gX4_lengthIn_X4_checkStack rfl rfl rfl hsX4_checkStack ⟨(Nat.le_of_ble_eq_true rfl), (Nat.le_of_ble_eq_true rfl)⟩) [] rfl (by decide) rfl rfl (Nat.le_of_ble_eq_true rfl) dX4_lengthIn_1 ⟨(Nat.le_of_ble_eq_true rfl), (Nat.le_of_ble_eq_true rfl)⟩) [] rfl rfl rfl rfl (fun u => []) (fun u => rfl) (fun r1 hf => ?_)
  refine g_iload_n (pc := 4) (x := p2) C dX4_lengthIn_4 rfl ?_
  refine g_iconst (pc := 5) (v := 0) C dX4_lengthIn_5 (by decide) ?_
  refine g_sipush (pc := 6) (v := 600) C dX4_lengthIn_6 (by decide) ?_
  refine g_callR (pc' := 12) (cs' := 0) (sl' := 0) hf C (fun u => none) (fun u hu => gr_S (rest := []) C (cX4_checkRange_ (kL k) C.tr (kD k) N p2 0 600 u hu) (fun ht => va_cwS 3 ht gX4_lengthIn_X4_checkRange rfl rfl rfl hsX4_checkRange ⟨(Nat.le_of_ble_eq_true rfl), (Nat.le_of_ble_eq_true rfl)⟩) [] rfl (by decide) rfl rfl (Nat.le_of_ble_eq_true rfl) dX4_lengthIn_9 ⟨(Nat.le_of_ble_eq_true rfl), (Nat.le_of_ble_eq_true rfl)⟩) [] rfl rfl rfl rfl (fun u => []) (fun u => rfl) (fun r2 hf => ?_)
  refine g_aload_n (pc := 12) (x := rG) C dX4_lengthIn_12 rfl ?_
  refine g_getf (pc := 13) C 0 rfl rfl inX4_lengthIn_X4 0 (by decide) lkX4_lengthIn_12 rfl rfl dX4_lengthIn_13 ?_
  refine g_iload_n (pc := 16) (x := p1) C dX4_lengthIn_16 rfl ?_
  refine g_iload_n (pc := 17) (x := p2) C dX4_lengthIn_17 rfl ?_
  refine g_callR (pc' := 21) (cs' := 0) (sl' := 0) hf C (fun u => some (.int u)) (fun u hu => gr_V (rest := []) C (cX3_trueLengthOfStack_ (kL k) C.tr (kD k) N aS v p1 p2 u hu) (fun ht => cwV 2 ht gX4_lengthIn_X3_trueLengthOfStack rfl rfl rfl hdX3_trueLengthOfStack ⟨(Nat.le_of_ble_eq_true rfl), (Nat.le_of_ble_eq_true rfl)⟩) 1 rfl rfl [1, 2, 3, 4, 5, 6, 7, 8, 9] rfl (by decide) rfl rfl (Nat.le_of_ble_eq_true rfl) dX4_lengthIn_18 ⟨(Nat.le_of_ble_eq_true rfl), (Nat.le_of_ble_eq_true rfl)⟩) [1, 2, 3, 4, 5, 6, 7, 8, 9] rfl rfl rfl rfl (fun u => [.int u]) (fun u => rfl) (fun r3 hf => ?_)
  obtain rfl := Option.some.inj hf
  exact g_iret (v := r3) C E dX4_lengthIn_21 (Nat.le_of_ble_eq_true rfl) (Nat.le_of_ble_eq_true rfl) ⟨rfl, rfl⟩
set_option maxRecDepth 100000 in
set_option maxHeartbeats 4000000 in
theorem cX4_lengthIn_ (l : Launch) (htr : l.stackTraces = false) (D : va_G) (N : Nat) (rG : Nat) (rV : Nat) (rN : Nat) (rT : Nat) (aS : Nat → Nat) (v : VS) (p1 : Int32) (p2 : Int32) (r : Int32) (hf : fX4_lengthIn N v p1 p2 = some r) : Tc l D yX4_lengthIn wsX4_lengthIn rmX4_lengthIn [.ref rG, .int p1, .int p2] (wG D rG (aS 0) rV rN rT ++ (wS D aS v)) (fun rv w => rv = some (.int r) ∧ w = (wG D rG (aS 0) rV rN rT ++ (wS D aS v))) (fun _ _ => False) 0 0 := Tc_of htr (by decide +kernel) rfl (Nat.le_of_ble_eq_true rfl) (fun k C E hl hD => by subst hD; exact wkX4_lengthIn C N rG rV rN rT aS v p1 p2 r hf E)
abbrev rmX4_meanError : Room := { frames := 3, cells := 0, slots := 0, locals := 64 }
theorem inX4_meanError_X3 : ∀ w ∈ wsX30, w ∈ wsX4_meanError := by decide +kernel
theorem inX4_meanError_X4 : ∀ w ∈ wsX40, w ∈ wsX4_meanError := by decide +kernel
theorem lkX4_meanError_12 : Cond.fieldLink RX4 12 "GaugeBlocks" (TX4 0).2.1 (TX4 0).2.2.1 ∈ wsX4_meanError := by decide +kernel
theorem lkX4_meanError_68 : Cond.fieldLink RX4 68 "GaugeBlocks$State" (TX3 8).2.1 (TX3 8).2.2.1 ∈ wsX4_meanError := by decide +kernel
theorem hdX4_meanError : yX4_meanError.cls = RX4 ∧ yX4_meanError.cls ≠ "java/lang/invoke/MethodHandle" ∧ yX4_meanError.cls ≠ "java/lang/invoke/VarHandle" ∧ (parseMethodDescriptor yX4_meanError.desc).map (fun d => d.parameters.length) = some 0 := by decide +kernel
def fX4_meanError (N : Nat) (v : VS) : Option (UInt64) := (if (sB v) = (0 : Int32) then some FP.dconst0 else ((fX3_sizesOfErrors N v).bind fun r1 => cd (FP.ddiv (FP.i2d r1) (FP.i2d (sB v))) (some (FP.ddiv (FP.i2d r1) (FP.i2d (sB v))))))
set_option maxRecDepth 100000 in
set_option maxHeartbeats 4000000 in
theorem wkX4_meanError {k : Kt} (C : gC k cX4_meanError 1 RX4 wsX4_meanError rmX4_meanError "meanError") (N : Nat) (rG : Nat) (rV : Nat) (rN : Nat) (rT : Nat) (aS : Nat → Nat) (v : VS) (r : UInt64) (hf : fX4_meanError N v = some r) (E : gE k (wG (kD k) rG (aS 0) rV rN rT ++ (wS (kD k) aS v)) (fun rv w => rv = some (.double r) ∧ w = (wG (kD k) rG (aS 0) rV rN rT ++ (wS (kD k) aS v))) (fun _ _ => False) 0 0 (some .double) []) : gG k (wG (kD k) rG (aS 0) rV rN rT ++ (wS (kD k) aS v)) [(0, .ref rG)] 0 0 0 [] := by
  unfold fX4_meanError at hf
  refine g_aload_n (pc := 0) (x := rG) C dX4_meanError_0 rfl ?_
  refine g_getf (pc := 1) C 0 rfl rfl inX4_meanError_X4 0 (by decide) lkX4_meanError_12 rfl rfl dX4_meanError_1 ?_
  refine g_getf (pc := 4) C 1 rfl rfl inX4_meanError_X3 8 (by decide) lkX4_meanError_68 rfl rfl dX4_meanError_4 ?_
  refine g_if_ne (pc := 7) (tgt := 12) (x := (sB v)) hf C dX4_meanError_7 (by decide) (fun hf => ?_) (fun hf => ?_)
  · refine g_aload_n (pc := 12) (x := rG) C dX4_meanError_12 rfl ?_
    refine g_getf (pc := 13) C 0 rfl rfl inX4_meanError_X4 0 (by decide) lkX4_meanError_12 rfl rfl dX4_meanError_13 ?_
    refine g_callR (pc' := 19) (cs' := 0) (sl' := 0) hf C (fun u => some (.int u)) (fun u hu => gr_V (rest := []) C (cX3_sizesOfErrors_ (kL k) C.tr (kD k) N aS v u hu) (fun ht => cwV 0 ht gX4_meanError_X3_sizesOfErrors rfl rfl rfl hdX3_sizesOfErrors ⟨(Nat.le_of_ble_eq_true rfl), (Nat.le_of_ble_eq_true rfl)⟩) 1 rfl rfl [1, 2, 3, 4, 5, 6, 7, 8, 9] rfl (by decide) rfl rfl (Nat.le_of_ble_eq_true rfl) dX4_meanError_16 ⟨(Nat.le_of_ble_eq_true rfl), (Nat.le_of_ble_eq_true rfl)⟩) [1, 2, 3, 4, 5, 6, 7, 8, 9] rfl rfl rfl rfl (fun u => [.int u]) (fun u => rfl) (fun r1 hf => ?_)
    refine g_i2d (pc := 19) C dX4_meanError_19 ?_
    refine g_aload_n (pc := 20) (x := rG) C dX4_meanError_20 rfl ?_
    refine g_getf (pc := 21) C 0 rfl rfl inX4_meanError_X4 0 (by decide) lkX4_meanError_12 rfl rfl dX4_meanError_21 ?_
    refine g_getf (pc := 24) C 1 rfl rfl inX4_meanError_X3 8 (by decide) lkX4_meanError_68 rfl rfl dX4_meanError_24 ?_
    refine g_i2d (pc := 27) C dX4_meanError_27 ?_
    refine g_ddiv (pc := 28) (x := (FP.i2d r1)) (y := (FP.i2d (sB v))) hf C dX4_meanError_28 (fun hf => ?_)
    obtain rfl := Option.some.inj hf
    exact g_dret C E dX4_meanError_29 (Nat.le_of_ble_eq_true rfl) (Nat.le_of_ble_eq_true rfl) ⟨rfl, rfl⟩
  · refine g_dconst0 (pc := 10) C dX4_meanError_10 ?_
    obtain rfl := Option.some.inj hf
    exact g_dret C E dX4_meanError_11 (Nat.le_of_ble_eq_true rfl) (Nat.le_of_ble_eq_true rfl) ⟨rfl, rfl⟩
set_option maxRecDepth 100000 in
set_option maxHeartbeats 4000000 in
theorem cX4_meanError_ (l : Launch) (htr : l.stackTraces = false) (D : va_G) (N : Nat) (rG : Nat) (rV : Nat) (rN : Nat) (rT : Nat) (aS : Nat → Nat) (v : VS) (r : UInt64) (hf : fX4_meanError N v = some r) : Tc l D yX4_meanError wsX4_meanError rmX4_meanError [.ref rG] (wG D rG (aS 0) rV rN rT ++ (wS D aS v)) (fun rv w => rv = some (.double r) ∧ w = (wG D rG (aS 0) rV rN rT ++ (wS D aS v))) (fun _ _ => False) 0 0 := Tc_of htr (by decide +kernel) rfl (Nat.le_of_ble_eq_true rfl) (fun k C E hl hD => by subst hD; exact wkX4_meanError C N rG rV rN rT aS v r hf E)
