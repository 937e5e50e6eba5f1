section GQ
variable {k : Kt} {cc : ByteArray} {nL : Nat} {own nm : String} {Ts : List Cond} {rm : Room} {ws : va_W} {lv : List (Nat × Value)} {cs sl pc : Nat} {st : List Value}
theorem g_astq (C : gC k cc nL own Ts rm nm) {i : Int32} {n a v j : Nat} {f : Nat → Option Nat} {vs : List Value} (q0 qk : Nat) (ha : ws[q0]? = some (a, .inl ((kD k).1 103, n, .inr (.inr (.inr (.inr f)))))) (hv : ws[qk]? = some (v, .inr (2, vs))) (hj : i.toNatClampNeg = j) (hin : ¬ (i < 0 ∨ n ≤ i.toNatClampNeg)) (d : decode cc pc = .ok (.aastore, 1)) {ws' : va_W} (e : ws.set q0 (a, .inl ((kD k).1 103, n, .inr (.inr (.inr (.inr (va_up f j (some v))))))) = ws') (h : gG k ws' lv cs sl (pc + 1) st) : gG k ws lv cs sl pc (.ref v :: .int i :: .ref a :: st) := by
  subst hj
  exact fun H locs ls hP hD hS hl => va_astq C.x C.b C.K hP hD hS q0 1 qk 2 (r := (RX3, TX3, 13)) ha rfl hv rfl hin d (fun H1 locs1 hP hD hS => h H1 locs1 ls (e ▸ hP) (e ▸ hD) hS hl)
theorem g_aldc (C : gC k cc nL own Ts rm nm) {i : Int32} {n a j : Nat} {f : Nat → Option Nat} {v : Value} (q0 : Nat) (ha : ws[q0]? = some (a, .inl ((kD k).1 103, n, .inr (.inr (.inr (.inr f)))))) (hj : i.toNatClampNeg = j) (hin : ¬ (i < 0 ∨ n ≤ i.toNatClampNeg)) (hv : va_rf (f j) = v) (d : decode cc pc = .ok (.aaload, 1)) (h : gG k ws lv cs sl (pc + 1) (v :: st)) : gG k ws lv cs sl pc (.int i :: .ref a :: st) := by
  subst hj
  exact g_aldq hin C q0 ha hv d h
theorem g_icmp_ge_t (C : gC k cc nL own Ts rm nm) {x y : Int32} {off : Int} {tgt : Nat} (c : y ≤ x) (d : decode cc pc = .ok (.if_icmp .ge off, 3)) (ht : (pc : Int) + off = (tgt : Int)) (h : gG k ws lv cs sl tgt st) : gG k ws lv cs sl pc (.int y :: .int x :: st) :=
  fun H locs ls hP hD hS hl => lv_icmp_ge C.x C.b d ht (fun _ => h H locs ls hP hD hS hl) (fun q => absurd c q)
theorem g_icmp_ge_f (C : gC k cc nL own Ts rm nm) {x y : Int32} {off : Int} {tgt : Nat} (c : ¬ y ≤ x) (d : decode cc pc = .ok (.if_icmp .ge off, 3)) (ht : (pc : Int) + off = (tgt : Int)) (h : gG k ws lv cs sl (pc + 3) st) : gG k ws lv cs sl pc (.int y :: .int x :: st) :=
  fun H locs ls hP hD hS hl => lv_icmp_ge C.x C.b d ht (fun q => absurd q c) (fun _ => h H locs ls hP hD hS hl)
theorem g_int {x y : Int32} (e : x = y) (h : gG k ws lv cs sl pc (.int y :: st)) : gG k ws lv cs sl pc (.int x :: st) := e ▸ h
end GQ
/-- the six states behind the row, by their places -/
def wV6 (D : va_G) (a : Nat → Nat) (v : VV) : va_W := wS D (fun i => a (1 + i)) (v0 v) ++ (wS D (fun i => a (10 + i)) (v1 v) ++ (wS D (fun i => a (19 + i)) (v2 v) ++ (wS D (fun i => a (28 + i)) (v3 v) ++ (wS D (fun i => a (37 + i)) (v4 v) ++ wS D (fun i => a (46 + i)) (v5 v)))))
def wVx (D : va_G) (r : Nat) (a : Nat → Nat) (n : Int32) (f : Nat → Option Nat) (v : VV) : va_W := [(r, .inr (1, [.ref (a 0), .int n])), (a 0, .inl (D.1 103, 6, .inr (.inr (.inr (.inr f)))))] ++ wV6 D a v
def vF (a : Nat → Nat) : Nat → Option Nat := fun i => if i < 6 then some (a (1 + 9 * i)) else none
theorem wV_x (D : va_G) (r : Nat) (a : Nat → Nat) (v : VV) : wV D r a v = wVx D r a (vN v) (vF a) v := rfl
/-- the addresses in the row's new order, the first state's at the end -/
def vRot (a : Nat → Nat) : Nat → Nat := fun i => if i = 0 then a 0 else if i < 46 then a (i + 9) else a (i - 45)
def vFr (a : Nat → Nat) : Nat → Option Nat := va_up (va_up (va_up (va_up (va_up (va_up (vF a) 0 (some (a 10))) 1 (some (a 19))) 2 (some (a 28))) 3 (some (a 37))) 4 (some (a 46))) 5 (some (a 1))
theorem vFr_eq (a : Nat → Nat) : vFr a = vF (vRot a) := by
  funext i
  by_cases h : i < 6
  · match i, h with
    | 0, _ => rfl
    | 1, _ => rfl
    | 2, _ => rfl
    | 3, _ => rfl
    | 4, _ => rfl
    | 5, _ => rfl
  · simp [vFr, vF, va_up, h, show ¬ i = 0 by omega, show ¬ i = 1 by omega, show ¬ i = 2 by omega, show ¬ i = 3 by omega, show ¬ i = 4 by omega, show ¬ i = 5 by omega]
theorem inX2_dropOldest_X2 : ∀ w ∈ wsX20, w ∈ wsX2_dropOldest := by decide +kernel
theorem lkX2_dropOldest_11 : Cond.fieldLink RX2 11 "GaugeBlocks$SavedStates" (TX2 0).2.1 (TX2 0).2.2.1 ∈ wsX2_dropOldest := by decide +kernel
theorem lkX2_dropOldest_18 : Cond.fieldLink RX2 18 "GaugeBlocks$SavedStates" (TX2 1).2.1 (TX2 1).2.2.1 ∈ wsX2_dropOldest := by decide +kernel
theorem hdX2_dropOldest : yX2_dropOldest.cls = RX2 ∧ yX2_dropOldest.cls ≠ "java/lang/invoke/MethodHandle" ∧ yX2_dropOldest.cls ≠ "java/lang/invoke/VarHandle" ∧ (parseMethodDescriptor yX2_dropOldest.desc).map (fun d => d.parameters.length) = some 0 := by decide +kernel
abbrev rmX2_dropOldest : Room := { frames := 0, cells := 0, slots := 0, locals := 0 }
def fX2_dropOldest (z : VV) : VV := (5, v1 z, v2 z, v3 z, v4 z, v5 z, v0 z)
set_option maxRecDepth 100000 in
set_option maxHeartbeats 4000000 in
theorem wkX2_dropOldest {k : Kt} (C : gC k cX2_dropOldest 3 RX2 wsX2_dropOldest rmX2_dropOldest "dropOldest") (rV : Nat) (aV : Nat → Nat) (z : VV) (E : gE k (wV (kD k) rV aV z) (fun rv w => rv = none ∧ ∃ a, w = wV (kD k) rV a (fX2_dropOldest z)) (fun _ _ => False) 0 0 none []) : gG k (wV (kD k) rV aV z) [(0, .ref rV)] 0 0 0 [] := by
  refine g_world (wV_x (kD k) rV aV z) ?_
  refine g_aload_n (pc := 0) (x := rV) C dX2_dropOldest_0 rfl ?_
  refine g_getf (pc := 1) C 0 rfl rfl inX2_dropOldest_X2 0 (by decide) lkX2_dropOldest_11 rfl rfl dX2_dropOldest_1 ?_
  refine g_iconst (pc := 4) (v := 0) C dX2_dropOldest_4 (by decide) ?_
  refine g_aldc (pc := 5) (j := 0) (v := .ref (aV 1)) C 1 rfl (by decide) (by decide) rfl dX2_dropOldest_5 ?_
  refine g_astore_n (pc := 6) (lv' := [(1, .ref (aV 1)), (0, .ref rV)]) C dX2_dropOldest_6 (by decide) rfl ?_
  refine g_iconst (pc := 7) (v := 1) C dX2_dropOldest_7 (by decide) ?_
  refine g_istore_n (pc := 8) (lv' := [(2, .int 1), (1, .ref (aV 1)), (0, .ref rV)]) C dX2_dropOldest_8 (by decide) rfl ?_
  refine g_iload_n (pc := 9) (x := 1) C dX2_dropOldest_9 rfl ?_
  refine g_bipush (pc := 10) (v := 6) C dX2_dropOldest_10 (by decide) ?_
  refine g_icmp_ge_f (pc := 12) (tgt := 35) C (by decide) dX2_dropOldest_12 (by decide) ?_
  refine g_aload_n (pc := 15) (x := rV) C dX2_dropOldest_15 rfl ?_
  refine g_getf (pc := 16) C 0 rfl rfl inX2_dropOldest_X2 0 (by decide) lkX2_dropOldest_11 rfl rfl dX2_dropOldest_16 ?_
  refine g_iload_n (pc := 19) (x := 1) C dX2_dropOldest_19 rfl ?_
  refine g_iconst (pc := 20) (v := 1) C dX2_dropOldest_20 (by decide) ?_
  refine g_isub (pc := 21) (x := 1) (y := 1) C dX2_dropOldest_21 ?_
  refine g_int (y := 0) (by decide) ?_
  refine g_aload_n (pc := 22) (x := rV) C dX2_dropOldest_22 rfl ?_
  refine g_getf (pc := 23) C 0 rfl rfl inX2_dropOldest_X2 0 (by decide) lkX2_dropOldest_11 rfl rfl dX2_dropOldest_23 ?_
  refine g_iload_n (pc := 26) (x := 1) C dX2_dropOldest_26 rfl ?_
  refine g_aldc (pc := 27) (j := 1) (v := .ref (aV 10)) C 1 rfl (by decide) (by decide) rfl dX2_dropOldest_27 ?_
  refine g_astq (pc := 28) (j := 0) C 1 11 rfl rfl (by decide) (by decide) dX2_dropOldest_28 (ws' := (wVx (kD k) rV aV (vN z) (va_up (vF aV) 0 (some (aV 10))) z)) rfl ?_
  refine g_iinc (pc := 29) (x := 1) (v := 2) (lv' := [(2, .int 2), (1, .ref (aV 1)), (0, .ref rV)]) C dX2_dropOldest_29 rfl (by decide) (by decide) rfl ?_
  refine g_goto (pc := 32) (tgt := 9) C dX2_dropOldest_32 (by decide) ?_
  refine g_iload_n (pc := 9) (x := 2) C dX2_dropOldest_9 rfl ?_
  refine g_bipush (pc := 10) (v := 6) C dX2_dropOldest_10 (by decide) ?_
  refine g_icmp_ge_f (pc := 12) (tgt := 35) C (by decide) dX2_dropOldest_12 (by decide) ?_
  refine g_aload_n (pc := 15) (x := rV) C dX2_dropOldest_15 rfl ?_
  refine g_getf (pc := 16) C 0 rfl rfl inX2_dropOldest_X2 0 (by decide) lkX2_dropOldest_11 rfl rfl dX2_dropOldest_16 ?_
  refine g_iload_n (pc := 19) (x := 2) C dX2_dropOldest_19 rfl ?_
  refine g_iconst (pc := 20) (v := 1) C dX2_dropOldest_20 (by decide) ?_
  refine g_isub (pc := 21) (x := 2) (y := 1) C dX2_dropOldest_21 ?_
  refine g_int (y := 1) (by decide) ?_
  refine g_aload_n (pc := 22) (x := rV) C dX2_dropOldest_22 rfl ?_
  refine g_getf (pc := 23) C 0 rfl rfl inX2_dropOldest_X2 0 (by decide) lkX2_dropOldest_11 rfl rfl dX2_dropOldest_23 ?_
  refine g_iload_n (pc := 26) (x := 2) C dX2_dropOldest_26 rfl ?_
  refine g_aldc (pc := 27) (j := 2) (v := .ref (aV 19)) C 1 rfl (by decide) (by decide) rfl dX2_dropOldest_27 ?_
  refine g_astq (pc := 28) (j := 1) C 1 20 rfl rfl (by decide) (by decide) dX2_dropOldest_28 (ws' := (wVx (kD k) rV aV (vN z) (va_up (va_up (vF aV) 0 (some (aV 10))) 1 (some (aV 19))) z)) rfl ?_
  refine g_iinc (pc := 29) (x := 2) (v := 3) (lv' := [(2, .int 3), (1, .ref (aV 1)), (0, .ref rV)]) C dX2_dropOldest_29 rfl (by decide) (by decide) rfl ?_
  refine g_goto (pc := 32) (tgt := 9) C dX2_dropOldest_32 (by decide) ?_
  refine g_iload_n (pc := 9) (x := 3) C dX2_dropOldest_9 rfl ?_
  refine g_bipush (pc := 10) (v := 6) C dX2_dropOldest_10 (by decide) ?_
  refine g_icmp_ge_f (pc := 12) (tgt := 35) C (by decide) dX2_dropOldest_12 (by decide) ?_
  refine g_aload_n (pc := 15) (x := rV) C dX2_dropOldest_15 rfl ?_
  refine g_getf (pc := 16) C 0 rfl rfl inX2_dropOldest_X2 0 (by decide) lkX2_dropOldest_11 rfl rfl dX2_dropOldest_16 ?_
  refine g_iload_n (pc := 19) (x := 3) C dX2_dropOldest_19 rfl ?_
  refine g_iconst (pc := 20) (v := 1) C dX2_dropOldest_20 (by decide) ?_
  refine g_isub (pc := 21) (x := 3) (y := 1) C dX2_dropOldest_21 ?_
  refine g_int (y := 2) (by decide) ?_
  refine g_aload_n (pc := 22) (x := rV) C dX2_dropOldest_22 rfl ?_
  refine g_getf (pc := 23) C 0 rfl rfl inX2_dropOldest_X2 0 (by decide) lkX2_dropOldest_11 rfl rfl dX2_dropOldest_23 ?_
  refine g_iload_n (pc := 26) (x := 3) C dX2_dropOldest_26 rfl ?_
  refine g_aldc (pc := 27) (j := 3) (v := .ref (aV 28)) C 1 rfl (by decide) (by decide) rfl dX2_dropOldest_27 ?_
  refine g_astq (pc := 28) (j := 2) C 1 29 rfl rfl (by decide) (by decide) dX2_dropOldest_28 (ws' := (wVx (kD k) rV aV (vN z) (va_up (va_up (va_up (vF aV) 0 (some (aV 10))) 1 (some (aV 19))) 2 (some (aV 28))) z)) rfl ?_
  refine g_iinc (pc := 29) (x := 3) (v := 4) (lv' := [(2, .int 4), (1, .ref (aV 1)), (0, .ref rV)]) C dX2_dropOldest_29 rfl (by decide) (by decide) rfl ?_
  refine g_goto (pc := 32) (tgt := 9) C dX2_dropOldest_32 (by decide) ?_
  refine g_iload_n (pc := 9) (x := 4) C dX2_dropOldest_9 rfl ?_
  refine g_bipush (pc := 10) (v := 6) C dX2_dropOldest_10 (by decide) ?_
  refine g_icmp_ge_f (pc := 12) (tgt := 35) C (by decide) dX2_dropOldest_12 (by decide) ?_
  refine g_aload_n (pc := 15) (x := rV) C dX2_dropOldest_15 rfl ?_
  refine g_getf (pc := 16) C 0 rfl rfl inX2_dropOldest_X2 0 (by decide) lkX2_dropOldest_11 rfl rfl dX2_dropOldest_16 ?_
  refine g_iload_n (pc := 19) (x := 4) C dX2_dropOldest_19 rfl ?_
  refine g_iconst (pc := 20) (v := 1) C dX2_dropOldest_20 (by decide) ?_
  refine g_isub (pc := 21) (x := 4) (y := 1) C dX2_dropOldest_21 ?_
  refine g_int (y := 3) (by decide) ?_
  refine g_aload_n (pc := 22) (x := rV) C dX2_dropOldest_22 rfl ?_
  refine g_getf (pc := 23) C 0 rfl rfl inX2_dropOldest_X2 0 (by decide) lkX2_dropOldest_11 rfl rfl dX2_dropOldest_23 ?_
  refine g_iload_n (pc := 26) (x := 4) C dX2_dropOldest_26 rfl ?_
  refine g_aldc (pc := 27) (j := 4) (v := .ref (aV 37)) C 1 rfl (by decide) (by decide) rfl dX2_dropOldest_27 ?_
  refine g_astq (pc := 28) (j := 3) C 1 38 rfl rfl (by decide) (by decide) dX2_dropOldest_28 (ws' := (wVx (kD k) rV aV (vN z) (va_up (va_up (va_up (va_up (vF aV) 0 (some (aV 10))) 1 (some (aV 19))) 2 (some (aV 28))) 3 (some (aV 37))) z)) rfl ?_
  refine g_iinc (pc := 29) (x := 4) (v := 5) (lv' := [(2, .int 5), (1, .ref (aV 1)), (0, .ref rV)]) C dX2_dropOldest_29 rfl (by decide) (by decide) rfl ?_
  refine g_goto (pc := 32) (tgt := 9) C dX2_dropOldest_32 (by decide) ?_
  refine g_iload_n (pc := 9) (x := 5) C dX2_dropOldest_9 rfl ?_
  refine g_bipush (pc := 10) (v := 6) C dX2_dropOldest_10 (by decide) ?_
  refine g_icmp_ge_f (pc := 12) (tgt := 35) C (by decide) dX2_dropOldest_12 (by decide) ?_
  refine g_aload_n (pc := 15) (x := rV) C dX2_dropOldest_15 rfl ?_
  refine g_getf (pc := 16) C 0 rfl rfl inX2_dropOldest_X2 0 (by decide) lkX2_dropOldest_11 rfl rfl dX2_dropOldest_16 ?_
  refine g_iload_n (pc := 19) (x := 5) C dX2_dropOldest_19 rfl ?_
  refine g_iconst (pc := 20) (v := 1) C dX2_dropOldest_20 (by decide) ?_
  refine g_isub (pc := 21) (x := 5) (y := 1) C dX2_dropOldest_21 ?_
  refine g_int (y := 4) (by decide) ?_
  refine g_aload_n (pc := 22) (x := rV) C dX2_dropOldest_22 rfl ?_
  refine g_getf (pc := 23) C 0 rfl rfl inX2_dropOldest_X2 0 (by decide) lkX2_dropOldest_11 rfl rfl dX2_dropOldest_23 ?_
  refine g_iload_n (pc := 26) (x := 5) C dX2_dropOldest_26 rfl ?_
  refine g_aldc (pc := 27) (j := 5) (v := .ref (aV 46)) C 1 rfl (by decide) (by decide) rfl dX2_dropOldest_27 ?_
  refine g_astq (pc := 28) (j := 4) C 1 47 rfl rfl (by decide) (by decide) dX2_dropOldest_28 (ws' := (wVx (kD k) rV aV (vN z) (va_up (va_up (va_up (va_up (va_up (vF aV) 0 (some (aV 10))) 1 (some (aV 19))) 2 (some (aV 28))) 3 (some (aV 37))) 4 (some (aV 46))) z)) rfl ?_
  refine g_iinc (pc := 29) (x := 5) (v := 6) (lv' := [(2, .int 6), (1, .ref (aV 1)), (0, .ref rV)]) C dX2_dropOldest_29 rfl (by decide) (by decide) rfl ?_
  refine g_goto (pc := 32) (tgt := 9) C dX2_dropOldest_32 (by decide) ?_
  refine g_iload_n (pc := 9) (x := 6) C dX2_dropOldest_9 rfl ?_
  refine g_bipush (pc := 10) (v := 6) C dX2_dropOldest_10 (by decide) ?_
  refine g_icmp_ge_t (pc := 12) (tgt := 35) C (by decide) dX2_dropOldest_12 (by decide) ?_
  refine g_aload_n (pc := 35) (x := rV) C dX2_dropOldest_35 rfl ?_
  refine g_getf (pc := 36) C 0 rfl rfl inX2_dropOldest_X2 0 (by decide) lkX2_dropOldest_11 rfl rfl dX2_dropOldest_36 ?_
  refine g_iconst (pc := 39) (v := 5) C dX2_dropOldest_39 (by decide) ?_
  refine g_aload_n (pc := 40) (x := (aV 1)) C dX2_dropOldest_40 rfl ?_
  refine g_astq (pc := 41) (j := 5) C 1 2 rfl rfl (by decide) (by decide) dX2_dropOldest_41 (ws' := (wVx (kD k) rV aV (vN z) (va_up (va_up (va_up (va_up (va_up (va_up (vF aV) 0 (some (aV 10))) 1 (some (aV 19))) 2 (some (aV 28))) 3 (some (aV 37))) 4 (some (aV 46))) 5 (some (aV 1))) z)) rfl ?_
  refine g_aload_n (pc := 42) (x := rV) C dX2_dropOldest_42 rfl ?_
  refine g_iconst (pc := 43) (v := 5) C dX2_dropOldest_43 (by decide) ?_
  refine g_putf (pc := 44) C 0 rfl rfl inX2_dropOldest_X2 tyX2 tyX2_ok nmX2 1 (by decide) lkX2_dropOldest_18 rfl rfl pfX2_1 rfl rfl (Nat.le_of_ble_eq_true rfl) dX2_dropOldest_44 (ws' := (wVx (kD k) rV aV 5 (va_up (va_up (va_up (va_up (va_up (va_up (vF aV) 0 (some (aV 10))) 1 (some (aV 19))) 2 (some (aV 28))) 3 (some (aV 37))) 4 (some (aV 46))) 5 (some (aV 1))) z)) rfl ?_
  refine g_world (ws' := wVx (kD k) rV aV 5 (vFr aV) z) rfl ?_
  rw [vFr_eq]
  refine g_perm [0, 1, 11, 12, 13, 14, 15, 16, 17, 18, 19, 20, 21, 22, 23, 24, 25, 26, 27, 28, 29, 30, 31, 32, 33, 34, 35, 36, 37, 38, 39, 40, 41, 42, 43, 44, 45, 46, 47, 48, 49, 50, 51, 52, 53, 54, 55, 2, 3, 4, 5, 6, 7, 8, 9, 10] (ws' := wV (kD k) rV (vRot aV) (fX2_dropOldest z)) rfl (by decide) ?_
  exact g_vret C E dX2_dropOldest_47 (Nat.le_of_ble_eq_true rfl) (Nat.le_of_ble_eq_true rfl) ⟨rfl, _, rfl⟩
set_option maxRecDepth 100000 in
set_option maxHeartbeats 4000000 in
theorem cX2_dropOldest_ (l : Launch) (htr : l.stackTraces = false) (D : va_G) (rV : Nat) (aV : Nat → Nat) (z : VV) : Tc l D yX2_dropOldest wsX2_dropOldest rmX2_dropOldest [.ref rV] (wV D rV aV z) (fun rv w => rv = none ∧ ∃ a, w = wV D rV a (fX2_dropOldest z)) (fun _ _ => False) 0 0 := Tc_of htr (by decide +kernel) rfl (Nat.le_of_ble_eq_true rfl) (fun k C E hl hD => by subst hD; exact wkX2_dropOldest C rV aV z E)
def wVh (D : va_G) (r : Nat) (a : Nat → Nat) (n : Int32) : va_W := [(r, .inr (1, [.ref (a 0), .int n])), (a 0, .inl (D.1 103, 6, .inr (.inr (.inr (.inr (fun i => if i < 6 then some (a (1 + 9 * i)) else none))))))]
theorem inX2_push_X2 : ∀ w ∈ wsX20, w ∈ wsX2_push := by decide +kernel
theorem lkX2_push_11 : Cond.fieldLink RX2 11 "GaugeBlocks$SavedStates" (TX2 0).2.1 (TX2 0).2.2.1 ∈ wsX2_push := by decide +kernel
theorem lkX2_push_18 : Cond.fieldLink RX2 18 "GaugeBlocks$SavedStates" (TX2 1).2.1 (TX2 1).2.2.1 ∈ wsX2_push := by decide +kernel
theorem hdX2_push : yX2_push.cls = RX2 ∧ yX2_push.cls ≠ "java/lang/invoke/MethodHandle" ∧ yX2_push.cls ≠ "java/lang/invoke/VarHandle" ∧ (parseMethodDescriptor yX2_push.desc).map (fun d => d.parameters.length) = some 1 := by decide +kernel
abbrev rmX2_push : Room := { frames := 2, cells := 0, slots := 0, locals := 90 }
def fX2_pushAt (N : Nat) (z : VV) (v : VS) : Option VV := (if vN z = 0 then ((fX3_copyFrom N (v0 z) v).bind fun c => some (vN z + 1, c, v1 z, v2 z, v3 z, v4 z, v5 z)) else (if vN z = 1 then ((fX3_copyFrom N (v1 z) v).bind fun c => some (vN z + 1, v0 z, c, v2 z, v3 z, v4 z, v5 z)) else (if vN z = 2 then ((fX3_copyFrom N (v2 z) v).bind fun c => some (vN z + 1, v0 z, v1 z, c, v3 z, v4 z, v5 z)) else (if vN z = 3 then ((fX3_copyFrom N (v3 z) v).bind fun c => some (vN z + 1, v0 z, v1 z, v2 z, c, v4 z, v5 z)) else (if vN z = 4 then ((fX3_copyFrom N (v4 z) v).bind fun c => some (vN z + 1, v0 z, v1 z, v2 z, v3 z, c, v5 z)) else (if vN z = 5 then ((fX3_copyFrom N (v5 z) v).bind fun c => some (vN z + 1, v0 z, v1 z, v2 z, v3 z, v4 z, c)) else none))))))
def fX2_push (N : Nat) (v : VS) (z : VV) : Option VV := if vN z < 6 then fX2_pushAt N z v else fX2_pushAt N (fX2_dropOldest z) v
set_option maxRecDepth 100000 in
set_option maxHeartbeats 4000000 in
theorem wjX2_push_13 {k : Kt} (C : gC k cX2_push 2 RX2 wsX2_push rmX2_push "push") (N : Nat) (rV : Nat) (zaV : Nat → Nat) (zz : VV) (aV : Nat → Nat) (z : VV) (aS : Nat → Nat) (v : VS) (r : VV) (hf : fX2_pushAt N z v = some r) (E : gE k (wS (kD k) aS v ++ wV (kD k) rV zaV zz) (fun rv w => rv = none ∧ ∃ a, w = wS (kD k) aS v ++ wV (kD k) rV a r) (fun _ _ => False) 0 0 none []) : gG k (wS (kD k) aS v ++ wV (kD k) rV aV z) [(0, .ref rV), (1, .ref (aS 0))] 0 0 13 [] := by
  unfold fX2_pushAt at hf
  refine g_world (ws' := (wS (kD k) aS v ++ (wVh (kD k) rV aV (vN z) ++ (wS (kD k) (fun i => aV (1 + i)) (v0 z) ++ (wS (kD k) (fun i => aV (10 + i)) (v1 z) ++ (wS (kD k) (fun i => aV (19 + i)) (v2 z) ++ (wS (kD k) (fun i => aV (28 + i)) (v3 z) ++ (wS (kD k) (fun i => aV (37 + i)) (v4 z) ++ (wS (kD k) (fun i => aV (46 + i)) (v5 z)))))))))) rfl ?_
  refine g_split hf (fun e hf => ?_) (fun _ hf => ?_)
  · refine g_aload_n (pc := 13) (x := rV) C dX2_push_13 rfl ?_
    refine g_getf (pc := 14) C 9 rfl rfl inX2_push_X2 0 (by decide) lkX2_push_11 rfl rfl dX2_push_14 ?_
    refine g_aload_n (pc := 17) (x := rV) C dX2_push_17 rfl ?_
    refine g_getf (pc := 18) C 9 rfl rfl inX2_push_X2 1 (by decide) lkX2_push_18 rfl rfl dX2_push_18 ?_
    refine g_aldc (pc := 21) (i := vN z) (j := 0) (v := .ref (aV 1)) C 10 rfl (by rw [e]; decide) (by rw [e]; decide) rfl dX2_push_21 ?_
    refine g_aload_n (pc := 22) (x := (aS 0)) C dX2_push_22 rfl ?_
    refine g_callWA (wr := wVh (kD k) rV aV (vN z) ++ (wS (kD k) (fun i => aV (10 + i)) (v1 z) ++ (wS (kD k) (fun i => aV (19 + i)) (v2 z) ++ (wS (kD k) (fun i => aV (28 + i)) (v3 z) ++ (wS (kD k) (fun i => aV (37 + i)) (v4 z) ++ (wS (kD k) (fun i => aV (46 + i)) (v5 z))))))) (pc' := 26) (cs' := 0) (sl' := 0) hf C (fun u => none) (fun u => (wS (kD k) (fun i => aV (1 + i)) u ++ wS (kD k) aS v)) ((pm0 (pm0 (List.Perm.refl _))).trans as2) (fun u hu => gr_V (rest := []) C (cX3_copyFrom_ (kL k) C.tr (kD k) N (fun i => aV (1 + i)) aS (v0 z) v u hu) (fun ht => cwV 1 ht gX2_push_X3_copyFrom rfl rfl rfl hdX3_copyFrom ⟨(Nat.le_of_ble_eq_true rfl), (Nat.le_of_ble_eq_true rfl)⟩) 0 rfl rfl _ (rg_map _ _) (rg_nd _) rfl rfl (Nat.le_of_ble_eq_true rfl) dX2_push_23 ⟨(Nat.le_of_ble_eq_true rfl), (Nat.le_of_ble_eq_true rfl)⟩) (ws' := fun u => (wS (kD k) aS v ++ (wVh (kD k) rV aV (vN z) ++ (wS (kD k) (fun i => aV (1 + i)) u ++ (wS (kD k) (fun i => aV (10 + i)) (v1 z) ++ (wS (kD k) (fun i => aV (19 + i)) (v2 z) ++ (wS (kD k) (fun i => aV (28 + i)) (v3 z) ++ (wS (kD k) (fun i => aV (37 + i)) (v4 z) ++ (wS (kD k) (fun i => aV (46 + i)) (v5 z)))))))))) (fun u => (as2.symm.trans ((pm0 (List.Perm.refl _)).trans (pmc (pm0 (List.Perm.refl _)))))) rfl rfl rfl (fun u => []) (fun u => rfl) (fun c hf => ?_)
    obtain rfl := Option.some.inj hf
    refine g_aload_n (pc := 26) (x := rV) C dX2_push_26 rfl ?_
    refine g_dup (pc := 27) C dX2_push_27 rfl ?_
    refine g_getf (pc := 28) C 9 rfl rfl inX2_push_X2 1 (by decide) lkX2_push_18 rfl rfl dX2_push_28 ?_
    refine g_iconst (pc := 31) (v := 1) C dX2_push_31 (by decide) ?_
    refine g_iadd (pc := 32) (x := vN z) (y := 1) C dX2_push_32 ?_
    refine g_putf (pc := 33) C 9 rfl rfl inX2_push_X2 tyX2 tyX2_ok nmX2 1 (by decide) lkX2_push_18 rfl rfl pfX2_1 rfl rfl (Nat.le_of_ble_eq_true rfl) dX2_push_33 (ws' := (wS (kD k) aS v ++ wV (kD k) rV aV (vN z + 1, c, v1 z, v2 z, v3 z, v4 z, v5 z))) rfl ?_
    exact g_vret C E dX2_push_36 (Nat.le_of_ble_eq_true rfl) (Nat.le_of_ble_eq_true rfl) ⟨rfl, _, rfl⟩
  refine g_split hf (fun e hf => ?_) (fun _ hf => ?_)
  · refine g_aload_n (pc := 13) (x := rV) C dX2_push_13 rfl ?_
    refine g_getf (pc := 14) C 9 rfl rfl inX2_push_X2 0 (by decide) lkX2_push_11 rfl rfl dX2_push_14 ?_
    refine g_aload_n (pc := 17) (x := rV) C dX2_push_17 rfl ?_
    refine g_getf (pc := 18) C 9 rfl rfl inX2_push_X2 1 (by decide) lkX2_push_18 rfl rfl dX2_push_18 ?_
    refine g_aldc (pc := 21) (i := vN z) (j := 1) (v := .ref (aV 10)) C 10 rfl (by rw [e]; decide) (by rw [e]; decide) rfl dX2_push_21 ?_
    refine g_aload_n (pc := 22) (x := (aS 0)) C dX2_push_22 rfl ?_
    refine g_callWA (wr := wVh (kD k) rV aV (vN z) ++ (wS (kD k) (fun i => aV (1 + i)) (v0 z) ++ (wS (kD k) (fun i => aV (19 + i)) (v2 z) ++ (wS (kD k) (fun i => aV (28 + i)) (v3 z) ++ (wS (kD k) (fun i => aV (37 + i)) (v4 z) ++ (wS (kD k) (fun i => aV (46 + i)) (v5 z))))))) (pc' := 26) (cs' := 0) (sl' := 0) hf C (fun u => none) (fun u => (wS (kD k) (fun i => aV (10 + i)) u ++ wS (kD k) aS v)) ((pm0 (pm0 (pm0 (List.Perm.refl _)))).trans as2) (fun u hu => gr_V (rest := []) C (cX3_copyFrom_ (kL k) C.tr (kD k) N (fun i => aV (10 + i)) aS (v1 z) v u hu) (fun ht => cwV 1 ht gX2_push_X3_copyFrom rfl rfl rfl hdX3_copyFrom ⟨(Nat.le_of_ble_eq_true rfl), (Nat.le_of_ble_eq_true rfl)⟩) 0 rfl rfl _ (rg_map _ _) (rg_nd _) rfl rfl (Nat.le_of_ble_eq_true rfl) dX2_push_23 ⟨(Nat.le_of_ble_eq_true rfl), (Nat.le_of_ble_eq_true rfl)⟩) (ws' := fun u => (wS (kD k) aS v ++ (wVh (kD k) rV aV (vN z) ++ (wS (kD k) (fun i => aV (1 + i)) (v0 z) ++ (wS (kD k) (fun i => aV (10 + i)) u ++ (wS (kD k) (fun i => aV (19 + i)) (v2 z) ++ (wS (kD k) (fun i => aV (28 + i)) (v3 z) ++ (wS (kD k) (fun i => aV (37 + i)) (v4 z) ++ (wS (kD k) (fun i => aV (46 + i)) (v5 z)))))))))) (fun u => (as2.symm.trans ((pm0 (List.Perm.refl _)).trans (pmc ((pm0 (List.Perm.refl _)).trans (pmc (pm0 (List.Perm.refl _)))))))) rfl rfl rfl (fun u => []) (fun u => rfl) (fun c hf => ?_)
    obtain rfl := Option.some.inj hf
    refine g_aload_n (pc := 26) (x := rV) C dX2_push_26 rfl ?_
    refine g_dup (pc := 27) C dX2_push_27 rfl ?_
    refine g_getf (pc := 28) C 9 rfl rfl inX2_push_X2 1 (by decide) lkX2_push_18 rfl rfl dX2_push_28 ?_
    refine g_iconst (pc := 31) (v := 1) C dX2_push_31 (by decide) ?_
    refine g_iadd (pc := 32) (x := vN z) (y := 1) C dX2_push_32 ?_
    refine g_putf (pc := 33) C 9 rfl rfl inX2_push_X2 tyX2 tyX2_ok nmX2 1 (by decide) lkX2_push_18 rfl rfl pfX2_1 rfl rfl (Nat.le_of_ble_eq_true rfl) dX2_push_33 (ws' := (wS (kD k) aS v ++ wV (kD k) rV aV (vN z + 1, v0 z, c, v2 z, v3 z, v4 z, v5 z))) rfl ?_
    exact g_vret C E dX2_push_36 (Nat.le_of_ble_eq_true rfl) (Nat.le_of_ble_eq_true rfl) ⟨rfl, _, rfl⟩
  refine g_split hf (fun e hf => ?_) (fun _ hf => ?_)
  · refine g_aload_n (pc := 13) (x := rV) C dX2_push_13 rfl ?_
    refine g_getf (pc := 14) C 9 rfl rfl inX2_push_X2 0 (by decide) lkX2_push_11 rfl rfl dX2_push_14 ?_
    refine g_aload_n (pc := 17) (x := rV) C dX2_push_17 rfl ?_
    refine g_getf (pc := 18) C 9 rfl rfl inX2_push_X2 1 (by decide) lkX2_push_18 rfl rfl dX2_push_18 ?_
    refine g_aldc (pc := 21) (i := vN z) (j := 2) (v := .ref (aV 19)) C 10 rfl (by rw [e]; decide) (by rw [e]; decide) rfl dX2_push_21 ?_
    refine g_aload_n (pc := 22) (x := (aS 0)) C dX2_push_22 rfl ?_
    refine g_callWA (wr := wVh (kD k) rV aV (vN z) ++ (wS (kD k) (fun i => aV (1 + i)) (v0 z) ++ (wS (kD k) (fun i => aV (10 + i)) (v1 z) ++ (wS (kD k) (fun i => aV (28 + i)) (v3 z) ++ (wS (kD k) (fun i => aV (37 + i)) (v4 z) ++ (wS (kD k) (fun i => aV (46 + i)) (v5 z))))))) (pc' := 26) (cs' := 0) (sl' := 0) hf C (fun u => none) (fun u => (wS (kD k) (fun i => aV (19 + i)) u ++ wS (kD k) aS v)) ((pm0 (pm0 (pm0 (pm0 (List.Perm.refl _))))).trans as2) (fun u hu => gr_V (rest := []) C (cX3_copyFrom_ (kL k) C.tr (kD k) N (fun i => aV (19 + i)) aS (v2 z) v u hu) (fun ht => cwV 1 ht gX2_push_X3_copyFrom rfl rfl rfl hdX3_copyFrom ⟨(Nat.le_of_ble_eq_true rfl), (Nat.le_of_ble_eq_true rfl)⟩) 0 rfl rfl _ (rg_map _ _) (rg_nd _) rfl rfl (Nat.le_of_ble_eq_true rfl) dX2_push_23 ⟨(Nat.le_of_ble_eq_true rfl), (Nat.le_of_ble_eq_true rfl)⟩) (ws' := fun u => (wS (kD k) aS v ++ (wVh (kD k) rV aV (vN z) ++ (wS (kD k) (fun i => aV (1 + i)) (v0 z) ++ (wS (kD k) (fun i => aV (10 + i)) (v1 z) ++ (wS (kD k) (fun i => aV (19 + i)) u ++ (wS (kD k) (fun i => aV (28 + i)) (v3 z) ++ (wS (kD k) (fun i => aV (37 + i)) (v4 z) ++ (wS (kD k) (fun i => aV (46 + i)) (v5 z)))))))))) (fun u => (as2.symm.trans ((pm0 (List.Perm.refl _)).trans (pmc ((pm0 (List.Perm.refl _)).trans (pmc ((pm0 (List.Perm.refl _)).trans (pmc (pm0 (List.Perm.refl _)))))))))) rfl rfl rfl (fun u => []) (fun u => rfl) (fun c hf => ?_)
    obtain rfl := Option.some.inj hf
    refine g_aload_n (pc := 26) (x := rV) C dX2_push_26 rfl ?_
    refine g_dup (pc := 27) C dX2_push_27 rfl ?_
    refine g_getf (pc := 28) C 9 rfl rfl inX2_push_X2 1 (by decide) lkX2_push_18 rfl rfl dX2_push_28 ?_
    refine g_iconst (pc := 31) (v := 1) C dX2_push_31 (by decide) ?_
    refine g_iadd (pc := 32) (x := vN z) (y := 1) C dX2_push_32 ?_
    refine g_putf (pc := 33) C 9 rfl rfl inX2_push_X2 tyX2 tyX2_ok nmX2 1 (by decide) lkX2_push_18 rfl rfl pfX2_1 rfl rfl (Nat.le_of_ble_eq_true rfl) dX2_push_33 (ws' := (wS (kD k) aS v ++ wV (kD k) rV aV (vN z + 1, v0 z, v1 z, c, v3 z, v4 z, v5 z))) rfl ?_
    exact g_vret C E dX2_push_36 (Nat.le_of_ble_eq_true rfl) (Nat.le_of_ble_eq_true rfl) ⟨rfl, _, rfl⟩
  refine g_split hf (fun e hf => ?_) (fun _ hf => ?_)
  · refine g_aload_n (pc := 13) (x := rV) C dX2_push_13 rfl ?_
    refine g_getf (pc := 14) C 9 rfl rfl inX2_push_X2 0 (by decide) lkX2_push_11 rfl rfl dX2_push_14 ?_
    refine g_aload_n (pc := 17) (x := rV) C dX2_push_17 rfl ?_
    refine g_getf (pc := 18) C 9 rfl rfl inX2_push_X2 1 (by decide) lkX2_push_18 rfl rfl dX2_push_18 ?_
    refine g_aldc (pc := 21) (i := vN z) (j := 3) (v := .ref (aV 28)) C 10 rfl (by rw [e]; decide) (by rw [e]; decide) rfl dX2_push_21 ?_
    refine g_aload_n (pc := 22) (x := (aS 0)) C dX2_push_22 rfl ?_
    refine g_callWA (wr := wVh (kD k) rV aV (vN z) ++ (wS (kD k) (fun i => aV (1 + i)) (v0 z) ++ (wS (kD k) (fun i => aV (10 + i)) (v1 z) ++ (wS (kD k) (fun i => aV (19 + i)) (v2 z) ++ (wS (kD k) (fun i => aV (37 + i)) (v4 z) ++ (wS (kD k) (fun i => aV (46 + i)) (v5 z))))))) (pc' := 26) (cs' := 0) (sl' := 0) hf C (fun u => none) (fun u => (wS (kD k) (fun i => aV (28 + i)) u ++ wS (kD k) aS v)) ((pm0 (pm0 (pm0 (pm0 (pm0 (List.Perm.refl _)))))).trans as2) (fun u hu => gr_V (rest := []) C (cX3_copyFrom_ (kL k) C.tr (kD k) N (fun i => aV (28 + i)) aS (v3 z) v u hu) (fun ht => cwV 1 ht gX2_push_X3_copyFrom rfl rfl rfl hdX3_copyFrom ⟨(Nat.le_of_ble_eq_true rfl), (Nat.le_of_ble_eq_true rfl)⟩) 0 rfl rfl _ (rg_map _ _) (rg_nd _) rfl rfl (Nat.le_of_ble_eq_true rfl) dX2_push_23 ⟨(Nat.le_of_ble_eq_true rfl), (Nat.le_of_ble_eq_true rfl)⟩) (ws' := fun u => (wS (kD k) aS v ++ (wVh (kD k) rV aV (vN z) ++ (wS (kD k) (fun i => aV (1 + i)) (v0 z) ++ (wS (kD k) (fun i => aV (10 + i)) (v1 z) ++ (wS (kD k) (fun i => aV (19 + i)) (v2 z) ++ (wS (kD k) (fun i => aV (28 + i)) u ++ (wS (kD k) (fun i => aV (37 + i)) (v4 z) ++ (wS (kD k) (fun i => aV (46 + i)) (v5 z)))))))))) (fun u => (as2.symm.trans ((pm0 (List.Perm.refl _)).trans (pmc ((pm0 (List.Perm.refl _)).trans (pmc ((pm0 (List.Perm.refl _)).trans (pmc ((pm0 (List.Perm.refl _)).trans (pmc (pm0 (List.Perm.refl _)))))))))))) rfl rfl rfl (fun u => []) (fun u => rfl) (fun c hf => ?_)
    obtain rfl := Option.some.inj hf
    refine g_aload_n (pc := 26) (x := rV) C dX2_push_26 rfl ?_
    refine g_dup (pc := 27) C dX2_push_27 rfl ?_
    refine g_getf (pc := 28) C 9 rfl rfl inX2_push_X2 1 (by decide) lkX2_push_18 rfl rfl dX2_push_28 ?_
    refine g_iconst (pc := 31) (v := 1) C dX2_push_31 (by decide) ?_
    refine g_iadd (pc := 32) (x := vN z) (y := 1) C dX2_push_32 ?_
    refine g_putf (pc := 33) C 9 rfl rfl inX2_push_X2 tyX2 tyX2_ok nmX2 1 (by decide) lkX2_push_18 rfl rfl pfX2_1 rfl rfl (Nat.le_of_ble_eq_true rfl) dX2_push_33 (ws' := (wS (kD k) aS v ++ wV (kD k) rV aV (vN z + 1, v0 z, v1 z, v2 z, c, v4 z, v5 z))) rfl ?_
    exact g_vret C E dX2_push_36 (Nat.le_of_ble_eq_true rfl) (Nat.le_of_ble_eq_true rfl) ⟨rfl, _, rfl⟩
  refine g_split hf (fun e hf => ?_) (fun _ hf => ?_)
  · refine g_aload_n (pc := 13) (x := rV) C dX2_push_13 rfl ?_
    refine g_getf (pc := 14) C 9 rfl rfl inX2_push_X2 0 (by decide) lkX2_push_11 rfl rfl dX2_push_14 ?_
    refine g_aload_n (pc := 17) (x := rV) C dX2_push_17 rfl ?_
    refine g_getf (pc := 18) C 9 rfl rfl inX2_push_X2 1 (by decide) lkX2_push_18 rfl rfl dX2_push_18 ?_
    refine g_aldc (pc := 21) (i := vN z) (j := 4) (v := .ref (aV 37)) C 10 rfl (by rw [e]; decide) (by rw [e]; decide) rfl dX2_push_21 ?_
    refine g_aload_n (pc := 22) (x := (aS 0)) C dX2_push_22 rfl ?_
    refine g_callWA (wr := wVh (kD k) rV aV (vN z) ++ (wS (kD k) (fun i => aV (1 + i)) (v0 z) ++ (wS (kD k) (fun i => aV (10 + i)) (v1 z) ++ (wS (kD k) (fun i => aV (19 + i)) (v2 z) ++ (wS (kD k) (fun i => aV (28 + i)) (v3 z) ++ (wS (kD k) (fun i => aV (46 + i)) (v5 z))))))) (pc' := 26) (cs' := 0) (sl' := 0) hf C (fun u => none) (fun u => (wS (kD k) (fun i => aV (37 + i)) u ++ wS (kD k) aS v)) ((pm0 (pm0 (pm0 (pm0 (pm0 (pm0 (List.Perm.refl _))))))).trans as2) (fun u hu => gr_V (rest := []) C (cX3_copyFrom_ (kL k) C.tr (kD k) N (fun i => aV (37 + i)) aS (v4 z) v u hu) (fun ht => cwV 1 ht gX2_push_X3_copyFrom rfl rfl rfl hdX3_copyFrom ⟨(Nat.le_of_ble_eq_true rfl), (Nat.le_of_ble_eq_true rfl)⟩) 0 rfl rfl _ (rg_map _ _) (rg_nd _) rfl rfl (Nat.le_of_ble_eq_true rfl) dX2_push_23 ⟨(Nat.le_of_ble_eq_true rfl), (Nat.le_of_ble_eq_true rfl)⟩) (ws' := fun u => (wS (kD k) aS v ++ (wVh (kD k) rV aV (vN z) ++ (wS (kD k) (fun i => aV (1 + i)) (v0 z) ++ (wS (kD k) (fun i => aV (10 + i)) (v1 z) ++ (wS (kD k) (fun i => aV (19 + i)) (v2 z) ++ (wS (kD k) (fun i => aV (28 + i)) (v3 z) ++ (wS (kD k) (fun i => aV (37 + i)) u ++ (wS (kD k) (fun i => aV (46 + i)) (v5 z)))))))))) (fun u => (as2.symm.trans ((pm0 (List.Perm.refl _)).trans (pmc ((pm0 (List.Perm.refl _)).trans (pmc ((pm0 (List.Perm.refl _)).trans (pmc ((pm0 (List.Perm.refl _)).trans (pmc ((pm0 (List.Perm.refl _)).trans (pmc (pm0 (List.Perm.refl _)))))))))))))) rfl rfl rfl (fun u => []) (fun u => rfl) (fun c hf => ?_)
    obtain rfl := Option.some.inj hf
    refine g_aload_n (pc := 26) (x := rV) C dX2_push_26 rfl ?_
    refine g_dup (pc := 27) C dX2_push_27 rfl ?_
    refine g_getf (pc := 28) C 9 rfl rfl inX2_push_X2 1 (by decide) lkX2_push_18 rfl rfl dX2_push_28 ?_
    refine g_iconst (pc := 31) (v := 1) C dX2_push_31 (by decide) ?_
    refine g_iadd (pc := 32) (x := vN z) (y := 1) C dX2_push_32 ?_
    refine g_putf (pc := 33) C 9 rfl rfl inX2_push_X2 tyX2 tyX2_ok nmX2 1 (by decide) lkX2_push_18 rfl rfl pfX2_1 rfl rfl (Nat.le_of_ble_eq_true rfl) dX2_push_33 (ws' := (wS (kD k) aS v ++ wV (kD k) rV aV (vN z + 1, v0 z, v1 z, v2 z, v3 z, c, v5 z))) rfl ?_
    exact g_vret C E dX2_push_36 (Nat.le_of_ble_eq_true rfl) (Nat.le_of_ble_eq_true rfl) ⟨rfl, _, rfl⟩
  refine g_split hf (fun e hf => ?_) (fun _ hf => ?_)
  · refine g_aload_n (pc := 13) (x := rV) C dX2_push_13 rfl ?_
    refine g_getf (pc := 14) C 9 rfl rfl inX2_push_X2 0 (by decide) lkX2_push_11 rfl rfl dX2_push_14 ?_
    refine g_aload_n (pc := 17) (x := rV) C dX2_push_17 rfl ?_
    refine g_getf (pc := 18) C 9 rfl rfl inX2_push_X2 1 (by decide) lkX2_push_18 rfl rfl dX2_push_18 ?_
    refine g_aldc (pc := 21) (i := vN z) (j := 5) (v := .ref (aV 46)) C 10 rfl (by rw [e]; decide) (by rw [e]; decide) rfl dX2_push_21 ?_
    refine g_aload_n (pc := 22) (x := (aS 0)) C dX2_push_22 rfl ?_
    refine g_callWA (wr := wVh (kD k) rV aV (vN z) ++ (wS (kD k) (fun i => aV (1 + i)) (v0 z) ++ (wS (kD k) (fun i => aV (10 + i)) (v1 z) ++ (wS (kD k) (fun i => aV (19 + i)) (v2 z) ++ (wS (kD k) (fun i => aV (28 + i)) (v3 z) ++ (wS (kD k) (fun i => aV (37 + i)) (v4 z))))))) (pc' := 26) (cs' := 0) (sl' := 0) hf C (fun u => none) (fun u => (wS (kD k) (fun i => aV (46 + i)) u ++ wS (kD k) aS v)) ((pm0 (pm0 (pm0 (pm0 (pm0 (pm0 pmL)))))).trans as2) (fun u hu => gr_V (rest := []) C (cX3_copyFrom_ (kL k) C.tr (kD k) N (fun i => aV (46 + i)) aS (v5 z) v u hu) (fun ht => cwV 1 ht gX2_push_X3_copyFrom rfl rfl rfl hdX3_copyFrom ⟨(Nat.le_of_ble_eq_true rfl), (Nat.le_of_ble_eq_true rfl)⟩) 0 rfl rfl _ (rg_map _ _) (rg_nd _) rfl rfl (Nat.le_of_ble_eq_true rfl) dX2_push_23 ⟨(Nat.le_of_ble_eq_true rfl), (Nat.le_of_ble_eq_true rfl)⟩) (ws' := fun u => (wS (kD k) aS v ++ (wVh (kD k) rV aV (vN z) ++ (wS (kD k) (fun i => aV (1 + i)) (v0 z) ++ (wS (kD k) (fun i => aV (10 + i)) (v1 z) ++ (wS (kD k) (fun i => aV (19 + i)) (v2 z) ++ (wS (kD k) (fun i => aV (28 + i)) (v3 z) ++ (wS (kD k) (fun i => aV (37 + i)) (v4 z) ++ (wS (kD k) (fun i => aV (46 + i)) u))))))))) (fun u => (as2.symm.trans ((pm0 (List.Perm.refl _)).trans (pmc ((pm0 (List.Perm.refl _)).trans (pmc ((pm0 (List.Perm.refl _)).trans (pmc ((pm0 (List.Perm.refl _)).trans (pmc ((pm0 (List.Perm.refl _)).trans (pmc ((pm0 (List.Perm.refl _)).trans (pmc pmL)))))))))))))) rfl rfl rfl (fun u => []) (fun u => rfl) (fun c hf => ?_)
    obtain rfl := Option.some.inj hf
    refine g_aload_n (pc := 26) (x := rV) C dX2_push_26 rfl ?_
    refine g_dup (pc := 27) C dX2_push_27 rfl ?_
    refine g_getf (pc := 28) C 9 rfl rfl inX2_push_X2 1 (by decide) lkX2_push_18 rfl rfl dX2_push_28 ?_
    refine g_iconst (pc := 31) (v := 1) C dX2_push_31 (by decide) ?_
    refine g_iadd (pc := 32) (x := vN z) (y := 1) C dX2_push_32 ?_
    refine g_putf (pc := 33) C 9 rfl rfl inX2_push_X2 tyX2 tyX2_ok nmX2 1 (by decide) lkX2_push_18 rfl rfl pfX2_1 rfl rfl (Nat.le_of_ble_eq_true rfl) dX2_push_33 (ws' := (wS (kD k) aS v ++ wV (kD k) rV aV (vN z + 1, v0 z, v1 z, v2 z, v3 z, v4 z, c))) rfl ?_
    exact g_vret C E dX2_push_36 (Nat.le_of_ble_eq_true rfl) (Nat.le_of_ble_eq_true rfl) ⟨rfl, _, rfl⟩
  cases hf
set_option maxRecDepth 100000 in
set_option maxHeartbeats 4000000 in
theorem wkX2_push {k : Kt} (C : gC k cX2_push 2 RX2 wsX2_push rmX2_push "push") (N : Nat) (aS : Nat → Nat) (rV : Nat) (aV : Nat → Nat) (v : VS) (z : VV) (r : VV) (hf : fX2_push N v z = some r) (E : gE k (wS (kD k) aS v ++ wV (kD k) rV aV z) (fun rv w => rv = none ∧ ∃ a, w = wS (kD k) aS v ++ wV (kD k) rV a r) (fun _ _ => False) 0 0 none []) : gG k (wS (kD k) aS v ++ wV (kD k) rV aV z) [(0, .ref rV), (1, .ref (aS 0))] 0 0 0 [] := by
  unfold fX2_push at hf
  refine g_aload_n (pc := 0) (x := rV) C dX2_push_0 rfl ?_
  refine g_getf (pc := 1) C 9 rfl rfl inX2_push_X2 1 (by decide) lkX2_push_18 rfl rfl dX2_push_1 ?_
  refine g_bipush (pc := 4) (v := 6) C dX2_push_4 (by decide) ?_
  refine g_icmp_lt (pc := 6) (tgt := 13) (x := vN z) (y := 6) hf C dX2_push_6 (by decide) (fun hf => ?_) (fun hf => ?_)
  · exact wjX2_push_13 C N rV aV z aV z aS v r hf E
  · refine g_aload_n (pc := 9) (x := rV) C dX2_push_9 rfl ?_
    refine g_Perm pmL ?_
    refine g_callG C (gr_V (rest := []) C (cX2_dropOldest_ (kL k) C.tr (kD k) rV aV z) (fun ht => cwV 0 ht gX2_push_X2_dropOldest rfl rfl rfl hdX2_dropOldest ⟨(Nat.le_of_ble_eq_true rfl), (Nat.le_of_ble_eq_true rfl)⟩) 0 rfl rfl _ (rg_map _ _) (rg_nd _) rfl rfl (Nat.le_of_ble_eq_true rfl) dX2_push_10 ⟨(Nat.le_of_ble_eq_true rfl), (Nat.le_of_ble_eq_true rfl)⟩) _ _ (rg_map _ _) (rg_map2 _ _) (rg_nd2 _ _) (rg_dis _ _) (fun _ _ h => h.elim) (fun rv w h => ?_)
    obtain ⟨rfl, a, rfl⟩ := h
    exact wjX2_push_13 C N rV aV z a (fX2_dropOldest z) aS v r hf E
set_option maxRecDepth 100000 in
set_option maxHeartbeats 4000000 in
theorem cX2_push_ (l : Launch) (htr : l.stackTraces = false) (D : va_G) (N : Nat) (aS : Nat → Nat) (rV : Nat) (aV : Nat → Nat) (v : VS) (z : VV) (r : VV) (hf : fX2_push N v z = some r) : Tc l D yX2_push wsX2_push rmX2_push [.ref rV, .ref (aS 0)] (wS D aS v ++ wV D rV aV z) (fun rv w => rv = none ∧ ∃ a, w = wS D aS v ++ wV D rV a r) (fun _ _ => False) 0 0 := Tc_of htr (by decide +kernel) rfl (Nat.le_of_ble_eq_true rfl) (fun k C E hl hD => by subst hD; exact wkX2_push C N aS rV aV v z r hf E)
