abbrev rmL_low : Room := { frames := 0, cells := 0, slots := 0, locals := 0 }
theorem kcL_low_8 : Jvm.Cond.constant RL 8 2147483647 ∈ wsL_low := by decide +kernel
theorem hsL_low : yL_low.cls ≠ "java/lang/invoke/MethodHandle" ∧ yL_low.cls ≠ "java/lang/invoke/VarHandle" ∧ (parseMethodDescriptor yL_low.desc).map (fun d => d.parameters.length) = some 2 := by decide +kernel
def fL_low (N : Nat) (p0 : Int32) (p1 : Int32) : Option (Int32) := cz p1 (some ((p0 &&& 2147483647) - (p0 &&& 2147483647) / p1 * p1))
set_option maxRecDepth 100000 in
set_option maxHeartbeats 4000000 in
theorem wkL_low {k : Kt} (C : gC k cL_low 2 RL wsL_low rmL_low "low") (N : Nat) (p0 : Int32) (p1 : Int32) (r : Int32) (hf : fL_low N p0 p1 = some r) (E : gE k [] (fun rv w => rv = some (.int r) ∧ w = []) (fun _ _ => False) 0 0 (some .int) []) : gG k [] [(0, .int p0), (1, .int p1)] 0 0 0 [] := by
  unfold fL_low at hf
  refine g_iload_n (pc := 0) (x := p0) C dL_low_0 rfl ?_
  refine g_ldc (pc := 1) (v := 2147483647) C dL_low_1 kcL_low_8 ?_
  refine g_iand (pc := 3) (x := p0) (y := 2147483647) C dL_low_3 ?_
  refine g_iload_n (pc := 4) (x := p1) C dL_low_4 rfl ?_
  refine g_iremz (pc := 5) (x := (p0 &&& 2147483647)) (y := p1) hf C dL_low_5 (fun hf => ?_)
  obtain rfl := Option.some.inj hf
  exact g_iret (v := ((p0 &&& 2147483647) - (p0 &&& 2147483647) / p1 * p1)) C E dL_low_6 (Nat.le_of_ble_eq_true rfl) (Nat.le_of_ble_eq_true rfl) ⟨rfl, rfl⟩
set_option maxRecDepth 100000 in
set_option maxHeartbeats 4000000 in
theorem cL_low_ (l : Launch) (htr : l.stackTraces = false) (D : va_G) (N : Nat) (p0 : Int32) (p1 : Int32) (r : Int32) (hf : fL_low N p0 p1 = some r) : Tc l D yL_low wsL_low rmL_low [.int p0, .int p1] [] (fun rv w => rv = some (.int r) ∧ w = []) (fun _ _ => False) 0 0 := Tc_of htr (by decide +kernel) rfl (Nat.le_of_ble_eq_true rfl) (fun k C E hl hD => by subst hD; exact wkL_low C N p0 p1 r hf E)
abbrev rmL_size : Room := { frames := 0, cells := 0, slots := 0, locals := 0 }
theorem hsL_size : yL_size.cls ≠ "java/lang/invoke/MethodHandle" ∧ yL_size.cls ≠ "java/lang/invoke/VarHandle" ∧ (parseMethodDescriptor yL_size.desc).map (fun d => d.parameters.length) = some 1 := by decide +kernel
def fL_size (N : Nat) (p0 : Int32) : Option (Int32) := (if (0 : Int32) ≤ p0 then some p0 else some (-p0))
set_option maxRecDepth 100000 in
set_option maxHeartbeats 4000000 in
theorem wkL_size {k : Kt} (C : gC k cL_size 1 RL wsL_size rmL_size "size") (N : Nat) (p0 : Int32) (r : Int32) (hf : fL_size N p0 = some r) (E : gE k [] (fun rv w => rv = some (.int r) ∧ w = []) (fun _ _ => False) 0 0 (some .int) []) : gG k [] [(0, .int p0)] 0 0 0 [] := by
  unfold fL_size at hf
  refine g_iload_n (pc := 0) (x := p0) C dL_size_0 rfl ?_
  refine g_if_ge (pc := 1) (tgt := 9) (x := p0) hf C dL_size_1 (by decide) (fun hf => ?_) (fun hf => ?_)
  · refine g_iload_n (pc := 9) (x := p0) C dL_size_9 rfl ?_
    obtain rfl := Option.some.inj hf
    exact g_iret (v := p0) C E dL_size_10 (Nat.le_of_ble_eq_true rfl) (Nat.le_of_ble_eq_true rfl) ⟨rfl, rfl⟩
  · refine g_iload_n (pc := 4) (x := p0) C dL_size_4 rfl ?_
    refine g_ineg (pc := 5) C dL_size_5 ?_
    refine g_goto (pc := 6) (tgt := 10) C dL_size_6 (by decide) ?_
    obtain rfl := Option.some.inj hf
    exact g_iret (v := (-p0)) C E dL_size_10 (Nat.le_of_ble_eq_true rfl) (Nat.le_of_ble_eq_true rfl) ⟨rfl, rfl⟩
set_option maxRecDepth 100000 in
set_option maxHeartbeats 4000000 in
theorem cL_size_ (l : Launch) (htr : l.stackTraces = false) (D : va_G) (N : Nat) (p0 : Int32) (r : Int32) (hf : fL_size N p0 = some r) : Tc l D yL_size wsL_size rmL_size [.int p0] [] (fun rv w => rv = some (.int r) ∧ w = []) (fun _ _ => False) 0 0 := Tc_of htr (by decide +kernel) rfl (Nat.le_of_ble_eq_true rfl) (fun k C E hl hD => by subst hD; exact wkL_size C N p0 r hf E)
abbrev rmL_grade : Room := { frames := 1, cells := 0, slots := 0, locals := 20 }
theorem hsL_grade : yL_grade.cls ≠ "java/lang/invoke/MethodHandle" ∧ yL_grade.cls ≠ "java/lang/invoke/VarHandle" ∧ (parseMethodDescriptor yL_grade.desc).map (fun d => d.parameters.length) = some 3 := by decide +kernel
def fL_grade (N : Nat) (ge : (Nat → Int32)) (gw : (Nat → Int32)) (p2 : Int32) : Option (Int32) := ck p2 10 (ck p2 10 (((fL_size N ((ge (Int32.toNatClampNeg p2)) - (gw (Int32.toNatClampNeg p2)))).bind fun r1 => (if r1 ≤ (500 : Int32) then (if r1 ≤ (250 : Int32) then (if r1 ≤ (100 : Int32) then some 0 else some 1) else some 2) else some 3))))
set_option maxRecDepth 100000 in
set_option maxHeartbeats 4000000 in
theorem wkL_grade {k : Kt} (C : gC k cL_grade 4 RL wsL_grade rmL_grade "grade") (N : Nat) (qe : Nat) (qw : Nat) (ge : (Nat → Int32)) (gw : (Nat → Int32)) (p2 : Int32) (r : Int32) (hf : fL_grade N ge gw p2 = some r) (E : gE k (wA10 (kD k) qe ge ++ (wA10 (kD k) qw gw)) (fun rv w => rv = some (.int r) ∧ w = (wA10 (kD k) qe ge ++ (wA10 (kD k) qw gw))) (fun _ _ => False) 0 0 (some .int) []) : gG k (wA10 (kD k) qe ge ++ (wA10 (kD k) qw gw)) [(0, .ref qe), (1, .ref qw), (2, .int p2)] 0 0 0 [] := by
  unfold fL_grade at hf
  refine g_aload_n (pc := 0) (x := qe) C dL_grade_0 rfl ?_
  refine g_iload_n (pc := 1) (x := p2) C dL_grade_1 rfl ?_
  refine g_iald (pc := 2) (i := p2) hf C 0 rfl dL_grade_2 (fun hf => ?_)
  refine g_aload_n (pc := 3) (x := qw) C dL_grade_3 rfl ?_
  refine g_iload_n (pc := 4) (x := p2) C dL_grade_4 rfl ?_
  refine g_iald (pc := 5) (i := p2) hf C 1 rfl dL_grade_5 (fun hf => ?_)
  refine g_isub (pc := 6) (x := (ge (Int32.toNatClampNeg p2))) (y := (gw (Int32.toNatClampNeg p2))) C dL_grade_6 ?_
  refine g_callR (pc' := 10) (cs' := 0) (sl' := 0) hf C (fun u => some (.int u)) (fun u hu => gr_S (rest := []) C (cL_size_ (kL k) C.tr (kD k) N ((ge (Int32.toNatClampNeg p2)) - (gw (Int32.toNatClampNeg p2))) u hu) (fun ht => va_cwS 1 ht gL_grade_L_size rfl rfl rfl hsL_size ⟨(Nat.le_of_ble_eq_true rfl), (Nat.le_of_ble_eq_true rfl)⟩) [] rfl (by decide) rfl rfl (Nat.le_of_ble_eq_true rfl) dL_grade_7 ⟨(Nat.le_of_ble_eq_true rfl), (Nat.le_of_ble_eq_true rfl)⟩) [] rfl rfl rfl rfl (fun u => [.int u]) (fun u => rfl) (fun r1 hf => ?_)
  refine g_istore_n (pc := 10) (lv' := [(3, .int r1), (0, .ref qe), (1, .ref qw), (2, .int p2)]) C dL_grade_10 (by decide) rfl ?_
  refine g_iload_n (pc := 11) (x := r1) C dL_grade_11 rfl ?_
  refine g_sipush (pc := 12) (v := 500) C dL_grade_12 (by decide) ?_
  refine g_icmp_le (pc := 15) (tgt := 22) (x := r1) (y := 500) hf C dL_grade_15 (by decide) (fun hf => ?_) (fun hf => ?_)
  · refine g_iload_n (pc := 22) (x := r1) C dL_grade_22 rfl ?_
    refine g_sipush (pc := 23) (v := 250) C dL_grade_23 (by decide) ?_
    refine g_icmp_le (pc := 26) (tgt := 33) (x := r1) (y := 250) hf C dL_grade_26 (by decide) (fun hf => ?_) (fun hf => ?_)
    · refine g_iload_n (pc := 33) (x := r1) C dL_grade_33 rfl ?_
      refine g_bipush (pc := 34) (v := 100) C dL_grade_34 (by decide) ?_
      refine g_icmp_le (pc := 36) (tgt := 43) (x := r1) (y := 100) hf C dL_grade_36 (by decide) (fun hf => ?_) (fun hf => ?_)
      · refine g_iconst (pc := 43) (v := 0) C dL_grade_43 (by decide) ?_
        obtain rfl := Option.some.inj hf
        exact g_iret (v := 0) C E dL_grade_44 (Nat.le_of_ble_eq_true rfl) (Nat.le_of_ble_eq_true rfl) ⟨rfl, rfl⟩
      · refine g_iconst (pc := 39) (v := 1) C dL_grade_39 (by decide) ?_
        refine g_goto (pc := 40) (tgt := 44) C dL_grade_40 (by decide) ?_
        obtain rfl := Option.some.inj hf
        exact g_iret (v := 1) C E dL_grade_44 (Nat.le_of_ble_eq_true rfl) (Nat.le_of_ble_eq_true rfl) ⟨rfl, rfl⟩
    · refine g_iconst (pc := 29) (v := 2) C dL_grade_29 (by decide) ?_
      refine g_goto (pc := 30) (tgt := 44) C dL_grade_30 (by decide) ?_
      obtain rfl := Option.some.inj hf
      exact g_iret (v := 2) C E dL_grade_44 (Nat.le_of_ble_eq_true rfl) (Nat.le_of_ble_eq_true rfl) ⟨rfl, rfl⟩
  · refine g_iconst (pc := 18) (v := 3) C dL_grade_18 (by decide) ?_
    refine g_goto (pc := 19) (tgt := 44) C dL_grade_19 (by decide) ?_
    obtain rfl := Option.some.inj hf
    exact g_iret (v := 3) C E dL_grade_44 (Nat.le_of_ble_eq_true rfl) (Nat.le_of_ble_eq_true rfl) ⟨rfl, rfl⟩
set_option maxRecDepth 100000 in
set_option maxHeartbeats 4000000 in
theorem cL_grade_ (l : Launch) (htr : l.stackTraces = false) (D : va_G) (N : Nat) (qe : Nat) (qw : Nat) (ge : (Nat → Int32)) (gw : (Nat → Int32)) (p2 : Int32) (r : Int32) (hf : fL_grade N ge gw p2 = some r) : Tc l D yL_grade wsL_grade rmL_grade [.ref qe, .ref qw, .int p2] (wA10 D qe ge ++ (wA10 D qw gw)) (fun rv w => rv = some (.int r) ∧ w = (wA10 D qe ge ++ (wA10 D qw gw))) (fun _ _ => False) 0 0 := Tc_of htr (by decide +kernel) rfl (Nat.le_of_ble_eq_true rfl) (fun k C E hl hD => by subst hD; exact wkL_grade C N qe qw ge gw p2 r hf E)
abbrev rmL_length : Room := { frames := 0, cells := 0, slots := 0, locals := 0 }
theorem hsL_length : yL_length.cls ≠ "java/lang/invoke/MethodHandle" ∧ yL_length.cls ≠ "java/lang/invoke/VarHandle" ∧ (parseMethodDescriptor yL_length.desc).map (fun d => d.parameters.length) = some 5 := by decide +kernel
def fL_length (N : Nat) (gl : (Nat → Int32)) (ge : (Nat → Int32)) (gw : (Nat → Int32)) (p3 : Int32) (p4 : Int32) : Option (Int32) := ck p3 10 (ck p3 10 (ck p3 10 (ck p3 10 (some ((((1000 * (gl (Int32.toNatClampNeg p3))) + (ge (Int32.toNatClampNeg p3))) - (gw (Int32.toNatClampNeg p3))) + (((((gl (Int32.toNatClampNeg p3)) * p4) / 1000) * 115) / 1000))))))
set_option maxRecDepth 100000 in
set_option maxHeartbeats 4000000 in
theorem wkL_length {k : Kt} (C : gC k cL_length 6 RL wsL_length rmL_length "length") (N : Nat) (ql : Nat) (qe : Nat) (qw : Nat) (gl : (Nat → Int32)) (ge : (Nat → Int32)) (gw : (Nat → Int32)) (p3 : Int32) (p4 : Int32) (r : Int32) (hf : fL_length N gl ge gw p3 p4 = some r) (E : gE k (wA10 (kD k) ql gl ++ (wA10 (kD k) qe ge ++ (wA10 (kD k) qw gw))) (fun rv w => rv = some (.int r) ∧ w = (wA10 (kD k) ql gl ++ (wA10 (kD k) qe ge ++ (wA10 (kD k) qw gw)))) (fun _ _ => False) 0 0 (some .int) []) : gG k (wA10 (kD k) ql gl ++ (wA10 (kD k) qe ge ++ (wA10 (kD k) qw gw))) [(0, .ref ql), (1, .ref qe), (2, .ref qw), (3, .int p3), (4, .int p4)] 0 0 0 [] := by
  unfold fL_length at hf
  refine g_aload_n (pc := 0) (x := ql) C dL_length_0 rfl ?_
  refine g_iload_n (pc := 1) (x := p3) C dL_length_1 rfl ?_
  refine g_iald (pc := 2) (i := p3) hf C 0 rfl dL_length_2 (fun hf => ?_)
  refine g_iload (pc := 3) (x := p4) C dL_length_3 rfl ?_
  refine g_imul (pc := 5) (x := (gl (Int32.toNatClampNeg p3))) (y := p4) C dL_length_5 ?_
  refine g_sipush (pc := 6) (v := 1000) C dL_length_6 (by decide) ?_
  refine g_idiv (pc := 9) (x := ((gl (Int32.toNatClampNeg p3)) * p4)) (y := 1000) C dL_length_9 (by decide) ?_
  refine g_istore (pc := 10) (lv' := [(5, .int (((gl (Int32.toNatClampNeg p3)) * p4) / 1000)), (0, .ref ql), (1, .ref qe), (2, .ref qw), (3, .int p3), (4, .int p4)]) C dL_length_10 (by decide) rfl ?_
  refine g_sipush (pc := 12) (v := 1000) C dL_length_12 (by decide) ?_
  refine g_aload_n (pc := 15) (x := ql) C dL_length_15 rfl ?_
  refine g_iload_n (pc := 16) (x := p3) C dL_length_16 rfl ?_
  refine g_iald (pc := 17) (i := p3) hf C 0 rfl dL_length_17 (fun hf => ?_)
  refine g_imul (pc := 18) (x := 1000) (y := (gl (Int32.toNatClampNeg p3))) C dL_length_18 ?_
  refine g_aload_n (pc := 19) (x := qe) C dL_length_19 rfl ?_
  refine g_iload_n (pc := 20) (x := p3) C dL_length_20 rfl ?_
  refine g_iald (pc := 21) (i := p3) hf C 1 rfl dL_length_21 (fun hf => ?_)
  refine g_iadd (pc := 22) (x := (1000 * (gl (Int32.toNatClampNeg p3)))) (y := (ge (Int32.toNatClampNeg p3))) C dL_length_22 ?_
  refine g_aload_n (pc := 23) (x := qw) C dL_length_23 rfl ?_
  refine g_iload_n (pc := 24) (x := p3) C dL_length_24 rfl ?_
  refine g_iald (pc := 25) (i := p3) hf C 2 rfl dL_length_25 (fun hf => ?_)
  refine g_isub (pc := 26) (x := ((1000 * (gl (Int32.toNatClampNeg p3))) + (ge (Int32.toNatClampNeg p3)))) (y := (gw (Int32.toNatClampNeg p3))) C dL_length_26 ?_
  refine g_iload (pc := 27) (x := (((gl (Int32.toNatClampNeg p3)) * p4) / 1000)) C dL_length_27 rfl ?_
  refine g_bipush (pc := 29) (v := 115) C dL_length_29 (by decide) ?_
  refine g_imul (pc := 31) (x := (((gl (Int32.toNatClampNeg p3)) * p4) / 1000)) (y := 115) C dL_length_31 ?_
  refine g_sipush (pc := 32) (v := 1000) C dL_length_32 (by decide) ?_
  refine g_idiv (pc := 35) (x := ((((gl (Int32.toNatClampNeg p3)) * p4) / 1000) * 115)) (y := 1000) C dL_length_35 (by decide) ?_
  refine g_iadd (pc := 36) (x := (((1000 * (gl (Int32.toNatClampNeg p3))) + (ge (Int32.toNatClampNeg p3))) - (gw (Int32.toNatClampNeg p3)))) (y := (((((gl (Int32.toNatClampNeg p3)) * p4) / 1000) * 115) / 1000)) C dL_length_36 ?_
  obtain rfl := Option.some.inj hf
  exact g_iret (v := ((((1000 * (gl (Int32.toNatClampNeg p3))) + (ge (Int32.toNatClampNeg p3))) - (gw (Int32.toNatClampNeg p3))) + (((((gl (Int32.toNatClampNeg p3)) * p4) / 1000) * 115) / 1000))) C E dL_length_37 (Nat.le_of_ble_eq_true rfl) (Nat.le_of_ble_eq_true rfl) ⟨rfl, rfl⟩
set_option maxRecDepth 100000 in
set_option maxHeartbeats 4000000 in
theorem cL_length_ (l : Launch) (htr : l.stackTraces = false) (D : va_G) (N : Nat) (ql : Nat) (qe : Nat) (qw : Nat) (gl : (Nat → Int32)) (ge : (Nat → Int32)) (gw : (Nat → Int32)) (p3 : Int32) (p4 : Int32) (r : Int32) (hf : fL_length N gl ge gw p3 p4 = some r) : Tc l D yL_length wsL_length rmL_length [.ref ql, .ref qe, .ref qw, .int p3, .int p4] (wA10 D ql gl ++ (wA10 D qe ge ++ (wA10 D qw gw))) (fun rv w => rv = some (.int r) ∧ w = (wA10 D ql gl ++ (wA10 D qe ge ++ (wA10 D qw gw)))) (fun _ _ => False) 0 0 := Tc_of htr (by decide +kernel) rfl (Nat.le_of_ble_eq_true rfl) (fun k C E hl hD => by subst hD; exact wkL_length C N ql qe qw gl ge gw p3 p4 r hf E)
abbrev rmL_where : Room := { frames := 0, cells := 0, slots := 0, locals := 0 }
theorem hsL_where : yL_where.cls ≠ "java/lang/invoke/MethodHandle" ∧ yL_where.cls ≠ "java/lang/invoke/VarHandle" ∧ (parseMethodDescriptor yL_where.desc).map (fun d => d.parameters.length) = some 2 := by decide +kernel
def lL_where_12 (N : Nat) (gp : (Nat → Int32)) (l1 : Int32) (l3 : Int32) : Nat → Int32 → Int32 → Option ((Int32))
  | 0, _, _ => none
  | n + 1, l2, l4 => ck (7 * l3) 21 ((if (gp (Int32.toNatClampNeg (7 * l3))) ≤ l4 then some l2 else ck (((7 * l3) + 1) + l4) 21 ((if (gp (Int32.toNatClampNeg (((7 * l3) + 1) + l4))) = l1 then (lL_where_12 N gp l1 l3 n ((10 * l3) + l4) (l4 + 1)) else (lL_where_12 N gp l1 l3 n l2 (l4 + 1))))))
set_option maxRecDepth 100000 in
set_option maxHeartbeats 4000000 in
theorem wlL_where_12 {k : Kt} (C : gC k cL_where 5 RL wsL_where rmL_where "where") (N : Nat) (qp : Nat) (gp : (Nat → Int32)) (l1 : Int32) (l3 : Int32) : ∀ (n : Nat) (l2 : Int32) (l4 : Int32) (u : (Int32)) (hf : lL_where_12 N gp l1 l3 n l2 l4 = some u) (hk0 : gG k (wA21 (kD k) qp gp) [(0, .ref qp), (1, .int l1), (2, .int u), (3, .int l3)] 0 0 56 []), gG k (wA21 (kD k) qp gp) [(0, .ref qp), (1, .int l1), (2, .int l2), (3, .int l3), (4, .int l4)] 0 0 12 [] := by
  intro n
  induction n with
  | zero => intro l2 l4 u hf hk0; rw [lL_where_12] at hf; cases hf
  | succ n ih =>
    intro l2 l4 u hf hk0
    rw [lL_where_12] at hf
    refine g_iload (pc := 12) (x := l4) C dL_where_12 rfl ?_
    refine g_aload_n (pc := 14) (x := qp) C dL_where_14 rfl ?_
    refine g_bipush (pc := 15) (v := 7) C dL_where_15 (by decide) ?_
    refine g_iload_n (pc := 17) (x := l3) C dL_where_17 rfl ?_
    refine g_imul (pc := 18) (x := 7) (y := l3) C dL_where_18 ?_
    refine g_iald (pc := 19) (i := (7 * l3)) hf C 0 rfl dL_where_19 (fun hf => ?_)
    refine g_icmp_ge (pc := 20) (tgt := 56) (x := l4) (y := (gp (Int32.toNatClampNeg (7 * l3)))) hf C dL_where_20 (by decide) (fun hf => ?_) (fun hf => ?_)
    · obtain rfl := Option.some.inj hf
      refine g_lv [0, 1, 2, 3] (lv' := [(0, .ref qp), (1, .int l1), (2, .int l2), (3, .int l3)]) rfl ?_
      exact hk0
    · refine g_aload_n (pc := 23) (x := qp) C dL_where_23 rfl ?_
      refine g_bipush (pc := 24) (v := 7) C dL_where_24 (by decide) ?_
      refine g_iload_n (pc := 26) (x := l3) C dL_where_26 rfl ?_
      refine g_imul (pc := 27) (x := 7) (y := l3) C dL_where_27 ?_
      refine g_iconst (pc := 28) (v := 1) C dL_where_28 (by decide) ?_
      refine g_iadd (pc := 29) (x := (7 * l3)) (y := 1) C dL_where_29 ?_
      refine g_iload (pc := 30) (x := l4) C dL_where_30 rfl ?_
      refine g_iadd (pc := 32) (x := ((7 * l3) + 1)) (y := l4) C dL_where_32 ?_
      refine g_iald (pc := 33) (i := (((7 * l3) + 1) + l4)) hf C 0 rfl dL_where_33 (fun hf => ?_)
      refine g_iload_n (pc := 34) (x := l1) C dL_where_34 rfl ?_
      refine g_icmp_ne (pc := 35) (tgt := 48) (x := (gp (Int32.toNatClampNeg (((7 * l3) + 1) + l4)))) (y := l1) hf C dL_where_35 (by decide) (fun hf => ?_) (fun hf => ?_)
      · refine g_iload_n (pc := 48) (x := l2) C dL_where_48 rfl ?_
        refine g_istore_n (pc := 49) (lv' := [(2, .int l2), (0, .ref qp), (1, .int l1), (3, .int l3), (4, .int l4)]) C dL_where_49 (by decide) rfl ?_
        refine g_iinc (pc := 50) (x := l4) (v := (l4 + 1)) (lv' := [(4, .int (l4 + 1)), (2, .int l2), (0, .ref qp), (1, .int l1), (3, .int l3)]) C dL_where_50 rfl rfl (by decide) rfl ?_
        refine g_goto (pc := 53) (tgt := 12) C dL_where_53 (by decide) ?_
        refine g_lv [2, 3, 1, 4, 0] (lv' := [(0, .ref qp), (1, .int l1), (2, .int l2), (3, .int l3), (4, .int (l4 + 1))]) rfl ?_
        exact ih l2 (l4 + 1) u hf hk0
      · refine g_bipush (pc := 38) (v := 10) C dL_where_38 (by decide) ?_
        refine g_iload_n (pc := 40) (x := l3) C dL_where_40 rfl ?_
        refine g_imul (pc := 41) (x := 10) (y := l3) C dL_where_41 ?_
        refine g_iload (pc := 42) (x := l4) C dL_where_42 rfl ?_
        refine g_iadd (pc := 44) (x := (10 * l3)) (y := l4) C dL_where_44 ?_
        refine g_goto (pc := 45) (tgt := 49) C dL_where_45 (by decide) ?_
        refine g_istore_n (pc := 49) (lv' := [(2, .int ((10 * l3) + l4)), (0, .ref qp), (1, .int l1), (3, .int l3), (4, .int l4)]) C dL_where_49 (by decide) rfl ?_
        refine g_iinc (pc := 50) (x := l4) (v := (l4 + 1)) (lv' := [(4, .int (l4 + 1)), (2, .int ((10 * l3) + l4)), (0, .ref qp), (1, .int l1), (3, .int l3)]) C dL_where_50 rfl rfl (by decide) rfl ?_
        refine g_goto (pc := 53) (tgt := 12) C dL_where_53 (by decide) ?_
        refine g_lv [2, 3, 1, 4, 0] (lv' := [(0, .ref qp), (1, .int l1), (2, .int ((10 * l3) + l4)), (3, .int l3), (4, .int (l4 + 1))]) rfl ?_
        exact ih ((10 * l3) + l4) (l4 + 1) u hf hk0
def lL_where_4 (N : Nat) (gp : (Nat → Int32)) (l1 : Int32) : Nat → Int32 → Int32 → Option ((Int32))
  | 0, _, _ => none
  | n + 1, l2, l3 => (if (3 : Int32) ≤ l3 then some l2 else ((lL_where_12 N gp l1 l3 N l2 0).bind fun r1 => (lL_where_4 N gp l1 n r1 (l3 + 1))))
set_option maxRecDepth 100000 in
set_option maxHeartbeats 4000000 in
theorem wlL_where_4 {k : Kt} (C : gC k cL_where 5 RL wsL_where rmL_where "where") (N : Nat) (qp : Nat) (gp : (Nat → Int32)) (l1 : Int32) : ∀ (n : Nat) (l2 : Int32) (l3 : Int32) (u : (Int32)) (hf : lL_where_4 N gp l1 n l2 l3 = some u) (hk0 : gG k (wA21 (kD k) qp gp) [(2, .int u)] 0 0 62 []), gG k (wA21 (kD k) qp gp) [(0, .ref qp), (1, .int l1), (2, .int l2), (3, .int l3)] 0 0 4 [] := by
  intro n
  induction n with
  | zero => intro l2 l3 u hf hk0; rw [lL_where_4] at hf; cases hf
  | succ n ih =>
    intro l2 l3 u hf hk0
    rw [lL_where_4] at hf
    refine g_iload_n (pc := 4) (x := l3) C dL_where_4 rfl ?_
    refine g_iconst (pc := 5) (v := 3) C dL_where_5 (by decide) ?_
    refine g_icmp_ge (pc := 6) (tgt := 62) (x := l3) (y := 3) hf C dL_where_6 (by decide) (fun hf => ?_) (fun hf => ?_)
    · obtain rfl := Option.some.inj hf
      refine g_lv [2] (lv' := [(2, .int l2)]) rfl ?_
      exact hk0
    · refine g_iconst (pc := 9) (v := 0) C dL_where_9 (by decide) ?_
      refine g_istore (pc := 10) (lv' := [(4, .int 0), (0, .ref qp), (1, .int l1), (2, .int l2), (3, .int l3)]) C dL_where_10 (by decide) rfl ?_
      obtain ⟨r1, h1, hf⟩ := bd_e hf
      refine g_lv [1, 2, 3, 4, 0] (lv' := [(0, .ref qp), (1, .int l1), (2, .int l2), (3, .int l3), (4, .int 0)]) rfl ?_
      refine wlL_where_12 C N qp gp l1 l3 N l2 0 r1 h1 ?_
      refine g_iinc (pc := 56) (x := l3) (v := (l3 + 1)) (lv' := [(3, .int (l3 + 1)), (0, .ref qp), (1, .int l1), (2, .int r1)]) C dL_where_56 rfl rfl (by decide) rfl ?_
      refine g_goto (pc := 59) (tgt := 4) C dL_where_59 (by decide) ?_
      refine g_lv [1, 2, 3, 0] (lv' := [(0, .ref qp), (1, .int l1), (2, .int r1), (3, .int (l3 + 1))]) rfl ?_
      exact ih r1 (l3 + 1) u hf hk0
def fL_where (N : Nat) (gp : (Nat → Int32)) (p1 : Int32) : Option (Int32) := ((lL_where_4 N gp p1 N (-1) 0).bind fun r1 => some r1)
set_option maxRecDepth 100000 in
set_option maxHeartbeats 4000000 in
theorem wkL_where {k : Kt} (C : gC k cL_where 5 RL wsL_where rmL_where "where") (N : Nat) (qp : Nat) (gp : (Nat → Int32)) (p1 : Int32) (r : Int32) (hf : fL_where N gp p1 = some r) (E : gE k (wA21 (kD k) qp gp) (fun rv w => rv = some (.int r) ∧ w = (wA21 (kD k) qp gp)) (fun _ _ => False) 0 0 (some .int) []) : gG k (wA21 (kD k) qp gp) [(0, .ref qp), (1, .int p1)] 0 0 0 [] := by
  unfold fL_where at hf
  refine g_iconst (pc := 0) (v := (-1)) C dL_where_0 (by decide) ?_
  refine g_istore_n (pc := 1) (lv' := [(2, .int (-1)), (0, .ref qp), (1, .int p1)]) C dL_where_1 (by decide) rfl ?_
  refine g_iconst (pc := 2) (v := 0) C dL_where_2 (by decide) ?_
  refine g_istore_n (pc := 3) (lv' := [(3, .int 0), (2, .int (-1)), (0, .ref qp), (1, .int p1)]) C dL_where_3 (by decide) rfl ?_
  obtain ⟨r1, h1, hf⟩ := bd_e hf
  refine g_lv [2, 3, 1, 0] (lv' := [(0, .ref qp), (1, .int p1), (2, .int (-1)), (3, .int 0)]) rfl ?_
  refine wlL_where_4 C N qp gp p1 N (-1) 0 r1 h1 ?_
  refine g_iload_n (pc := 62) (x := r1) C dL_where_62 rfl ?_
  obtain rfl := Option.some.inj hf
  exact g_iret (v := r1) C E dL_where_63 (Nat.le_of_ble_eq_true rfl) (Nat.le_of_ble_eq_true rfl) ⟨rfl, rfl⟩
set_option maxRecDepth 100000 in
set_option maxHeartbeats 4000000 in
theorem cL_where_ (l : Launch) (htr : l.stackTraces = false) (D : va_G) (N : Nat) (qp : Nat) (gp : (Nat → Int32)) (p1 : Int32) (r : Int32) (hf : fL_where N gp p1 = some r) : Tc l D yL_where wsL_where rmL_where [.ref qp, .int p1] (wA21 D qp gp) (fun rv w => rv = some (.int r) ∧ w = (wA21 D qp gp)) (fun _ _ => False) 0 0 := Tc_of htr (by decide +kernel) rfl (Nat.le_of_ble_eq_true rfl) (fun k C E hl hD => by subst hD; exact wkL_where C N qp gp p1 r hf E)
abbrev rmL_cool : Room := { frames := 0, cells := 0, slots := 0, locals := 0 }
theorem hsL_cool : yL_cool.cls ≠ "java/lang/invoke/MethodHandle" ∧ yL_cool.cls ≠ "java/lang/invoke/VarHandle" ∧ (parseMethodDescriptor yL_cool.desc).map (fun d => d.parameters.length) = some 2 := by decide +kernel
def lL_cool_4 (N : Nat) (l1 : Int32) : Nat → Int32 → Int32 → Option ((Int32))
  | 0, _, _ => none
  | n + 1, l2, l3 => (if l1 ≤ l3 then some l2 else (if l2 ≤ (0 : Int32) then some l2 else (if (l2 - l2 / 10 * 10) ≤ (0 : Int32) then (lL_cool_4 N l1 n (l2 - ((l2 / 10) + 0)) (l3 + 1)) else (lL_cool_4 N l1 n (l2 - ((l2 / 10) + 1)) (l3 + 1)))))
set_option maxRecDepth 100000 in
set_option maxHeartbeats 4000000 in
theorem wlL_cool_4 {k : Kt} (C : gC k cL_cool 4 RL wsL_cool rmL_cool "cool") (N : Nat) (l1 : Int32) : ∀ (n : Nat) (l2 : Int32) (l3 : Int32) (u : (Int32)) (hf : lL_cool_4 N l1 n l2 l3 = some u) (hk0 : gG k [] [(2, .int u)] 0 0 39 []), gG k [] [(1, .int l1), (2, .int l2), (3, .int l3)] 0 0 4 [] := by
  intro n
  induction n with
  | zero => intro l2 l3 u hf hk0; rw [lL_cool_4] at hf; cases hf
  | succ n ih =>
    intro l2 l3 u hf hk0
    rw [lL_cool_4] at hf
    refine g_iload_n (pc := 4) (x := l3) C dL_cool_4 rfl ?_
    refine g_iload_n (pc := 5) (x := l1) C dL_cool_5 rfl ?_
    refine g_icmp_ge (pc := 6) (tgt := 39) (x := l3) (y := l1) hf C dL_cool_6 (by decide) (fun hf => ?_) (fun hf => ?_)
    · obtain rfl := Option.some.inj hf
      refine g_lv [1] (lv' := [(2, .int l2)]) rfl ?_
      exact hk0
    · refine g_iload_n (pc := 9) (x := l2) C dL_cool_9 rfl ?_
      refine g_if_le (pc := 10) (tgt := 39) (x := l2) hf C dL_cool_10 (by decide) (fun hf => ?_) (fun hf => ?_)
      · obtain rfl := Option.some.inj hf
        refine g_lv [1] (lv' := [(2, .int l2)]) rfl ?_
        exact hk0
      · refine g_iload_n (pc := 13) (x := l2) C dL_cool_13 rfl ?_
        refine g_iload_n (pc := 14) (x := l2) C dL_cool_14 rfl ?_
        refine g_bipush (pc := 15) (v := 10) C dL_cool_15 (by decide) ?_
        refine g_idiv (pc := 17) (x := l2) (y := 10) C dL_cool_17 (by decide) ?_
        refine g_iload_n (pc := 18) (x := l2) C dL_cool_18 rfl ?_
        refine g_bipush (pc := 19) (v := 10) C dL_cool_19 (by decide) ?_
        refine g_irem (pc := 21) (x := l2) (y := 10) C dL_cool_21 (by decide) ?_
        refine g_if_le (pc := 22) (tgt := 29) (x := (l2 - l2 / 10 * 10)) hf C dL_cool_22 (by decide) (fun hf => ?_) (fun hf => ?_)
        · refine g_iconst (pc := 29) (v := 0) C dL_cool_29 (by decide) ?_
          refine g_iadd (pc := 30) (x := (l2 / 10)) (y := 0) C dL_cool_30 ?_
          refine g_isub (pc := 31) (x := l2) (y := ((l2 / 10) + 0)) C dL_cool_31 ?_
          refine g_istore_n (pc := 32) (lv' := [(2, .int (l2 - ((l2 / 10) + 0))), (1, .int l1), (3, .int l3)]) C dL_cool_32 (by decide) rfl ?_
          refine g_iinc (pc := 33) (x := l3) (v := (l3 + 1)) (lv' := [(3, .int (l3 + 1)), (2, .int (l2 - ((l2 / 10) + 0))), (1, .int l1)]) C dL_cool_33 rfl rfl (by decide) rfl ?_
          refine g_goto (pc := 36) (tgt := 4) C dL_cool_36 (by decide) ?_
          refine g_lv [2, 1, 0] (lv' := [(1, .int l1), (2, .int (l2 - ((l2 / 10) + 0))), (3, .int (l3 + 1))]) rfl ?_
          exact ih (l2 - ((l2 / 10) + 0)) (l3 + 1) u hf hk0
        · refine g_iconst (pc := 25) (v := 1) C dL_cool_25 (by decide) ?_
          refine g_goto (pc := 26) (tgt := 30) C dL_cool_26 (by decide) ?_
          refine g_iadd (pc := 30) (x := (l2 / 10)) (y := 1) C dL_cool_30 ?_
          refine g_isub (pc := 31) (x := l2) (y := ((l2 / 10) + 1)) C dL_cool_31 ?_
          refine g_istore_n (pc := 32) (lv' := [(2, .int (l2 - ((l2 / 10) + 1))), (1, .int l1), (3, .int l3)]) C dL_cool_32 (by decide) rfl ?_
          refine g_iinc (pc := 33) (x := l3) (v := (l3 + 1)) (lv' := [(3, .int (l3 + 1)), (2, .int (l2 - ((l2 / 10) + 1))), (1, .int l1)]) C dL_cool_33 rfl rfl (by decide) rfl ?_
          refine g_goto (pc := 36) (tgt := 4) C dL_cool_36 (by decide) ?_
          refine g_lv [2, 1, 0] (lv' := [(1, .int l1), (2, .int (l2 - ((l2 / 10) + 1))), (3, .int (l3 + 1))]) rfl ?_
          exact ih (l2 - ((l2 / 10) + 1)) (l3 + 1) u hf hk0
def fL_cool (N : Nat) (p0 : Int32) (p1 : Int32) : Option (Int32) := ((lL_cool_4 N p1 N p0 0).bind fun r1 => some r1)
set_option maxRecDepth 100000 in
set_option maxHeartbeats 4000000 in
theorem wkL_cool {k : Kt} (C : gC k cL_cool 4 RL wsL_cool rmL_cool "cool") (N : Nat) (p0 : Int32) (p1 : Int32) (r : Int32) (hf : fL_cool N p0 p1 = some r) (E : gE k [] (fun rv w => rv = some (.int r) ∧ w = []) (fun _ _ => False) 0 0 (some .int) []) : gG k [] [(0, .int p0), (1, .int p1)] 0 0 0 [] := by
  unfold fL_cool at hf
  refine g_iload_n (pc := 0) (x := p0) C dL_cool_0 rfl ?_
  refine g_istore_n (pc := 1) (lv' := [(2, .int p0), (0, .int p0), (1, .int p1)]) C dL_cool_1 (by decide) rfl ?_
  refine g_iconst (pc := 2) (v := 0) C dL_cool_2 (by decide) ?_
  refine g_istore_n (pc := 3) (lv' := [(3, .int 0), (2, .int p0), (0, .int p0), (1, .int p1)]) C dL_cool_3 (by decide) rfl ?_
  obtain ⟨r1, h1, hf⟩ := bd_e hf
  refine g_lv [3, 1, 0] (lv' := [(1, .int p1), (2, .int p0), (3, .int 0)]) rfl ?_
  refine wlL_cool_4 C N p1 N p0 0 r1 h1 ?_
  refine g_iload_n (pc := 39) (x := r1) C dL_cool_39 rfl ?_
  obtain rfl := Option.some.inj hf
  exact g_iret (v := r1) C E dL_cool_40 (Nat.le_of_ble_eq_true rfl) (Nat.le_of_ble_eq_true rfl) ⟨rfl, rfl⟩
set_option maxRecDepth 100000 in
set_option maxHeartbeats 4000000 in
theorem cL_cool_ (l : Launch) (htr : l.stackTraces = false) (D : va_G) (N : Nat) (p0 : Int32) (p1 : Int32) (r : Int32) (hf : fL_cool N p0 p1 = some r) : Tc l D yL_cool wsL_cool rmL_cool [.int p0, .int p1] [] (fun rv w => rv = some (.int r) ∧ w = []) (fun _ _ => False) 0 0 := Tc_of htr (by decide +kernel) rfl (Nat.le_of_ble_eq_true rfl) (fun k C E hl hD => by subst hD; exact wkL_cool C N p0 p1 r hf E)
abbrev rmL_reason : Room := { frames := 2, cells := 0, slots := 0, locals := 43 }
theorem hsL_reason : yL_reason.cls ≠ "java/lang/invoke/MethodHandle" ∧ yL_reason.cls ≠ "java/lang/invoke/VarHandle" ∧ (parseMethodDescriptor yL_reason.desc).map (fun d => d.parameters.length) = some 7 := by decide +kernel
def fL_reason (N : Nat) (ge : (Nat → Int32)) (gw : (Nat → Int32)) (gh : (Nat → Int32)) (gn : (Nat → Int32)) (gp : (Nat → Int32)) (p5 : Int32) (p6 : Int32) : Option (Int32) := ((fL_where N gp p6).bind fun r1 => (if r1 = ((-1) : Int32) then ck (7 * p5) 21 ((if (gp (Int32.toNatClampNeg (7 * p5))) ≤ (5 : Int32) then ck p6 10 (ck 1 9 ((if (gh (Int32.toNatClampNeg p6)) ≤ (gn (Int32.toNatClampNeg 1)) then ((fL_grade N ge gw p6).bind fun r2 => (if r2 ≤ (2 : Int32) then some 0 else some 4)) else some 3))) else some 2)) else some 1))
set_option maxRecDepth 100000 in
set_option maxHeartbeats 4000000 in
theorem wkL_reason {k : Kt} (C : gC k cL_reason 7 RL wsL_reason rmL_reason "reason") (N : Nat) (qe : Nat) (qw : Nat) (qh : Nat) (qn : Nat) (qp : Nat) (ge : (Nat → Int32)) (gw : (Nat → Int32)) (gh : (Nat → Int32)) (gn : (Nat → Int32)) (gp : (Nat → Int32)) (p5 : Int32) (p6 : Int32) (r : Int32) (hf : fL_reason N ge gw gh gn gp p5 p6 = some r) (E : gE k (wA10 (kD k) qe ge ++ (wA10 (kD k) qw gw ++ (wA10 (kD k) qh gh ++ (wA9 (kD k) qn gn ++ (wA21 (kD k) qp gp))))) (fun rv w => rv = some (.int r) ∧ w = (wA10 (kD k) qe ge ++ (wA10 (kD k) qw gw ++ (wA10 (kD k) qh gh ++ (wA9 (kD k) qn gn ++ (wA21 (kD k) qp gp)))))) (fun _ _ => False) 0 0 (some .int) []) : gG k (wA10 (kD k) qe ge ++ (wA10 (kD k) qw gw ++ (wA10 (kD k) qh gh ++ (wA9 (kD k) qn gn ++ (wA21 (kD k) qp gp))))) [(0, .ref qe), (1, .ref qw), (2, .ref qh), (3, .ref qn), (4, .ref qp), (5, .int p5), (6, .int p6)] 0 0 0 [] := by
  unfold fL_reason at hf
  refine g_aload (pc := 0) (x := qp) C dL_reason_0 rfl ?_
  refine g_iload (pc := 2) (x := p6) C dL_reason_2 rfl ?_
  refine g_callWA (wr := wA10 (kD k) qe ge ++ (wA10 (kD k) qw gw ++ (wA10 (kD k) qh gh ++ (wA9 (kD k) qn gn)))) (pc' := 7) (cs' := 0) (sl' := 0) hf C (fun u => some (.int u)) (fun u => (wA21 (kD k) qp gp)) (pm0 (pm0 (pm0 pmL))) (fun u hu => gr_S (rest := []) C (cL_where_ (kL k) C.tr (kD k) N qp gp p6 u hu) (fun ht => va_cwS 2 ht gL_reason_L_where rfl rfl rfl hsL_where ⟨(Nat.le_of_ble_eq_true rfl), (Nat.le_of_ble_eq_true rfl)⟩) _ (rg_map _ _) (rg_nd _) rfl rfl (Nat.le_of_ble_eq_true rfl) dL_reason_4 ⟨(Nat.le_of_ble_eq_true rfl), (Nat.le_of_ble_eq_true rfl)⟩) (ws' := fun u => (wA10 (kD k) qe ge ++ (wA10 (kD k) qw gw ++ (wA10 (kD k) qh gh ++ (wA9 (kD k) qn gn ++ (wA21 (kD k) qp gp)))))) (fun u => ((pm0 (List.Perm.refl _)).trans (pmc ((pm0 (List.Perm.refl _)).trans (pmc ((pm0 (List.Perm.refl _)).trans (pmc pmL))))))) rfl rfl rfl (fun u => [.int u]) (fun u => rfl) (fun r1 hf => ?_)
  refine g_iconst (pc := 7) (v := (-1)) C dL_reason_7 (by decide) ?_
  refine g_icmp_eq (pc := 8) (tgt := 15) (x := r1) (y := (-1)) hf C dL_reason_8 (by decide) (fun hf => ?_) (fun hf => ?_)
  · refine g_aload (pc := 15) (x := qp) C dL_reason_15 rfl ?_
    refine g_bipush (pc := 17) (v := 7) C dL_reason_17 (by decide) ?_
    refine g_iload (pc := 19) (x := p5) C dL_reason_19 rfl ?_
    refine g_imul (pc := 21) (x := 7) (y := p5) C dL_reason_21 ?_
    refine g_iald (pc := 22) (i := (7 * p5)) hf C 4 rfl dL_reason_22 (fun hf => ?_)
    refine g_iconst (pc := 23) (v := 5) C dL_reason_23 (by decide) ?_
    refine g_icmp_le (pc := 24) (tgt := 31) (x := (gp (Int32.toNatClampNeg (7 * p5)))) (y := 5) hf C dL_reason_24 (by decide) (fun hf => ?_) (fun hf => ?_)
    · refine g_aload_n (pc := 31) (x := qh) C dL_reason_31 rfl ?_
      refine g_iload (pc := 32) (x := p6) C dL_reason_32 rfl ?_
      refine g_iald (pc := 34) (i := p6) hf C 2 rfl dL_reason_34 (fun hf => ?_)
      refine g_aload_n (pc := 35) (x := qn) C dL_reason_35 rfl ?_
      refine g_iconst (pc := 36) (v := 1) C dL_reason_36 (by decide) ?_
      refine g_iald (pc := 37) (i := 1) hf C 3 rfl dL_reason_37 (fun hf => ?_)
      refine g_icmp_le (pc := 38) (tgt := 45) (x := (gh (Int32.toNatClampNeg p6))) (y := (gn (Int32.toNatClampNeg 1))) hf C dL_reason_38 (by decide) (fun hf => ?_) (fun hf => ?_)
      · refine g_aload_n (pc := 45) (x := qe) C dL_reason_45 rfl ?_
        refine g_aload_n (pc := 46) (x := qw) C dL_reason_46 rfl ?_
        refine g_iload (pc := 47) (x := p6) C dL_reason_47 rfl ?_
        refine g_callWA (wr := wA10 (kD k) qh gh ++ (wA9 (kD k) qn gn ++ (wA21 (kD k) qp gp))) (pc' := 52) (cs' := 0) (sl' := 0) hf C (fun u => some (.int u)) (fun u => (wA10 (kD k) qe ge ++ (wA10 (kD k) qw gw))) ((List.Perm.refl _).trans as2) (fun u hu => gr_S (rest := []) C (cL_grade_ (kL k) C.tr (kD k) N qe qw ge gw p6 u hu) (fun ht => va_cwS 3 ht gL_reason_L_grade rfl rfl rfl hsL_grade ⟨(Nat.le_of_ble_eq_true rfl), (Nat.le_of_ble_eq_true rfl)⟩) _ (rg_map _ _) (rg_nd _) rfl rfl (Nat.le_of_ble_eq_true rfl) dL_reason_49 ⟨(Nat.le_of_ble_eq_true rfl), (Nat.le_of_ble_eq_true rfl)⟩) (ws' := fun u => (wA10 (kD k) qe ge ++ (wA10 (kD k) qw gw ++ (wA10 (kD k) qh gh ++ (wA9 (kD k) qn gn ++ (wA21 (kD k) qp gp)))))) (fun u => (as2.symm.trans (List.Perm.refl _))) rfl rfl rfl (fun u => [.int u]) (fun u => rfl) (fun r2 hf => ?_)
        refine g_iconst (pc := 52) (v := 2) C dL_reason_52 (by decide) ?_
        refine g_icmp_le (pc := 53) (tgt := 60) (x := r2) (y := 2) hf C dL_reason_53 (by decide) (fun hf => ?_) (fun hf => ?_)
        · refine g_iconst (pc := 60) (v := 0) C dL_reason_60 (by decide) ?_
          obtain rfl := Option.some.inj hf
          exact g_iret (v := 0) C E dL_reason_61 (Nat.le_of_ble_eq_true rfl) (Nat.le_of_ble_eq_true rfl) ⟨rfl, rfl⟩
        · refine g_iconst (pc := 56) (v := 4) C dL_reason_56 (by decide) ?_
          refine g_goto (pc := 57) (tgt := 61) C dL_reason_57 (by decide) ?_
          obtain rfl := Option.some.inj hf
          exact g_iret (v := 4) C E dL_reason_61 (Nat.le_of_ble_eq_true rfl) (Nat.le_of_ble_eq_true rfl) ⟨rfl, rfl⟩
      · refine g_iconst (pc := 41) (v := 3) C dL_reason_41 (by decide) ?_
        refine g_goto (pc := 42) (tgt := 61) C dL_reason_42 (by decide) ?_
        obtain rfl := Option.some.inj hf
        exact g_iret (v := 3) C E dL_reason_61 (Nat.le_of_ble_eq_true rfl) (Nat.le_of_ble_eq_true rfl) ⟨rfl, rfl⟩
    · refine g_iconst (pc := 27) (v := 2) C dL_reason_27 (by decide) ?_
      refine g_goto (pc := 28) (tgt := 61) C dL_reason_28 (by decide) ?_
      obtain rfl := Option.some.inj hf
      exact g_iret (v := 2) C E dL_reason_61 (Nat.le_of_ble_eq_true rfl) (Nat.le_of_ble_eq_true rfl) ⟨rfl, rfl⟩
  · refine g_iconst (pc := 11) (v := 1) C dL_reason_11 (by decide) ?_
    refine g_goto (pc := 12) (tgt := 61) C dL_reason_12 (by decide) ?_
    obtain rfl := Option.some.inj hf
    exact g_iret (v := 1) C E dL_reason_61 (Nat.le_of_ble_eq_true rfl) (Nat.le_of_ble_eq_true rfl) ⟨rfl, rfl⟩
set_option maxRecDepth 100000 in
set_option maxHeartbeats 4000000 in
theorem cL_reason_ (l : Launch) (htr : l.stackTraces = false) (D : va_G) (N : Nat) (qe : Nat) (qw : Nat) (qh : Nat) (qn : Nat) (qp : Nat) (ge : (Nat → Int32)) (gw : (Nat → Int32)) (gh : (Nat → Int32)) (gn : (Nat → Int32)) (gp : (Nat → Int32)) (p5 : Int32) (p6 : Int32) (r : Int32) (hf : fL_reason N ge gw gh gn gp p5 p6 = some r) : Tc l D yL_reason wsL_reason rmL_reason [.ref qe, .ref qw, .ref qh, .ref qn, .ref qp, .int p5, .int p6] (wA10 D qe ge ++ (wA10 D qw gw ++ (wA10 D qh gh ++ (wA9 D qn gn ++ (wA21 D qp gp))))) (fun rv w => rv = some (.int r) ∧ w = (wA10 D qe ge ++ (wA10 D qw gw ++ (wA10 D qh gh ++ (wA9 D qn gn ++ (wA21 D qp gp)))))) (fun _ _ => False) 0 0 := Tc_of htr (by decide +kernel) rfl (Nat.le_of_ble_eq_true rfl) (fun k C E hl hD => by subst hD; exact wkL_reason C N qe qw qh qn qp ge gw gh gn gp p5 p6 r hf E)
abbrev rmL_rubs : Room := { frames := 0, cells := 0, slots := 0, locals := 0 }
theorem hsL_rubs : yL_rubs.cls ≠ "java/lang/invoke/MethodHandle" ∧ yL_rubs.cls ≠ "java/lang/invoke/VarHandle" ∧ (parseMethodDescriptor yL_rubs.desc).map (fun d => d.parameters.length) = some 5 := by decide +kernel
def fL_rubs (N : Nat) (gw : (Nat → Int32)) (gh : (Nat → Int32)) (gn : (Nat → Int32)) (gp : (Nat → Int32)) (p4 : Int32) : Option ((Nat → Int32) × (Nat → Int32)) := ck (7 * p4) 21 (ck ((7 * p4) + (gp (Int32.toNatClampNeg (7 * p4)))) 21 (ck (gp (Int32.toNatClampNeg ((7 * p4) + (gp (Int32.toNatClampNeg (7 * p4)))))) 10 (ck 3 9 ((((if (1000 : Int32) ≤ ((gh (Int32.toNatClampNeg (gp (Int32.toNatClampNeg ((7 * p4) + (gp (Int32.toNatClampNeg (7 * p4)))))))) + (gn (Int32.toNatClampNeg 3))) then some 1000 else ck (gp (Int32.toNatClampNeg ((7 * p4) + (gp (Int32.toNatClampNeg (7 * p4)))))) 10 (ck 3 9 (some ((gh (Int32.toNatClampNeg (gp (Int32.toNatClampNeg ((7 * p4) + (gp (Int32.toNatClampNeg (7 * p4)))))))) + (gn (Int32.toNatClampNeg 3)))))) : Option (Int32)).bind fun r1 => ck (gp (Int32.toNatClampNeg ((7 * p4) + (gp (Int32.toNatClampNeg (7 * p4)))))) 10 ((if (gp (Int32.toNatClampNeg (7 * p4))) ≤ (1 : Int32) then some (gw, (upd gh (Int32.toNatClampNeg (gp (Int32.toNatClampNeg ((7 * p4) + (gp (Int32.toNatClampNeg (7 * p4))))))) r1)) else ck (gp (Int32.toNatClampNeg ((7 * p4) + (gp (Int32.toNatClampNeg (7 * p4)))))) 10 (ck 2 9 (ck (gp (Int32.toNatClampNeg ((7 * p4) + (gp (Int32.toNatClampNeg (7 * p4)))))) 10 (ck (((7 * p4) + (gp (Int32.toNatClampNeg (7 * p4)))) - 1) 21 (ck (gp (Int32.toNatClampNeg (((7 * p4) + (gp (Int32.toNatClampNeg (7 * p4)))) - 1))) 10 (ck 2 9 (ck (gp (Int32.toNatClampNeg (((7 * p4) + (gp (Int32.toNatClampNeg (7 * p4)))) - 1))) 10 (some ((upd (upd gw (Int32.toNatClampNeg (gp (Int32.toNatClampNeg ((7 * p4) + (gp (Int32.toNatClampNeg (7 * p4))))))) ((gw (Int32.toNatClampNeg (gp (Int32.toNatClampNeg ((7 * p4) + (gp (Int32.toNatClampNeg (7 * p4)))))))) + (gn (Int32.toNatClampNeg 2)))) (Int32.toNatClampNeg (gp (Int32.toNatClampNeg (((7 * p4) + (gp (Int32.toNatClampNeg (7 * p4)))) - 1)))) (((upd gw (Int32.toNatClampNeg (gp (Int32.toNatClampNeg ((7 * p4) + (gp (Int32.toNatClampNeg (7 * p4))))))) ((gw (Int32.toNatClampNeg (gp (Int32.toNatClampNeg ((7 * p4) + (gp (Int32.toNatClampNeg (7 * p4)))))))) + (gn (Int32.toNatClampNeg 2)))) (Int32.toNatClampNeg (gp (Int32.toNatClampNeg (((7 * p4) + (gp (Int32.toNatClampNeg (7 * p4)))) - 1))))) + (gn (Int32.toNatClampNeg 2)))), (upd gh (Int32.toNatClampNeg (gp (Int32.toNatClampNeg ((7 * p4) + (gp (Int32.toNatClampNeg (7 * p4))))))) r1))))))))))))))))
set_option maxRecDepth 100000 in
set_option maxHeartbeats 4000000 in
theorem wkL_rubs {k : Kt} (C : gC k cL_rubs 7 RL wsL_rubs rmL_rubs "rubs") (N : Nat) (qw : Nat) (qh : Nat) (qn : Nat) (qp : Nat) (gw : (Nat → Int32)) (gh : (Nat → Int32)) (gn : (Nat → Int32)) (gp : (Nat → Int32)) (p4 : Int32) (r : (Nat → Int32) × (Nat → Int32)) (hf : fL_rubs N gw gh gn gp p4 = some r) (E : gE k (wA10 (kD k) qw gw ++ (wA10 (kD k) qh gh ++ (wA9 (kD k) qn gn ++ (wA21 (kD k) qp gp)))) (fun rv w => rv = none ∧ w = (wA10 (kD k) qw r.1 ++ (wA10 (kD k) qh r.2 ++ (wA9 (kD k) qn gn ++ (wA21 (kD k) qp gp))))) (fun _ _ => False) 0 0 none []) : gG k (wA10 (kD k) qw gw ++ (wA10 (kD k) qh gh ++ (wA9 (kD k) qn gn ++ (wA21 (kD k) qp gp)))) [(0, .ref qw), (1, .ref qh), (2, .ref qn), (3, .ref qp), (4, .int p4)] 0 0 0 [] := by
  unfold fL_rubs at hf
  refine g_aload_n (pc := 0) (x := qp) C dL_rubs_0 rfl ?_
  refine g_bipush (pc := 1) (v := 7) C dL_rubs_1 (by decide) ?_
  refine g_iload (pc := 3) (x := p4) C dL_rubs_3 rfl ?_
  refine g_imul (pc := 5) (x := 7) (y := p4) C dL_rubs_5 ?_
  refine g_iald (pc := 6) (i := (7 * p4)) hf C 3 rfl dL_rubs_6 (fun hf => ?_)
  refine g_istore (pc := 7) (lv' := [(5, .int (gp (Int32.toNatClampNeg (7 * p4)))), (0, .ref qw), (1, .ref qh), (2, .ref qn), (3, .ref qp), (4, .int p4)]) C dL_rubs_7 (by decide) rfl ?_
  refine g_aload_n (pc := 9) (x := qp) C dL_rubs_9 rfl ?_
  refine g_bipush (pc := 10) (v := 7) C dL_rubs_10 (by decide) ?_
  refine g_iload (pc := 12) (x := p4) C dL_rubs_12 rfl ?_
  refine g_imul (pc := 14) (x := 7) (y := p4) C dL_rubs_14 ?_
  refine g_iload (pc := 15) (x := (gp (Int32.toNatClampNeg (7 * p4)))) C dL_rubs_15 rfl ?_
  refine g_iadd (pc := 17) (x := (7 * p4)) (y := (gp (Int32.toNatClampNeg (7 * p4)))) C dL_rubs_17 ?_
  refine g_iald (pc := 18) (i := ((7 * p4) + (gp (Int32.toNatClampNeg (7 * p4))))) hf C 3 rfl dL_rubs_18 (fun hf => ?_)
  refine g_istore (pc := 19) (lv' := [(6, .int (gp (Int32.toNatClampNeg ((7 * p4) + (gp (Int32.toNatClampNeg (7 * p4))))))), (5, .int (gp (Int32.toNatClampNeg (7 * p4)))), (0, .ref qw), (1, .ref qh), (2, .ref qn), (3, .ref qp), (4, .int p4)]) C dL_rubs_19 (by decide) rfl ?_
  refine g_aload_n (pc := 21) (x := qh) C dL_rubs_21 rfl ?_
  refine g_iload (pc := 22) (x := (gp (Int32.toNatClampNeg ((7 * p4) + (gp (Int32.toNatClampNeg (7 * p4))))))) C dL_rubs_22 rfl ?_
  refine g_aload_n (pc := 24) (x := qh) C dL_rubs_24 rfl ?_
  refine g_iload (pc := 25) (x := (gp (Int32.toNatClampNeg ((7 * p4) + (gp (Int32.toNatClampNeg (7 * p4))))))) C dL_rubs_25 rfl ?_
  refine g_iald (pc := 27) (i := (gp (Int32.toNatClampNeg ((7 * p4) + (gp (Int32.toNatClampNeg (7 * p4))))))) hf C 1 rfl dL_rubs_27 (fun hf => ?_)
  refine g_aload_n (pc := 28) (x := qn) C dL_rubs_28 rfl ?_
  refine g_iconst (pc := 29) (v := 3) C dL_rubs_29 (by decide) ?_
  refine g_iald (pc := 30) (i := 3) hf C 2 rfl dL_rubs_30 (fun hf => ?_)
  refine g_iadd (pc := 31) (x := (gh (Int32.toNatClampNeg (gp (Int32.toNatClampNeg ((7 * p4) + (gp (Int32.toNatClampNeg (7 * p4))))))))) (y := (gn (Int32.toNatClampNeg 3))) C dL_rubs_31 ?_
  refine g_sipush (pc := 32) (v := 1000) C dL_rubs_32 (by decide) ?_
  refine g_join (Q := fun (u : Int32) => gG k (wA10 (kD k) qw gw ++ (wA10 (kD k) qh gh ++ (wA9 (kD k) qn gn ++ (wA21 (kD k) qp gp)))) [(0, .ref qw), (2, .ref qn), (3, .ref qp), (4, .int p4), (5, .int (gp (Int32.toNatClampNeg (7 * p4)))), (6, .int (gp (Int32.toNatClampNeg ((7 * p4) + (gp (Int32.toNatClampNeg (7 * p4)))))))] 0 0 52 [.int u, .int (gp (Int32.toNatClampNeg ((7 * p4) + (gp (Int32.toNatClampNeg (7 * p4)))))), .ref qh]) hf (fun r1 hf => ?_) (fun r1 hf K1 => ?_)
  · refine g_iast (pc := 52) (i := (gp (Int32.toNatClampNeg ((7 * p4) + (gp (Int32.toNatClampNeg (7 * p4))))))) (x := r1) hf C 1 rfl dL_rubs_52 (ws' := (wA10 (kD k) qw gw ++ (wA10 (kD k) qh (upd gh (Int32.toNatClampNeg (gp (Int32.toNatClampNeg ((7 * p4) + (gp (Int32.toNatClampNeg (7 * p4))))))) r1) ++ (wA9 (kD k) qn gn ++ (wA21 (kD k) qp gp))))) rfl (fun hf => ?_)
    refine g_iload (pc := 53) (x := (gp (Int32.toNatClampNeg (7 * p4)))) C dL_rubs_53 rfl ?_
    refine g_iconst (pc := 55) (v := 1) C dL_rubs_55 (by decide) ?_
    refine g_icmp_le (pc := 56) (tgt := 89) (x := (gp (Int32.toNatClampNeg (7 * p4)))) (y := 1) hf C dL_rubs_56 (by decide) (fun hf => ?_) (fun hf => ?_)
    · obtain rfl := Option.some.inj hf
      exact g_vret C E dL_rubs_89 (Nat.le_of_ble_eq_true rfl) (Nat.le_of_ble_eq_true rfl) ⟨rfl, rfl⟩
    · refine g_aload_n (pc := 59) (x := qw) C dL_rubs_59 rfl ?_
      refine g_iload (pc := 60) (x := (gp (Int32.toNatClampNeg ((7 * p4) + (gp (Int32.toNatClampNeg (7 * p4))))))) C dL_rubs_60 rfl ?_
      refine g_dup2 (pc := 62) C dL_rubs_62 rfl rfl ?_
      refine g_iald (pc := 63) (i := (gp (Int32.toNatClampNeg ((7 * p4) + (gp (Int32.toNatClampNeg (7 * p4))))))) hf C 0 rfl dL_rubs_63 (fun hf => ?_)
      refine g_aload_n (pc := 64) (x := qn) C dL_rubs_64 rfl ?_
      refine g_iconst (pc := 65) (v := 2) C dL_rubs_65 (by decide) ?_
      refine g_iald (pc := 66) (i := 2) hf C 2 rfl dL_rubs_66 (fun hf => ?_)
      refine g_iadd (pc := 67) (x := (gw (Int32.toNatClampNeg (gp (Int32.toNatClampNeg ((7 * p4) + (gp (Int32.toNatClampNeg (7 * p4))))))))) (y := (gn (Int32.toNatClampNeg 2))) C dL_rubs_67 ?_
      refine g_iast (pc := 68) (i := (gp (Int32.toNatClampNeg ((7 * p4) + (gp (Int32.toNatClampNeg (7 * p4))))))) (x := ((gw (Int32.toNatClampNeg (gp (Int32.toNatClampNeg ((7 * p4) + (gp (Int32.toNatClampNeg (7 * p4)))))))) + (gn (Int32.toNatClampNeg 2)))) hf C 0 rfl dL_rubs_68 (ws' := (wA10 (kD k) qw (upd gw (Int32.toNatClampNeg (gp (Int32.toNatClampNeg ((7 * p4) + (gp (Int32.toNatClampNeg (7 * p4))))))) ((gw (Int32.toNatClampNeg (gp (Int32.toNatClampNeg ((7 * p4) + (gp (Int32.toNatClampNeg (7 * p4)))))))) + (gn (Int32.toNatClampNeg 2)))) ++ (wA10 (kD k) qh (upd gh (Int32.toNatClampNeg (gp (Int32.toNatClampNeg ((7 * p4) + (gp (Int32.toNatClampNeg (7 * p4))))))) r1) ++ (wA9 (kD k) qn gn ++ (wA21 (kD k) qp gp))))) rfl (fun hf => ?_)
      refine g_aload_n (pc := 69) (x := qw) C dL_rubs_69 rfl ?_
      refine g_aload_n (pc := 70) (x := qp) C dL_rubs_70 rfl ?_
      refine g_bipush (pc := 71) (v := 7) C dL_rubs_71 (by decide) ?_
      refine g_iload (pc := 73) (x := p4) C dL_rubs_73 rfl ?_
      refine g_imul (pc := 75) (x := 7) (y := p4) C dL_rubs_75 ?_
      refine g_iload (pc := 76) (x := (gp (Int32.toNatClampNeg (7 * p4)))) C dL_rubs_76 rfl ?_
      refine g_iadd (pc := 78) (x := (7 * p4)) (y := (gp (Int32.toNatClampNeg (7 * p4)))) C dL_rubs_78 ?_
      refine g_iconst (pc := 79) (v := 1) C dL_rubs_79 (by decide) ?_
      refine g_isub (pc := 80) (x := ((7 * p4) + (gp (Int32.toNatClampNeg (7 * p4))))) (y := 1) C dL_rubs_80 ?_
      refine g_iald (pc := 81) (i := (((7 * p4) + (gp (Int32.toNatClampNeg (7 * p4)))) - 1)) hf C 3 rfl dL_rubs_81 (fun hf => ?_)
      refine g_dup2 (pc := 82) C dL_rubs_82 rfl rfl ?_
      refine g_iald (pc := 83) (i := (gp (Int32.toNatClampNeg (((7 * p4) + (gp (Int32.toNatClampNeg (7 * p4)))) - 1)))) hf C 0 rfl dL_rubs_83 (fun hf => ?_)
      refine g_aload_n (pc := 84) (x := qn) C dL_rubs_84 rfl ?_
      refine g_iconst (pc := 85) (v := 2) C dL_rubs_85 (by decide) ?_
      refine g_iald (pc := 86) (i := 2) hf C 2 rfl dL_rubs_86 (fun hf => ?_)
      refine g_iadd (pc := 87) (x := ((upd gw (Int32.toNatClampNeg (gp (Int32.toNatClampNeg ((7 * p4) + (gp (Int32.toNatClampNeg (7 * p4))))))) ((gw (Int32.toNatClampNeg (gp (Int32.toNatClampNeg ((7 * p4) + (gp (Int32.toNatClampNeg (7 * p4)))))))) + (gn (Int32.toNatClampNeg 2)))) (Int32.toNatClampNeg (gp (Int32.toNatClampNeg (((7 * p4) + (gp (Int32.toNatClampNeg (7 * p4)))) - 1)))))) (y := (gn (Int32.toNatClampNeg 2))) C dL_rubs_87 ?_
      refine g_iast (pc := 88) (i := (gp (Int32.toNatClampNeg (((7 * p4) + (gp (Int32.toNatClampNeg (7 * p4)))) - 1)))) (x := (((upd gw (Int32.toNatClampNeg (gp (Int32.toNatClampNeg ((7 * p4) + (gp (Int32.toNatClampNeg (7 * p4))))))) ((gw (Int32.toNatClampNeg (gp (Int32.toNatClampNeg ((7 * p4) + (gp (Int32.toNatClampNeg (7 * p4)))))))) + (gn (Int32.toNatClampNeg 2)))) (Int32.toNatClampNeg (gp (Int32.toNatClampNeg (((7 * p4) + (gp (Int32.toNatClampNeg (7 * p4)))) - 1))))) + (gn (Int32.toNatClampNeg 2)))) hf C 0 rfl dL_rubs_88 (ws' := (wA10 (kD k) qw (upd (upd gw (Int32.toNatClampNeg (gp (Int32.toNatClampNeg ((7 * p4) + (gp (Int32.toNatClampNeg (7 * p4))))))) ((gw (Int32.toNatClampNeg (gp (Int32.toNatClampNeg ((7 * p4) + (gp (Int32.toNatClampNeg (7 * p4)))))))) + (gn (Int32.toNatClampNeg 2)))) (Int32.toNatClampNeg (gp (Int32.toNatClampNeg (((7 * p4) + (gp (Int32.toNatClampNeg (7 * p4)))) - 1)))) (((upd gw (Int32.toNatClampNeg (gp (Int32.toNatClampNeg ((7 * p4) + (gp (Int32.toNatClampNeg (7 * p4))))))) ((gw (Int32.toNatClampNeg (gp (Int32.toNatClampNeg ((7 * p4) + (gp (Int32.toNatClampNeg (7 * p4)))))))) + (gn (Int32.toNatClampNeg 2)))) (Int32.toNatClampNeg (gp (Int32.toNatClampNeg (((7 * p4) + (gp (Int32.toNatClampNeg (7 * p4)))) - 1))))) + (gn (Int32.toNatClampNeg 2)))) ++ (wA10 (kD k) qh (upd gh (Int32.toNatClampNeg (gp (Int32.toNatClampNeg ((7 * p4) + (gp (Int32.toNatClampNeg (7 * p4))))))) r1) ++ (wA9 (kD k) qn gn ++ (wA21 (kD k) qp gp))))) rfl (fun hf => ?_)
      obtain rfl := Option.some.inj hf
      exact g_vret C E dL_rubs_89 (Nat.le_of_ble_eq_true rfl) (Nat.le_of_ble_eq_true rfl) ⟨rfl, rfl⟩
  · refine g_icmp_ge (pc := 35) (tgt := 49) (x := ((gh (Int32.toNatClampNeg (gp (Int32.toNatClampNeg ((7 * p4) + (gp (Int32.toNatClampNeg (7 * p4)))))))) + (gn (Int32.toNatClampNeg 3)))) (y := 1000) hf C dL_rubs_35 (by decide) (fun hf => ?_) (fun hf => ?_)
    · refine g_sipush (pc := 49) (v := 1000) C dL_rubs_49 (by decide) ?_
      obtain rfl := Option.some.inj hf
      refine g_lv [2, 4, 5, 6, 1, 0] (lv' := [(0, .ref qw), (2, .ref qn), (3, .ref qp), (4, .int p4), (5, .int (gp (Int32.toNatClampNeg (7 * p4)))), (6, .int (gp (Int32.toNatClampNeg ((7 * p4) + (gp (Int32.toNatClampNeg (7 * p4)))))))]) rfl ?_
      exact K1
    · refine g_aload_n (pc := 38) (x := qh) C dL_rubs_38 rfl ?_
      refine g_iload (pc := 39) (x := (gp (Int32.toNatClampNeg ((7 * p4) + (gp (Int32.toNatClampNeg (7 * p4))))))) C dL_rubs_39 rfl ?_
      refine g_iald (pc := 41) (i := (gp (Int32.toNatClampNeg ((7 * p4) + (gp (Int32.toNatClampNeg (7 * p4))))))) hf C 1 rfl dL_rubs_41 (fun hf => ?_)
      refine g_aload_n (pc := 42) (x := qn) C dL_rubs_42 rfl ?_
      refine g_iconst (pc := 43) (v := 3) C dL_rubs_43 (by decide) ?_
      refine g_iald (pc := 44) (i := 3) hf C 2 rfl dL_rubs_44 (fun hf => ?_)
      refine g_iadd (pc := 45) (x := (gh (Int32.toNatClampNeg (gp (Int32.toNatClampNeg ((7 * p4) + (gp (Int32.toNatClampNeg (7 * p4))))))))) (y := (gn (Int32.toNatClampNeg 3))) C dL_rubs_45 ?_
      refine g_goto (pc := 46) (tgt := 52) C dL_rubs_46 (by decide) ?_
      obtain rfl := Option.some.inj hf
      refine g_lv [2, 4, 5, 6, 1, 0] (lv' := [(0, .ref qw), (2, .ref qn), (3, .ref qp), (4, .int p4), (5, .int (gp (Int32.toNatClampNeg (7 * p4)))), (6, .int (gp (Int32.toNatClampNeg ((7 * p4) + (gp (Int32.toNatClampNeg (7 * p4)))))))]) rfl ?_
      exact K1
set_option maxRecDepth 100000 in
set_option maxHeartbeats 4000000 in
theorem cL_rubs_ (l : Launch) (htr : l.stackTraces = false) (D : va_G) (N : Nat) (qw : Nat) (qh : Nat) (qn : Nat) (qp : Nat) (gw : (Nat → Int32)) (gh : (Nat → Int32)) (gn : (Nat → Int32)) (gp : (Nat → Int32)) (p4 : Int32) (r : (Nat → Int32) × (Nat → Int32)) (hf : fL_rubs N gw gh gn gp p4 = some r) : Tc l D yL_rubs wsL_rubs rmL_rubs [.ref qw, .ref qh, .ref qn, .ref qp, .int p4] (wA10 D qw gw ++ (wA10 D qh gh ++ (wA9 D qn gn ++ (wA21 D qp gp)))) (fun rv w => rv = none ∧ w = (wA10 D qw r.1 ++ (wA10 D qh r.2 ++ (wA9 D qn gn ++ (wA21 D qp gp))))) (fun _ _ => False) 0 0 := Tc_of htr (by decide +kernel) rfl (Nat.le_of_ble_eq_true rfl) (fun k C E hl hD => by subst hD; exact wkL_rubs C N qw qh qn qp gw gh gn gp p4 r hf E)
abbrev rmL_wrings : Room := { frames := 3, cells := 0, slots := 0, locals := 69 }
theorem hsL_wrings : yL_wrings.cls ≠ "java/lang/invoke/MethodHandle" ∧ yL_wrings.cls ≠ "java/lang/invoke/VarHandle" ∧ (parseMethodDescriptor yL_wrings.desc).map (fun d => d.parameters.length) = some 8 := by decide +kernel
def fL_wrings (N : Nat) (ge : (Nat → Int32)) (gw : (Nat → Int32)) (gh : (Nat → Int32)) (gt : (Nat → Int32)) (gn : (Nat → Int32)) (gp : (Nat → Int32)) (p6 : Int32) (p7 : Int32) : Option ((Nat → Int32) × (Nat → Int32) × (Nat → Int32) × (Nat → Int32) × (Nat → Int32) × Int32) := ((fL_reason N ge gw gh gn gp p6 p7).bind fun r1 => (if r1 ≤ (0 : Int32) then ck (7 * p6) 21 (ck (7 * p6) 21 (ck (7 * p6) 21 (ck ((7 * p6) + ((upd gp (Int32.toNatClampNeg (7 * p6)) ((gp (Int32.toNatClampNeg (7 * p6))) + 1)) (Int32.toNatClampNeg (7 * p6)))) 21 (((fL_rubs N gw gh gn (upd (upd gp (Int32.toNatClampNeg (7 * p6)) ((gp (Int32.toNatClampNeg (7 * p6))) + 1)) (Int32.toNatClampNeg ((7 * p6) + ((upd gp (Int32.toNatClampNeg (7 * p6)) ((gp (Int32.toNatClampNeg (7 * p6))) + 1)) (Int32.toNatClampNeg (7 * p6))))) p7) p6).bind fun r2 => ck p7 10 (ck p7 10 (ck 5 9 (ck 5 9 (some (r2.1, r2.2, (upd gt (Int32.toNatClampNeg p7) ((gt (Int32.toNatClampNeg p7)) + 1)), (upd gn (Int32.toNatClampNeg 5) ((gn (Int32.toNatClampNeg 5)) + 1)), (upd (upd gp (Int32.toNatClampNeg (7 * p6)) ((gp (Int32.toNatClampNeg (7 * p6))) + 1)) (Int32.toNatClampNeg ((7 * p6) + ((upd gp (Int32.toNatClampNeg (7 * p6)) ((gp (Int32.toNatClampNeg (7 * p6))) + 1)) (Int32.toNatClampNeg (7 * p6))))) p7), 0)))))))))) else ck 7 9 (ck 7 9 (some (gw, gh, gt, (upd gn (Int32.toNatClampNeg 7) ((gn (Int32.toNatClampNeg 7)) + 1)), gp, r1)))))
set_option maxRecDepth 100000 in
set_option maxHeartbeats 4000000 in
theorem wkL_wrings {k : Kt} (C : gC k cL_wrings 9 RL wsL_wrings rmL_wrings "wrings") (N : Nat) (qe : Nat) (qw : Nat) (qh : Nat) (qt : Nat) (qn : Nat) (qp : Nat) (ge : (Nat → Int32)) (gw : (Nat → Int32)) (gh : (Nat → Int32)) (gt : (Nat → Int32)) (gn : (Nat → Int32)) (gp : (Nat → Int32)) (p6 : Int32) (p7 : Int32) (r : (Nat → Int32) × (Nat → Int32) × (Nat → Int32) × (Nat → Int32) × (Nat → Int32) × Int32) (hf : fL_wrings N ge gw gh gt gn gp p6 p7 = some r) (E : gE k (wA10 (kD k) qe ge ++ (wA10 (kD k) qw gw ++ (wA10 (kD k) qh gh ++ (wA10 (kD k) qt gt ++ (wA9 (kD k) qn gn ++ (wA21 (kD k) qp gp)))))) (fun rv w => rv = some (.int r.2.2.2.2.2) ∧ w = (wA10 (kD k) qe ge ++ (wA10 (kD k) qw r.1 ++ (wA10 (kD k) qh r.2.1 ++ (wA10 (kD k) qt r.2.2.1 ++ (wA9 (kD k) qn r.2.2.2.1 ++ (wA21 (kD k) qp r.2.2.2.2.1))))))) (fun _ _ => False) 0 0 (some .int) []) : gG k (wA10 (kD k) qe ge ++ (wA10 (kD k) qw gw ++ (wA10 (kD k) qh gh ++ (wA10 (kD k) qt gt ++ (wA9 (kD k) qn gn ++ (wA21 (kD k) qp gp)))))) [(0, .ref qe), (1, .ref qw), (2, .ref qh), (3, .ref qt), (4, .ref qn), (5, .ref qp), (6, .int p6), (7, .int p7)] 0 0 0 [] := by
  unfold fL_wrings at hf
  refine g_aload_n (pc := 0) (x := qe) C dL_wrings_0 rfl ?_
  refine g_aload_n (pc := 1) (x := qw) C dL_wrings_1 rfl ?_
  refine g_aload_n (pc := 2) (x := qh) C dL_wrings_2 rfl ?_
  refine g_aload (pc := 3) (x := qn) C dL_wrings_3 rfl ?_
  refine g_aload (pc := 5) (x := qp) C dL_wrings_5 rfl ?_
  refine g_iload (pc := 7) (x := p6) C dL_wrings_7 rfl ?_
  refine g_iload (pc := 9) (x := p7) C dL_wrings_9 rfl ?_
  refine g_callWA (wr := wA10 (kD k) qt gt) (pc' := 14) (cs' := 0) (sl' := 0) hf C (fun u => some (.int u)) (fun u => (wA10 (kD k) qe ge ++ (wA10 (kD k) qw gw ++ (wA10 (kD k) qh gh ++ (wA9 (kD k) qn gn ++ (wA21 (kD k) qp gp)))))) ((pmc (pmc (pmc ((pm0 (List.Perm.refl _)).trans (pmc pmL))))).trans as5) (fun u hu => gr_S (rest := []) C (cL_reason_ (kL k) C.tr (kD k) N qe qw qh qn qp ge gw gh gn gp p6 p7 u hu) (fun ht => va_cwS 7 ht gL_wrings_L_reason rfl rfl rfl hsL_reason ⟨(Nat.le_of_ble_eq_true rfl), (Nat.le_of_ble_eq_true rfl)⟩) _ (rg_map _ _) (rg_nd _) rfl rfl (Nat.le_of_ble_eq_true rfl) dL_wrings_11 ⟨(Nat.le_of_ble_eq_true rfl), (Nat.le_of_ble_eq_true rfl)⟩) (ws' := fun u => (wA10 (kD k) qe ge ++ (wA10 (kD k) qw gw ++ (wA10 (kD k) qh gh ++ (wA10 (kD k) qt gt ++ (wA9 (kD k) qn gn ++ (wA21 (kD k) qp gp))))))) (fun u => (as5.symm.trans (pmc (pmc (pmc (pm0 pmL)))))) rfl rfl rfl (fun u => [.int u]) (fun u => rfl) (fun r1 hf => ?_)
  refine g_istore (pc := 14) (lv' := [(8, .int r1), (0, .ref qe), (1, .ref qw), (2, .ref qh), (3, .ref qt), (4, .ref qn), (5, .ref qp), (6, .int p6), (7, .int p7)]) C dL_wrings_14 (by decide) rfl ?_
  refine g_iload (pc := 16) (x := r1) C dL_wrings_16 rfl ?_
  refine g_if_le (pc := 18) (tgt := 33) (x := r1) hf C dL_wrings_18 (by decide) (fun hf => ?_) (fun hf => ?_)
  · refine g_aload (pc := 33) (x := qp) C dL_wrings_33 rfl ?_
    refine g_bipush (pc := 35) (v := 7) C dL_wrings_35 (by decide) ?_
    refine g_iload (pc := 37) (x := p6) C dL_wrings_37 rfl ?_
    refine g_imul (pc := 39) (x := 7) (y := p6) C dL_wrings_39 ?_
    refine g_dup2 (pc := 40) C dL_wrings_40 rfl rfl ?_
    refine g_iald (pc := 41) (i := (7 * p6)) hf C 5 rfl dL_wrings_41 (fun hf => ?_)
    refine g_iconst (pc := 42) (v := 1) C dL_wrings_42 (by decide) ?_
    refine g_iadd (pc := 43) (x := (gp (Int32.toNatClampNeg (7 * p6)))) (y := 1) C dL_wrings_43 ?_
    refine g_iast (pc := 44) (i := (7 * p6)) (x := ((gp (Int32.toNatClampNeg (7 * p6))) + 1)) hf C 5 rfl dL_wrings_44 (ws' := (wA10 (kD k) qe ge ++ (wA10 (kD k) qw gw ++ (wA10 (kD k) qh gh ++ (wA10 (kD k) qt gt ++ (wA9 (kD k) qn gn ++ (wA21 (kD k) qp (upd gp (Int32.toNatClampNeg (7 * p6)) ((gp (Int32.toNatClampNeg (7 * p6))) + 1))))))))) rfl (fun hf => ?_)
    refine g_aload (pc := 45) (x := qp) C dL_wrings_45 rfl ?_
    refine g_bipush (pc := 47) (v := 7) C dL_wrings_47 (by decide) ?_
    refine g_iload (pc := 49) (x := p6) C dL_wrings_49 rfl ?_
    refine g_imul (pc := 51) (x := 7) (y := p6) C dL_wrings_51 ?_
    refine g_aload (pc := 52) (x := qp) C dL_wrings_52 rfl ?_
    refine g_bipush (pc := 54) (v := 7) C dL_wrings_54 (by decide) ?_
    refine g_iload (pc := 56) (x := p6) C dL_wrings_56 rfl ?_
    refine g_imul (pc := 58) (x := 7) (y := p6) C dL_wrings_58 ?_
    refine g_iald (pc := 59) (i := (7 * p6)) hf C 5 rfl dL_wrings_59 (fun hf => ?_)
    refine g_iadd (pc := 60) (x := (7 * p6)) (y := ((upd gp (Int32.toNatClampNeg (7 * p6)) ((gp (Int32.toNatClampNeg (7 * p6))) + 1)) (Int32.toNatClampNeg (7 * p6)))) C dL_wrings_60 ?_
    refine g_iload (pc := 61) (x := p7) C dL_wrings_61 rfl ?_
    refine g_iast (pc := 63) (i := ((7 * p6) + ((upd gp (Int32.toNatClampNeg (7 * p6)) ((gp (Int32.toNatClampNeg (7 * p6))) + 1)) (Int32.toNatClampNeg (7 * p6))))) (x := p7) hf C 5 rfl dL_wrings_63 (ws' := (wA10 (kD k) qe ge ++ (wA10 (kD k) qw gw ++ (wA10 (kD k) qh gh ++ (wA10 (kD k) qt gt ++ (wA9 (kD k) qn gn ++ (wA21 (kD k) qp (upd (upd gp (Int32.toNatClampNeg (7 * p6)) ((gp (Int32.toNatClampNeg (7 * p6))) + 1)) (Int32.toNatClampNeg ((7 * p6) + ((upd gp (Int32.toNatClampNeg (7 * p6)) ((gp (Int32.toNatClampNeg (7 * p6))) + 1)) (Int32.toNatClampNeg (7 * p6))))) p7)))))))) rfl (fun hf => ?_)
    refine g_aload_n (pc := 64) (x := qw) C dL_wrings_64 rfl ?_
    refine g_aload_n (pc := 65) (x := qh) C dL_wrings_65 rfl ?_
    refine g_aload (pc := 66) (x := qn) C dL_wrings_66 rfl ?_
    refine g_aload (pc := 68) (x := qp) C dL_wrings_68 rfl ?_
    refine g_iload (pc := 70) (x := p6) C dL_wrings_70 rfl ?_
    refine g_callWA (wr := wA10 (kD k) qe ge ++ (wA10 (kD k) qt gt)) (pc' := 75) (cs' := 0) (sl' := 0) hf C (fun u => none) (fun u => (wA10 (kD k) qw u.1 ++ (wA10 (kD k) qh u.2 ++ (wA9 (kD k) qn gn ++ (wA21 (kD k) qp (upd (upd gp (Int32.toNatClampNeg (7 * p6)) ((gp (Int32.toNatClampNeg (7 * p6))) + 1)) (Int32.toNatClampNeg ((7 * p6) + ((upd gp (Int32.toNatClampNeg (7 * p6)) ((gp (Int32.toNatClampNeg (7 * p6))) + 1)) (Int32.toNatClampNeg (7 * p6))))) p7)))))) (((pm0 (List.Perm.refl _)).trans (pmc ((pm0 (List.Perm.refl _)).trans (pmc ((pm0 (pm0 (List.Perm.refl _))).trans (pmc (pm0 pmL))))))).trans as4) (fun u hu => gr_S (rest := []) C (cL_rubs_ (kL k) C.tr (kD k) N qw qh qn qp gw gh gn (upd (upd gp (Int32.toNatClampNeg (7 * p6)) ((gp (Int32.toNatClampNeg (7 * p6))) + 1)) (Int32.toNatClampNeg ((7 * p6) + ((upd gp (Int32.toNatClampNeg (7 * p6)) ((gp (Int32.toNatClampNeg (7 * p6))) + 1)) (Int32.toNatClampNeg (7 * p6))))) p7) p6 u hu) (fun ht => va_cwS 5 ht gL_wrings_L_rubs rfl rfl rfl hsL_rubs ⟨(Nat.le_of_ble_eq_true rfl), (Nat.le_of_ble_eq_true rfl)⟩) _ (rg_map _ _) (rg_nd _) rfl rfl (Nat.le_of_ble_eq_true rfl) dL_wrings_72 ⟨(Nat.le_of_ble_eq_true rfl), (Nat.le_of_ble_eq_true rfl)⟩) (ws' := fun u => (wA10 (kD k) qe ge ++ (wA10 (kD k) qw u.1 ++ (wA10 (kD k) qh u.2 ++ (wA10 (kD k) qt gt ++ (wA9 (kD k) qn gn ++ (wA21 (kD k) qp (upd (upd gp (Int32.toNatClampNeg (7 * p6)) ((gp (Int32.toNatClampNeg (7 * p6))) + 1)) (Int32.toNatClampNeg ((7 * p6) + ((upd gp (Int32.toNatClampNeg (7 * p6)) ((gp (Int32.toNatClampNeg (7 * p6))) + 1)) (Int32.toNatClampNeg (7 * p6))))) p7)))))))) (fun u => (as4.symm.trans ((pm0 (pm0 (pm0 (pm0 (List.Perm.refl _))))).trans (pmc (pmc (pmc (pm0 pmL))))))) rfl rfl rfl (fun u => []) (fun u => rfl) (fun r2 hf => ?_)
    refine g_aload_n (pc := 75) (x := qt) C dL_wrings_75 rfl ?_
    refine g_iload (pc := 76) (x := p7) C dL_wrings_76 rfl ?_
    refine g_dup2 (pc := 78) C dL_wrings_78 rfl rfl ?_
    refine g_iald (pc := 79) (i := p7) hf C 3 rfl dL_wrings_79 (fun hf => ?_)
    refine g_iconst (pc := 80) (v := 1) C dL_wrings_80 (by decide) ?_
    refine g_iadd (pc := 81) (x := (gt (Int32.toNatClampNeg p7))) (y := 1) C dL_wrings_81 ?_
    refine g_iast (pc := 82) (i := p7) (x := ((gt (Int32.toNatClampNeg p7)) + 1)) hf C 3 rfl dL_wrings_82 (ws' := (wA10 (kD k) qe ge ++ (wA10 (kD k) qw r2.1 ++ (wA10 (kD k) qh r2.2 ++ (wA10 (kD k) qt (upd gt (Int32.toNatClampNeg p7) ((gt (Int32.toNatClampNeg p7)) + 1)) ++ (wA9 (kD k) qn gn ++ (wA21 (kD k) qp (upd (upd gp (Int32.toNatClampNeg (7 * p6)) ((gp (Int32.toNatClampNeg (7 * p6))) + 1)) (Int32.toNatClampNeg ((7 * p6) + ((upd gp (Int32.toNatClampNeg (7 * p6)) ((gp (Int32.toNatClampNeg (7 * p6))) + 1)) (Int32.toNatClampNeg (7 * p6))))) p7)))))))) rfl (fun hf => ?_)
    refine g_aload (pc := 83) (x := qn) C dL_wrings_83 rfl ?_
    refine g_iconst (pc := 85) (v := 5) C dL_wrings_85 (by decide) ?_
    refine g_dup2 (pc := 86) C dL_wrings_86 rfl rfl ?_
    refine g_iald (pc := 87) (i := 5) hf C 4 rfl dL_wrings_87 (fun hf => ?_)
    refine g_iconst (pc := 88) (v := 1) C dL_wrings_88 (by decide) ?_
    refine g_iadd (pc := 89) (x := (gn (Int32.toNatClampNeg 5))) (y := 1) C dL_wrings_89 ?_
    refine g_iast (pc := 90) (i := 5) (x := ((gn (Int32.toNatClampNeg 5)) + 1)) hf C 4 rfl dL_wrings_90 (ws' := (wA10 (kD k) qe ge ++ (wA10 (kD k) qw r2.1 ++ (wA10 (kD k) qh r2.2 ++ (wA10 (kD k) qt (upd gt (Int32.toNatClampNeg p7) ((gt (Int32.toNatClampNeg p7)) + 1)) ++ (wA9 (kD k) qn (upd gn (Int32.toNatClampNeg 5) ((gn (Int32.toNatClampNeg 5)) + 1)) ++ (wA21 (kD k) qp (upd (upd gp (Int32.toNatClampNeg (7 * p6)) ((gp (Int32.toNatClampNeg (7 * p6))) + 1)) (Int32.toNatClampNeg ((7 * p6) + ((upd gp (Int32.toNatClampNeg (7 * p6)) ((gp (Int32.toNatClampNeg (7 * p6))) + 1)) (Int32.toNatClampNeg (7 * p6))))) p7)))))))) rfl (fun hf => ?_)
    refine g_iconst (pc := 91) (v := 0) C dL_wrings_91 (by decide) ?_
    obtain rfl := Option.some.inj hf
    exact g_iret (v := 0) C E dL_wrings_92 (Nat.le_of_ble_eq_true rfl) (Nat.le_of_ble_eq_true rfl) ⟨rfl, rfl⟩
  · refine g_aload (pc := 21) (x := qn) C dL_wrings_21 rfl ?_
    refine g_bipush (pc := 23) (v := 7) C dL_wrings_23 (by decide) ?_
    refine g_dup2 (pc := 25) C dL_wrings_25 rfl rfl ?_
    refine g_iald (pc := 26) (i := 7) hf C 4 rfl dL_wrings_26 (fun hf => ?_)
    refine g_iconst (pc := 27) (v := 1) C dL_wrings_27 (by decide) ?_
    refine g_iadd (pc := 28) (x := (gn (Int32.toNatClampNeg 7))) (y := 1) C dL_wrings_28 ?_
    refine g_iast (pc := 29) (i := 7) (x := ((gn (Int32.toNatClampNeg 7)) + 1)) hf C 4 rfl dL_wrings_29 (ws' := (wA10 (kD k) qe ge ++ (wA10 (kD k) qw gw ++ (wA10 (kD k) qh gh ++ (wA10 (kD k) qt gt ++ (wA9 (kD k) qn (upd gn (Int32.toNatClampNeg 7) ((gn (Int32.toNatClampNeg 7)) + 1)) ++ (wA21 (kD k) qp gp))))))) rfl (fun hf => ?_)
    refine g_iload (pc := 30) (x := r1) C dL_wrings_30 rfl ?_
    obtain rfl := Option.some.inj hf
    exact g_iret (v := r1) C E dL_wrings_32 (Nat.le_of_ble_eq_true rfl) (Nat.le_of_ble_eq_true rfl) ⟨rfl, rfl⟩
set_option maxRecDepth 100000 in
set_option maxHeartbeats 4000000 in
theorem cL_wrings_ (l : Launch) (htr : l.stackTraces = false) (D : va_G) (N : Nat) (qe : Nat) (qw : Nat) (qh : Nat) (qt : Nat) (qn : Nat) (qp : Nat) (ge : (Nat → Int32)) (gw : (Nat → Int32)) (gh : (Nat → Int32)) (gt : (Nat → Int32)) (gn : (Nat → Int32)) (gp : (Nat → Int32)) (p6 : Int32) (p7 : Int32) (r : (Nat → Int32) × (Nat → Int32) × (Nat → Int32) × (Nat → Int32) × (Nat → Int32) × Int32) (hf : fL_wrings N ge gw gh gt gn gp p6 p7 = some r) : Tc l D yL_wrings wsL_wrings rmL_wrings [.ref qe, .ref qw, .ref qh, .ref qt, .ref qn, .ref qp, .int p6, .int p7] (wA10 D qe ge ++ (wA10 D qw gw ++ (wA10 D qh gh ++ (wA10 D qt gt ++ (wA9 D qn gn ++ (wA21 D qp gp)))))) (fun rv w => rv = some (.int r.2.2.2.2.2) ∧ w = (wA10 D qe ge ++ (wA10 D qw r.1 ++ (wA10 D qh r.2.1 ++ (wA10 D qt r.2.2.1 ++ (wA9 D qn r.2.2.2.1 ++ (wA21 D qp r.2.2.2.2.1))))))) (fun _ _ => False) 0 0 := Tc_of htr (by decide +kernel) rfl (Nat.le_of_ble_eq_true rfl) (fun k C E hl hD => by subst hD; exact wkL_wrings C N qe qw qh qt qn qp ge gw gh gt gn gp p6 p7 r hf E)
abbrev rmL_sum : Room := { frames := 0, cells := 0, slots := 0, locals := 0 }
theorem hsL_sum : yL_sum.cls ≠ "java/lang/invoke/MethodHandle" ∧ yL_sum.cls ≠ "java/lang/invoke/VarHandle" ∧ (parseMethodDescriptor yL_sum.desc).map (fun d => d.parameters.length) = some 2 := by decide +kernel
def lL_sum_4 (N : Nat) (gl : (Nat → Int32)) (l1 : Int32) : Nat → Int32 → Int32 → Option ((Int32))
  | 0, _, _ => none
  | n + 1, l2, l3 => (if (10 : Int32) ≤ l3 then some l2 else (if ((l1 >>> (l3 &&& 31)) &&& 1) = (1 : Int32) then ck l3 10 ((lL_sum_4 N gl l1 n (l2 + (gl (Int32.toNatClampNeg l3))) (l3 + 1))) else (lL_sum_4 N gl l1 n (l2 + 0) (l3 + 1))))
set_option maxRecDepth 100000 in
set_option maxHeartbeats 4000000 in
theorem wlL_sum_4 {k : Kt} (C : gC k cL_sum 4 RL wsL_sum rmL_sum "sum") (N : Nat) (ql : Nat) (gl : (Nat → Int32)) (l1 : Int32) : ∀ (n : Nat) (l2 : Int32) (l3 : Int32) (u : (Int32)) (hf : lL_sum_4 N gl l1 n l2 l3 = some u) (hk0 : gG k (wA10 (kD k) ql gl) [(2, .int u)] 0 0 35 []), gG k (wA10 (kD k) ql gl) [(0, .ref ql), (1, .int l1), (2, .int l2), (3, .int l3)] 0 0 4 [] := by
  intro n
  induction n with
  | zero => intro l2 l3 u hf hk0; rw [lL_sum_4] at hf; cases hf
  | succ n ih =>
    intro l2 l3 u hf hk0
    rw [lL_sum_4] at hf
    refine g_iload_n (pc := 4) (x := l3) C dL_sum_4 rfl ?_
    refine g_bipush (pc := 5) (v := 10) C dL_sum_5 (by decide) ?_
    refine g_icmp_ge (pc := 7) (tgt := 35) (x := l3) (y := 10) hf C dL_sum_7 (by decide) (fun hf => ?_) (fun hf => ?_)
    · obtain rfl := Option.some.inj hf
      refine g_lv [2] (lv' := [(2, .int l2)]) rfl ?_
      exact hk0
    · refine g_iload_n (pc := 10) (x := l2) C dL_sum_10 rfl ?_
      refine g_iload_n (pc := 11) (x := l1) C dL_sum_11 rfl ?_
      refine g_iload_n (pc := 12) (x := l3) C dL_sum_12 rfl ?_
      refine g_ishr (pc := 13) (x := l1) (y := l3) C dL_sum_13 ?_
      refine g_iconst (pc := 14) (v := 1) C dL_sum_14 (by decide) ?_
      refine g_iand (pc := 15) (x := (l1 >>> (l3 &&& 31))) (y := 1) C dL_sum_15 ?_
      refine g_iconst (pc := 16) (v := 1) C dL_sum_16 (by decide) ?_
      refine g_icmp_ne (pc := 17) (tgt := 26) (x := ((l1 >>> (l3 &&& 31)) &&& 1)) (y := 1) hf C dL_sum_17 (by decide) (fun hf => ?_) (fun hf => ?_)
      · refine g_iconst (pc := 26) (v := 0) C dL_sum_26 (by decide) ?_
        refine g_iadd (pc := 27) (x := l2) (y := 0) C dL_sum_27 ?_
        refine g_istore_n (pc := 28) (lv' := [(2, .int (l2 + 0)), (0, .ref ql), (1, .int l1), (3, .int l3)]) C dL_sum_28 (by decide) rfl ?_
        refine g_iinc (pc := 29) (x := l3) (v := (l3 + 1)) (lv' := [(3, .int (l3 + 1)), (2, .int (l2 + 0)), (0, .ref ql), (1, .int l1)]) C dL_sum_29 rfl rfl (by decide) rfl ?_
        refine g_goto (pc := 32) (tgt := 4) C dL_sum_32 (by decide) ?_
        refine g_lv [2, 3, 1, 0] (lv' := [(0, .ref ql), (1, .int l1), (2, .int (l2 + 0)), (3, .int (l3 + 1))]) rfl ?_
        exact ih (l2 + 0) (l3 + 1) u hf hk0
      · refine g_aload_n (pc := 20) (x := ql) C dL_sum_20 rfl ?_
        refine g_iload_n (pc := 21) (x := l3) C dL_sum_21 rfl ?_
        refine g_iald (pc := 22) (i := l3) hf C 0 rfl dL_sum_22 (fun hf => ?_)
        refine g_goto (pc := 23) (tgt := 27) C dL_sum_23 (by decide) ?_
        refine g_iadd (pc := 27) (x := l2) (y := (gl (Int32.toNatClampNeg l3))) C dL_sum_27 ?_
        refine g_istore_n (pc := 28) (lv' := [(2, .int (l2 + (gl (Int32.toNatClampNeg l3)))), (0, .ref ql), (1, .int l1), (3, .int l3)]) C dL_sum_28 (by decide) rfl ?_
        refine g_iinc (pc := 29) (x := l3) (v := (l3 + 1)) (lv' := [(3, .int (l3 + 1)), (2, .int (l2 + (gl (Int32.toNatClampNeg l3)))), (0, .ref ql), (1, .int l1)]) C dL_sum_29 rfl rfl (by decide) rfl ?_
        refine g_goto (pc := 32) (tgt := 4) C dL_sum_32 (by decide) ?_
        refine g_lv [2, 3, 1, 0] (lv' := [(0, .ref ql), (1, .int l1), (2, .int (l2 + (gl (Int32.toNatClampNeg l3)))), (3, .int (l3 + 1))]) rfl ?_
        exact ih (l2 + (gl (Int32.toNatClampNeg l3))) (l3 + 1) u hf hk0
def fL_sum (N : Nat) (gl : (Nat → Int32)) (p1 : Int32) : Option (Int32) := ((lL_sum_4 N gl p1 N 0 0).bind fun r1 => some r1)
set_option maxRecDepth 100000 in
set_option maxHeartbeats 4000000 in
theorem wkL_sum {k : Kt} (C : gC k cL_sum 4 RL wsL_sum rmL_sum "sum") (N : Nat) (ql : Nat) (gl : (Nat → Int32)) (p1 : Int32) (r : Int32) (hf : fL_sum N gl p1 = some r) (E : gE k (wA10 (kD k) ql gl) (fun rv w => rv = some (.int r) ∧ w = (wA10 (kD k) ql gl)) (fun _ _ => False) 0 0 (some .int) []) : gG k (wA10 (kD k) ql gl) [(0, .ref ql), (1, .int p1)] 0 0 0 [] := by
  unfold fL_sum at hf
  refine g_iconst (pc := 0) (v := 0) C dL_sum_0 (by decide) ?_
  refine g_istore_n (pc := 1) (lv' := [(2, .int 0), (0, .ref ql), (1, .int p1)]) C dL_sum_1 (by decide) rfl ?_
  refine g_iconst (pc := 2) (v := 0) C dL_sum_2 (by decide) ?_
  refine g_istore_n (pc := 3) (lv' := [(3, .int 0), (2, .int 0), (0, .ref ql), (1, .int p1)]) C dL_sum_3 (by decide) rfl ?_
  obtain ⟨r1, h1, hf⟩ := bd_e hf
  refine g_lv [2, 3, 1, 0] (lv' := [(0, .ref ql), (1, .int p1), (2, .int 0), (3, .int 0)]) rfl ?_
  refine wlL_sum_4 C N ql gl p1 N 0 0 r1 h1 ?_
  refine g_iload_n (pc := 35) (x := r1) C dL_sum_35 rfl ?_
  obtain rfl := Option.some.inj hf
  exact g_iret (v := r1) C E dL_sum_36 (Nat.le_of_ble_eq_true rfl) (Nat.le_of_ble_eq_true rfl) ⟨rfl, rfl⟩
set_option maxRecDepth 100000 in
set_option maxHeartbeats 4000000 in
theorem cL_sum_ (l : Launch) (htr : l.stackTraces = false) (D : va_G) (N : Nat) (ql : Nat) (gl : (Nat → Int32)) (p1 : Int32) (r : Int32) (hf : fL_sum N gl p1 = some r) : Tc l D yL_sum wsL_sum rmL_sum [.ref ql, .int p1] (wA10 D ql gl) (fun rv w => rv = some (.int r) ∧ w = (wA10 D ql gl)) (fun _ _ => False) 0 0 := Tc_of htr (by decide +kernel) rfl (Nat.le_of_ble_eq_true rfl) (fun k C E hl hD => by subst hD; exact wkL_sum C N ql gl p1 r hf E)
abbrev rmL_ones : Room := { frames := 0, cells := 0, slots := 0, locals := 0 }
theorem hsL_ones : yL_ones.cls ≠ "java/lang/invoke/MethodHandle" ∧ yL_ones.cls ≠ "java/lang/invoke/VarHandle" ∧ (parseMethodDescriptor yL_ones.desc).map (fun d => d.parameters.length) = some 1 := by decide +kernel
def lL_ones_4 (N : Nat) (l0 : Int32) : Nat → Int32 → Int32 → Option ((Int32))
  | 0, _, _ => none
  | n + 1, l1, l2 => (if (20 : Int32) ≤ l2 then some l1 else (lL_ones_4 N l0 n (l1 + ((l0 >>> (l2 &&& 31)) &&& 1)) (l2 + 1)))
set_option maxRecDepth 100000 in
set_option maxHeartbeats 4000000 in
theorem wlL_ones_4 {k : Kt} (C : gC k cL_ones 3 RL wsL_ones rmL_ones "ones") (N : Nat) (l0 : Int32) : ∀ (n : Nat) (l1 : Int32) (l2 : Int32) (u : (Int32)) (hf : lL_ones_4 N l0 n l1 l2 = some u) (hk0 : gG k [] [(1, .int u)] 0 0 24 []), gG k [] [(0, .int l0), (1, .int l1), (2, .int l2)] 0 0 4 [] := by
  intro n
  induction n with
  | zero => intro l1 l2 u hf hk0; rw [lL_ones_4] at hf; cases hf
  | succ n ih =>
    intro l1 l2 u hf hk0
    rw [lL_ones_4] at hf
    refine g_iload_n (pc := 4) (x := l2) C dL_ones_4 rfl ?_
    refine g_bipush (pc := 5) (v := 20) C dL_ones_5 (by decide) ?_
    refine g_icmp_ge (pc := 7) (tgt := 24) (x := l2) (y := 20) hf C dL_ones_7 (by decide) (fun hf => ?_) (fun hf => ?_)
    · obtain rfl := Option.some.inj hf
      refine g_lv [1] (lv' := [(1, .int l1)]) rfl ?_
      exact hk0
    · refine g_iload_n (pc := 10) (x := l1) C dL_ones_10 rfl ?_
      refine g_iload_n (pc := 11) (x := l0) C dL_ones_11 rfl ?_
      refine g_iload_n (pc := 12) (x := l2) C dL_ones_12 rfl ?_
      refine g_ishr (pc := 13) (x := l0) (y := l2) C dL_ones_13 ?_
      refine g_iconst (pc := 14) (v := 1) C dL_ones_14 (by decide) ?_
      refine g_iand (pc := 15) (x := (l0 >>> (l2 &&& 31))) (y := 1) C dL_ones_15 ?_
      refine g_iadd (pc := 16) (x := l1) (y := ((l0 >>> (l2 &&& 31)) &&& 1)) C dL_ones_16 ?_
      refine g_istore_n (pc := 17) (lv' := [(1, .int (l1 + ((l0 >>> (l2 &&& 31)) &&& 1))), (0, .int l0), (2, .int l2)]) C dL_ones_17 (by decide) rfl ?_
      refine g_iinc (pc := 18) (x := l2) (v := (l2 + 1)) (lv' := [(2, .int (l2 + 1)), (1, .int (l1 + ((l0 >>> (l2 &&& 31)) &&& 1))), (0, .int l0)]) C dL_ones_18 rfl rfl (by decide) rfl ?_
      refine g_goto (pc := 21) (tgt := 4) C dL_ones_21 (by decide) ?_
      refine g_lv [2, 1, 0] (lv' := [(0, .int l0), (1, .int (l1 + ((l0 >>> (l2 &&& 31)) &&& 1))), (2, .int (l2 + 1))]) rfl ?_
      exact ih (l1 + ((l0 >>> (l2 &&& 31)) &&& 1)) (l2 + 1) u hf hk0
def fL_ones (N : Nat) (p0 : Int32) : Option (Int32) := ((lL_ones_4 N p0 N 0 0).bind fun r1 => some r1)
set_option maxRecDepth 100000 in
set_option maxHeartbeats 4000000 in
theorem wkL_ones {k : Kt} (C : gC k cL_ones 3 RL wsL_ones rmL_ones "ones") (N : Nat) (p0 : Int32) (r : Int32) (hf : fL_ones N p0 = some r) (E : gE k [] (fun rv w => rv = some (.int r) ∧ w = []) (fun _ _ => False) 0 0 (some .int) []) : gG k [] [(0, .int p0)] 0 0 0 [] := by
  unfold fL_ones at hf
  refine g_iconst (pc := 0) (v := 0) C dL_ones_0 (by decide) ?_
  refine g_istore_n (pc := 1) (lv' := [(1, .int 0), (0, .int p0)]) C dL_ones_1 (by decide) rfl ?_
  refine g_iconst (pc := 2) (v := 0) C dL_ones_2 (by decide) ?_
  refine g_istore_n (pc := 3) (lv' := [(2, .int 0), (1, .int 0), (0, .int p0)]) C dL_ones_3 (by decide) rfl ?_
  obtain ⟨r1, h1, hf⟩ := bd_e hf
  refine g_lv [2, 1, 0] (lv' := [(0, .int p0), (1, .int 0), (2, .int 0)]) rfl ?_
  refine wlL_ones_4 C N p0 N 0 0 r1 h1 ?_
  refine g_iload_n (pc := 24) (x := r1) C dL_ones_24 rfl ?_
  obtain rfl := Option.some.inj hf
  exact g_iret (v := r1) C E dL_ones_25 (Nat.le_of_ble_eq_true rfl) (Nat.le_of_ble_eq_true rfl) ⟨rfl, rfl⟩
set_option maxRecDepth 100000 in
set_option maxHeartbeats 4000000 in
theorem cL_ones_ (l : Launch) (htr : l.stackTraces = false) (D : va_G) (N : Nat) (p0 : Int32) (r : Int32) (hf : fL_ones N p0 = some r) : Tc l D yL_ones wsL_ones rmL_ones [.int p0] [] (fun rv w => rv = some (.int r) ∧ w = []) (fun _ _ => False) 0 0 := Tc_of htr (by decide +kernel) rfl (Nat.le_of_ble_eq_true rfl) (fun k C E hl hD => by subst hD; exact wkL_ones C N p0 r hf E)
abbrev rmL_free : Room := { frames := 1, cells := 0, slots := 0, locals := 24 }
theorem hsL_free : yL_free.cls ≠ "java/lang/invoke/MethodHandle" ∧ yL_free.cls ≠ "java/lang/invoke/VarHandle" ∧ (parseMethodDescriptor yL_free.desc).map (fun d => d.parameters.length) = some 2 := by decide +kernel
def lL_free_4 (N : Nat) (gn : (Nat → Int32)) (gp : (Nat → Int32)) : Nat → Int32 → Int32 → Option ((Int32))
  | 0, _, _ => none
  | n + 1, l2, l3 => ck 8 9 ((if (gn (Int32.toNatClampNeg 8)) ≤ l3 then some l2 else ((fL_where N gp l3).bind fun r1 => (if r1 = ((-1) : Int32) then (lL_free_4 N gn gp n (l2 ||| ((1 : Int32) <<< (l3 &&& 31))) (l3 + 1)) else (lL_free_4 N gn gp n (l2 ||| 0) (l3 + 1))))))
set_option maxRecDepth 100000 in
set_option maxHeartbeats 4000000 in
theorem wlL_free_4 {k : Kt} (C : gC k cL_free 4 RL wsL_free rmL_free "free") (N : Nat) (qn : Nat) (qp : Nat) (gn : (Nat → Int32)) (gp : (Nat → Int32)) : ∀ (n : Nat) (l2 : Int32) (l3 : Int32) (u : (Int32)) (hf : lL_free_4 N gn gp n l2 l3 = some u) (hk0 : gG k (wA9 (kD k) qn gn ++ (wA21 (kD k) qp gp)) [(2, .int u)] 0 0 37 []), gG k (wA9 (kD k) qn gn ++ (wA21 (kD k) qp gp)) [(0, .ref qn), (1, .ref qp), (2, .int l2), (3, .int l3)] 0 0 4 [] := by
  intro n
  induction n with
  | zero => intro l2 l3 u hf hk0; rw [lL_free_4] at hf; cases hf
  | succ n ih =>
    intro l2 l3 u hf hk0
    rw [lL_free_4] at hf
    refine g_iload_n (pc := 4) (x := l3) C dL_free_4 rfl ?_
    refine g_aload_n (pc := 5) (x := qn) C dL_free_5 rfl ?_
    refine g_bipush (pc := 6) (v := 8) C dL_free_6 (by decide) ?_
    refine g_iald (pc := 8) (i := 8) hf C 0 rfl dL_free_8 (fun hf => ?_)
    refine g_icmp_ge (pc := 9) (tgt := 37) (x := l3) (y := (gn (Int32.toNatClampNeg 8))) hf C dL_free_9 (by decide) (fun hf => ?_) (fun hf => ?_)
    · obtain rfl := Option.some.inj hf
      refine g_lv [2] (lv' := [(2, .int l2)]) rfl ?_
      exact hk0
    · refine g_iload_n (pc := 12) (x := l2) C dL_free_12 rfl ?_
      refine g_aload_n (pc := 13) (x := qp) C dL_free_13 rfl ?_
      refine g_iload_n (pc := 14) (x := l3) C dL_free_14 rfl ?_
      refine g_callWA (wr := wA9 (kD k) qn gn) (pc' := 18) (cs' := 0) (sl' := 0) hf C (fun u => some (.int u)) (fun u => (wA21 (kD k) qp gp)) pmL (fun u hu => gr_S (rest := [.int l2]) C (cL_where_ (kL k) C.tr (kD k) N qp gp l3 u hu) (fun ht => va_cwS 2 ht gL_free_L_where rfl rfl rfl hsL_where ⟨(Nat.le_of_ble_eq_true rfl), (Nat.le_of_ble_eq_true rfl)⟩) _ (rg_map _ _) (rg_nd _) rfl rfl (Nat.le_of_ble_eq_true rfl) dL_free_15 ⟨(Nat.le_of_ble_eq_true rfl), (Nat.le_of_ble_eq_true rfl)⟩) (ws' := fun u => (wA9 (kD k) qn gn ++ (wA21 (kD k) qp gp))) (fun u => pmL) rfl rfl rfl (fun u => [.int u, .int l2]) (fun u => rfl) (fun r1 hf => ?_)
      refine g_iconst (pc := 18) (v := (-1)) C dL_free_18 (by decide) ?_
      refine g_icmp_ne (pc := 19) (tgt := 28) (x := r1) (y := (-1)) hf C dL_free_19 (by decide) (fun hf => ?_) (fun hf => ?_)
      · refine g_iconst (pc := 28) (v := 0) C dL_free_28 (by decide) ?_
        refine g_ior (pc := 29) (x := l2) (y := 0) C dL_free_29 ?_
        refine g_istore_n (pc := 30) (lv' := [(2, .int (l2 ||| 0)), (0, .ref qn), (1, .ref qp), (3, .int l3)]) C dL_free_30 (by decide) rfl ?_
        refine g_iinc (pc := 31) (x := l3) (v := (l3 + 1)) (lv' := [(3, .int (l3 + 1)), (2, .int (l2 ||| 0)), (0, .ref qn), (1, .ref qp)]) C dL_free_31 rfl rfl (by decide) rfl ?_
        refine g_goto (pc := 34) (tgt := 4) C dL_free_34 (by decide) ?_
        refine g_lv [2, 3, 1, 0] (lv' := [(0, .ref qn), (1, .ref qp), (2, .int (l2 ||| 0)), (3, .int (l3 + 1))]) rfl ?_
        exact ih (l2 ||| 0) (l3 + 1) u hf hk0
      · refine g_iconst (pc := 22) (v := 1) C dL_free_22 (by decide) ?_
        refine g_iload_n (pc := 23) (x := l3) C dL_free_23 rfl ?_
        refine g_ishl (pc := 24) (x := (1 : Int32)) (y := l3) C dL_free_24 ?_
        refine g_goto (pc := 25) (tgt := 29) C dL_free_25 (by decide) ?_
        refine g_ior (pc := 29) (x := l2) (y := ((1 : Int32) <<< (l3 &&& 31))) C dL_free_29 ?_
        refine g_istore_n (pc := 30) (lv' := [(2, .int (l2 ||| ((1 : Int32) <<< (l3 &&& 31)))), (0, .ref qn), (1, .ref qp), (3, .int l3)]) C dL_free_30 (by decide) rfl ?_
        refine g_iinc (pc := 31) (x := l3) (v := (l3 + 1)) (lv' := [(3, .int (l3 + 1)), (2, .int (l2 ||| ((1 : Int32) <<< (l3 &&& 31)))), (0, .ref qn), (1, .ref qp)]) C dL_free_31 rfl rfl (by decide) rfl ?_
        refine g_goto (pc := 34) (tgt := 4) C dL_free_34 (by decide) ?_
        refine g_lv [2, 3, 1, 0] (lv' := [(0, .ref qn), (1, .ref qp), (2, .int (l2 ||| ((1 : Int32) <<< (l3 &&& 31)))), (3, .int (l3 + 1))]) rfl ?_
        exact ih (l2 ||| ((1 : Int32) <<< (l3 &&& 31))) (l3 + 1) u hf hk0
def fL_free (N : Nat) (gn : (Nat → Int32)) (gp : (Nat → Int32)) : Option (Int32) := ((lL_free_4 N gn gp N 0 0).bind fun r1 => some r1)
set_option maxRecDepth 100000 in
set_option maxHeartbeats 4000000 in
theorem wkL_free {k : Kt} (C : gC k cL_free 4 RL wsL_free rmL_free "free") (N : Nat) (qn : Nat) (qp : Nat) (gn : (Nat → Int32)) (gp : (Nat → Int32)) (r : Int32) (hf : fL_free N gn gp = some r) (E : gE k (wA9 (kD k) qn gn ++ (wA21 (kD k) qp gp)) (fun rv w => rv = some (.int r) ∧ w = (wA9 (kD k) qn gn ++ (wA21 (kD k) qp gp))) (fun _ _ => False) 0 0 (some .int) []) : gG k (wA9 (kD k) qn gn ++ (wA21 (kD k) qp gp)) [(0, .ref qn), (1, .ref qp)] 0 0 0 [] := by
  unfold fL_free at hf
  refine g_iconst (pc := 0) (v := 0) C dL_free_0 (by decide) ?_
  refine g_istore_n (pc := 1) (lv' := [(2, .int 0), (0, .ref qn), (1, .ref qp)]) C dL_free_1 (by decide) rfl ?_
  refine g_iconst (pc := 2) (v := 0) C dL_free_2 (by decide) ?_
  refine g_istore_n (pc := 3) (lv' := [(3, .int 0), (2, .int 0), (0, .ref qn), (1, .ref qp)]) C dL_free_3 (by decide) rfl ?_
  obtain ⟨r1, h1, hf⟩ := bd_e hf
  refine g_lv [2, 3, 1, 0] (lv' := [(0, .ref qn), (1, .ref qp), (2, .int 0), (3, .int 0)]) rfl ?_
  refine wlL_free_4 C N qn qp gn gp N 0 0 r1 h1 ?_
  refine g_iload_n (pc := 37) (x := r1) C dL_free_37 rfl ?_
  obtain rfl := Option.some.inj hf
  exact g_iret (v := r1) C E dL_free_38 (Nat.le_of_ble_eq_true rfl) (Nat.le_of_ble_eq_true rfl) ⟨rfl, rfl⟩
set_option maxRecDepth 100000 in
set_option maxHeartbeats 4000000 in
theorem cL_free_ (l : Launch) (htr : l.stackTraces = false) (D : va_G) (N : Nat) (qn : Nat) (qp : Nat) (gn : (Nat → Int32)) (gp : (Nat → Int32)) (r : Int32) (hf : fL_free N gn gp = some r) : Tc l D yL_free wsL_free rmL_free [.ref qn, .ref qp] (wA9 D qn gn ++ (wA21 D qp gp)) (fun rv w => rv = some (.int r) ∧ w = (wA9 D qn gn ++ (wA21 D qp gp))) (fun _ _ => False) 0 0 := Tc_of htr (by decide +kernel) rfl (Nat.le_of_ble_eq_true rfl) (fun k C E hl hD => by subst hD; exact wkL_free C N qn qp gn gp r hf E)
abbrev rmL_fewest : Room := { frames := 1, cells := 0, slots := 0, locals := 23 }
theorem hsL_fewest : yL_fewest.cls ≠ "java/lang/invoke/MethodHandle" ∧ yL_fewest.cls ≠ "java/lang/invoke/VarHandle" ∧ (parseMethodDescriptor yL_fewest.desc).map (fun d => d.parameters.length) = some 3 := by decide +kernel
def lL_fewest_5 (N : Nat) (gl : (Nat → Int32)) (l1 : Int32) (l2 : Int32) : Nat → Int32 → Int32 → Option ((Int32))
  | 0, _, _ => none
  | n + 1, l3, l4 => (if (1024 : Int32) ≤ l4 then some l3 else (((if (l4 &&& l1) = l4 then ((fL_ones N l4).bind fun r2 => (if (7 : Int32) ≤ r2 then some 0 else ((fL_sum N gl l4).bind fun r3 => (if r3 = l2 then some 1 else some 0)))) else some 0) : Option (Int32)).bind fun r1 => (if r1 = (0 : Int32) then (lL_fewest_5 N gl l1 l2 n l3 (l4 + 1)) else (if l3 = (0 : Int32) then (lL_fewest_5 N gl l1 l2 n l4 (l4 + 1)) else ((fL_ones N l4).bind fun r4 => ((fL_ones N l3).bind fun r5 => (if r5 ≤ r4 then (lL_fewest_5 N gl l1 l2 n l3 (l4 + 1)) else (lL_fewest_5 N gl l1 l2 n l4 (l4 + 1)))))))))
set_option maxRecDepth 100000 in
set_option maxHeartbeats 4000000 in
theorem wlL_fewest_5 {k : Kt} (C : gC k cL_fewest 6 RL wsL_fewest rmL_fewest "fewest") (N : Nat) (ql : Nat) (gl : (Nat → Int32)) (l1 : Int32) (l2 : Int32) : ∀ (n : Nat) (l3 : Int32) (l4 : Int32) (u : (Int32)) (hf : lL_fewest_5 N gl l1 l2 n l3 l4 = some u) (hk0 : gG k (wA10 (kD k) ql gl) [(3, .int u)] 0 0 83 []), gG k (wA10 (kD k) ql gl) [(0, .ref ql), (1, .int l1), (2, .int l2), (3, .int l3), (4, .int l4)] 0 0 5 [] := by
  intro n
  induction n with
  | zero => intro l3 l4 u hf hk0; rw [lL_fewest_5] at hf; cases hf
  | succ n ih =>
    intro l3 l4 u hf hk0
    rw [lL_fewest_5] at hf
    refine g_iload (pc := 5) (x := l4) C dL_fewest_5 rfl ?_
    refine g_sipush (pc := 7) (v := 1024) C dL_fewest_7 (by decide) ?_
    refine g_icmp_ge (pc := 10) (tgt := 83) (x := l4) (y := 1024) hf C dL_fewest_10 (by decide) (fun hf => ?_) (fun hf => ?_)
    · obtain rfl := Option.some.inj hf
      refine g_lv [3] (lv' := [(3, .int l3)]) rfl ?_
      exact hk0
    · refine g_iload (pc := 13) (x := l4) C dL_fewest_13 rfl ?_
      refine g_iload_n (pc := 15) (x := l1) C dL_fewest_15 rfl ?_
      refine g_iand (pc := 16) (x := l4) (y := l1) C dL_fewest_16 ?_
      refine g_iload (pc := 17) (x := l4) C dL_fewest_17 rfl ?_
      refine g_join (Q := fun (u : Int32) => gG k (wA10 (kD k) ql gl) [(0, .ref ql), (1, .int l1), (2, .int l2), (3, .int l3), (4, .int l4)] 0 0 47 [.int u]) hf (fun r1 hf => ?_) (fun r1 hf K1 => ?_)
      · refine g_istore (pc := 47) (lv' := [(5, .int r1), (0, .ref ql), (1, .int l1), (2, .int l2), (3, .int l3), (4, .int l4)]) C dL_fewest_47 (by decide) rfl ?_
        refine g_iload (pc := 49) (x := r1) C dL_fewest_49 rfl ?_
        refine g_if_eq (pc := 51) (tgt := 75) (x := r1) hf C dL_fewest_51 (by decide) (fun hf => ?_) (fun hf => ?_)
        · refine g_iload_n (pc := 75) (x := l3) C dL_fewest_75 rfl ?_
          refine g_istore_n (pc := 76) (lv' := [(3, .int l3), (5, .int r1), (0, .ref ql), (1, .int l1), (2, .int l2), (4, .int l4)]) C dL_fewest_76 (by decide) rfl ?_
          refine g_iinc (pc := 77) (x := l4) (v := (l4 + 1)) (lv' := [(4, .int (l4 + 1)), (3, .int l3), (5, .int r1), (0, .ref ql), (1, .int l1), (2, .int l2)]) C dL_fewest_77 rfl rfl (by decide) rfl ?_
          refine g_goto (pc := 80) (tgt := 5) C dL_fewest_80 (by decide) ?_
          refine g_lv [3, 4, 5, 1, 0] (lv' := [(0, .ref ql), (1, .int l1), (2, .int l2), (3, .int l3), (4, .int (l4 + 1))]) rfl ?_
          exact ih l3 (l4 + 1) u hf hk0
        · refine g_iload_n (pc := 54) (x := l3) C dL_fewest_54 rfl ?_
          refine g_if_eq (pc := 55) (tgt := 70) (x := l3) hf C dL_fewest_55 (by decide) (fun hf => ?_) (fun hf => ?_)
          · refine g_iload (pc := 70) (x := l4) C dL_fewest_70 rfl ?_
            refine g_goto (pc := 72) (tgt := 76) C dL_fewest_72 (by decide) ?_
            refine g_istore_n (pc := 76) (lv' := [(3, .int l4), (5, .int r1), (0, .ref ql), (1, .int l1), (2, .int l2), (4, .int l4)]) C dL_fewest_76 (by decide) rfl ?_
            refine g_iinc (pc := 77) (x := l4) (v := (l4 + 1)) (lv' := [(4, .int (l4 + 1)), (3, .int l4), (5, .int r1), (0, .ref ql), (1, .int l1), (2, .int l2)]) C dL_fewest_77 rfl rfl (by decide) rfl ?_
            refine g_goto (pc := 80) (tgt := 5) C dL_fewest_80 (by decide) ?_
            refine g_lv [3, 4, 5, 1, 0] (lv' := [(0, .ref ql), (1, .int l1), (2, .int l2), (3, .int l4), (4, .int (l4 + 1))]) rfl ?_
            exact ih l4 (l4 + 1) u hf hk0
          · refine g_iload (pc := 58) (x := l4) C dL_fewest_58 rfl ?_
            refine g_callR (pc' := 63) (cs' := 0) (sl' := 0) hf C (fun u => some (.int u)) (fun u hu => gr_S (rest := []) C (cL_ones_ (kL k) C.tr (kD k) N l4 u hu) (fun ht => va_cwS 1 ht gL_fewest_L_ones rfl rfl rfl hsL_ones ⟨(Nat.le_of_ble_eq_true rfl), (Nat.le_of_ble_eq_true rfl)⟩) [] rfl (by decide) rfl rfl (Nat.le_of_ble_eq_true rfl) dL_fewest_60 ⟨(Nat.le_of_ble_eq_true rfl), (Nat.le_of_ble_eq_true rfl)⟩) [] rfl rfl rfl rfl (fun u => [.int u]) (fun u => rfl) (fun r4 hf => ?_)
            refine g_iload_n (pc := 63) (x := l3) C dL_fewest_63 rfl ?_
            refine g_callR (pc' := 67) (cs' := 0) (sl' := 0) hf C (fun u => some (.int u)) (fun u hu => gr_S (rest := [.int r4]) C (cL_ones_ (kL k) C.tr (kD k) N l3 u hu) (fun ht => va_cwS 1 ht gL_fewest_L_ones rfl rfl rfl hsL_ones ⟨(Nat.le_of_ble_eq_true rfl), (Nat.le_of_ble_eq_true rfl)⟩) [] rfl (by decide) rfl rfl (Nat.le_of_ble_eq_true rfl) dL_fewest_64 ⟨(Nat.le_of_ble_eq_true rfl), (Nat.le_of_ble_eq_true rfl)⟩) [] rfl rfl rfl rfl (fun u => [.int u, .int r4]) (fun u => rfl) (fun r5 hf => ?_)
            refine g_icmp_ge (pc := 67) (tgt := 75) (x := r4) (y := r5) hf C dL_fewest_67 (by decide) (fun hf => ?_) (fun hf => ?_)
            · refine g_iload_n (pc := 75) (x := l3) C dL_fewest_75 rfl ?_
              refine g_istore_n (pc := 76) (lv' := [(3, .int l3), (5, .int r1), (0, .ref ql), (1, .int l1), (2, .int l2), (4, .int l4)]) C dL_fewest_76 (by decide) rfl ?_
              refine g_iinc (pc := 77) (x := l4) (v := (l4 + 1)) (lv' := [(4, .int (l4 + 1)), (3, .int l3), (5, .int r1), (0, .ref ql), (1, .int l1), (2, .int l2)]) C dL_fewest_77 rfl rfl (by decide) rfl ?_
              refine g_goto (pc := 80) (tgt := 5) C dL_fewest_80 (by decide) ?_
              refine g_lv [3, 4, 5, 1, 0] (lv' := [(0, .ref ql), (1, .int l1), (2, .int l2), (3, .int l3), (4, .int (l4 + 1))]) rfl ?_
              exact ih l3 (l4 + 1) u hf hk0
            · refine g_iload (pc := 70) (x := l4) C dL_fewest_70 rfl ?_
              refine g_goto (pc := 72) (tgt := 76) C dL_fewest_72 (by decide) ?_
              refine g_istore_n (pc := 76) (lv' := [(3, .int l4), (5, .int r1), (0, .ref ql), (1, .int l1), (2, .int l2), (4, .int l4)]) C dL_fewest_76 (by decide) rfl ?_
              refine g_iinc (pc := 77) (x := l4) (v := (l4 + 1)) (lv' := [(4, .int (l4 + 1)), (3, .int l4), (5, .int r1), (0, .ref ql), (1, .int l1), (2, .int l2)]) C dL_fewest_77 rfl rfl (by decide) rfl ?_
              refine g_goto (pc := 80) (tgt := 5) C dL_fewest_80 (by decide) ?_
              refine g_lv [3, 4, 5, 1, 0] (lv' := [(0, .ref ql), (1, .int l1), (2, .int l2), (3, .int l4), (4, .int (l4 + 1))]) rfl ?_
              exact ih l4 (l4 + 1) u hf hk0
      · refine g_icmp_ne (pc := 19) (tgt := 46) (x := (l4 &&& l1)) (y := l4) hf C dL_fewest_19 (by decide) (fun hf => ?_) (fun hf => ?_)
        · refine g_iconst (pc := 46) (v := 0) C dL_fewest_46 (by decide) ?_
          obtain rfl := Option.some.inj hf
          exact K1
        · refine g_iload (pc := 22) (x := l4) C dL_fewest_22 rfl ?_
          refine g_callR (pc' := 27) (cs' := 0) (sl' := 0) hf C (fun u => some (.int u)) (fun u hu => gr_S (rest := []) C (cL_ones_ (kL k) C.tr (kD k) N l4 u hu) (fun ht => va_cwS 1 ht gL_fewest_L_ones rfl rfl rfl hsL_ones ⟨(Nat.le_of_ble_eq_true rfl), (Nat.le_of_ble_eq_true rfl)⟩) [] rfl (by decide) rfl rfl (Nat.le_of_ble_eq_true rfl) dL_fewest_24 ⟨(Nat.le_of_ble_eq_true rfl), (Nat.le_of_ble_eq_true rfl)⟩) [] rfl rfl rfl rfl (fun u => [.int u]) (fun u => rfl) (fun r2 hf => ?_)
          refine g_bipush (pc := 27) (v := 7) C dL_fewest_27 (by decide) ?_
          refine g_icmp_ge (pc := 29) (tgt := 46) (x := r2) (y := 7) hf C dL_fewest_29 (by decide) (fun hf => ?_) (fun hf => ?_)
          · refine g_iconst (pc := 46) (v := 0) C dL_fewest_46 (by decide) ?_
            obtain rfl := Option.some.inj hf
            exact K1
          · refine g_aload_n (pc := 32) (x := ql) C dL_fewest_32 rfl ?_
            refine g_iload (pc := 33) (x := l4) C dL_fewest_33 rfl ?_
            refine g_callWA (wr := ([] : va_W)) (pc' := 38) (cs' := 0) (sl' := 0) hf C (fun u => some (.int u)) (fun u => (wA10 (kD k) ql gl)) ((List.Perm.refl _).trans (List.Perm.of_eq (List.append_nil _).symm)) (fun u hu => gr_S (rest := []) C (cL_sum_ (kL k) C.tr (kD k) N ql gl l4 u hu) (fun ht => va_cwS 2 ht gL_fewest_L_sum rfl rfl rfl hsL_sum ⟨(Nat.le_of_ble_eq_true rfl), (Nat.le_of_ble_eq_true rfl)⟩) _ (rg_map _ _) (rg_nd _) rfl rfl (Nat.le_of_ble_eq_true rfl) dL_fewest_35 ⟨(Nat.le_of_ble_eq_true rfl), (Nat.le_of_ble_eq_true rfl)⟩) (ws' := fun u => (wA10 (kD k) ql gl)) (fun u => ((List.Perm.of_eq (List.append_nil _)).trans (List.Perm.refl _))) rfl rfl rfl (fun u => [.int u]) (fun u => rfl) (fun r3 hf => ?_)
            refine g_iload_n (pc := 38) (x := l2) C dL_fewest_38 rfl ?_
            refine g_icmp_ne (pc := 39) (tgt := 46) (x := r3) (y := l2) hf C dL_fewest_39 (by decide) (fun hf => ?_) (fun hf => ?_)
            · refine g_iconst (pc := 46) (v := 0) C dL_fewest_46 (by decide) ?_
              obtain rfl := Option.some.inj hf
              exact K1
            · refine g_iconst (pc := 42) (v := 1) C dL_fewest_42 (by decide) ?_
              refine g_goto (pc := 43) (tgt := 47) C dL_fewest_43 (by decide) ?_
              obtain rfl := Option.some.inj hf
              exact K1
def fL_fewest (N : Nat) (gl : (Nat → Int32)) (p1 : Int32) (p2 : Int32) : Option (Int32) := ((lL_fewest_5 N gl p1 p2 N 0 1).bind fun r1 => some r1)
set_option maxRecDepth 100000 in
set_option maxHeartbeats 4000000 in
theorem wkL_fewest {k : Kt} (C : gC k cL_fewest 6 RL wsL_fewest rmL_fewest "fewest") (N : Nat) (ql : Nat) (gl : (Nat → Int32)) (p1 : Int32) (p2 : Int32) (r : Int32) (hf : fL_fewest N gl p1 p2 = some r) (E : gE k (wA10 (kD k) ql gl) (fun rv w => rv = some (.int r) ∧ w = (wA10 (kD k) ql gl)) (fun _ _ => False) 0 0 (some .int) []) : gG k (wA10 (kD k) ql gl) [(0, .ref ql), (1, .int p1), (2, .int p2)] 0 0 0 [] := by
  unfold fL_fewest at hf
  refine g_iconst (pc := 0) (v := 0) C dL_fewest_0 (by decide) ?_
  refine g_istore_n (pc := 1) (lv' := [(3, .int 0), (0, .ref ql), (1, .int p1), (2, .int p2)]) C dL_fewest_1 (by decide) rfl ?_
  refine g_iconst (pc := 2) (v := 1) C dL_fewest_2 (by decide) ?_
  refine g_istore (pc := 3) (lv' := [(4, .int 1), (3, .int 0), (0, .ref ql), (1, .int p1), (2, .int p2)]) C dL_fewest_3 (by decide) rfl ?_
  obtain ⟨r1, h1, hf⟩ := bd_e hf
  refine g_lv [2, 3, 4, 1, 0] (lv' := [(0, .ref ql), (1, .int p1), (2, .int p2), (3, .int 0), (4, .int 1)]) rfl ?_
  refine wlL_fewest_5 C N ql gl p1 p2 N 0 1 r1 h1 ?_
  refine g_iload_n (pc := 83) (x := r1) C dL_fewest_83 rfl ?_
  obtain rfl := Option.some.inj hf
  exact g_iret (v := r1) C E dL_fewest_84 (Nat.le_of_ble_eq_true rfl) (Nat.le_of_ble_eq_true rfl) ⟨rfl, rfl⟩
set_option maxRecDepth 100000 in
set_option maxHeartbeats 4000000 in
theorem cL_fewest_ (l : Launch) (htr : l.stackTraces = false) (D : va_G) (N : Nat) (ql : Nat) (gl : (Nat → Int32)) (p1 : Int32) (p2 : Int32) (r : Int32) (hf : fL_fewest N gl p1 p2 = some r) : Tc l D yL_fewest wsL_fewest rmL_fewest [.ref ql, .int p1, .int p2] (wA10 D ql gl) (fun rv w => rv = some (.int r) ∧ w = (wA10 D ql gl)) (fun _ _ => False) 0 0 := Tc_of htr (by decide +kernel) rfl (Nat.le_of_ble_eq_true rfl) (fun k C E hl hD => by subst hD; exact wkL_fewest C N ql gl p1 p2 r hf E)
abbrev rmL_nearest : Room := { frames := 1, cells := 0, slots := 0, locals := 23 }
theorem hsL_nearest : yL_nearest.cls ≠ "java/lang/invoke/MethodHandle" ∧ yL_nearest.cls ≠ "java/lang/invoke/VarHandle" ∧ (parseMethodDescriptor yL_nearest.desc).map (fun d => d.parameters.length) = some 3 := by decide +kernel
def lL_nearest_5 (N : Nat) (gl : (Nat → Int32)) (l1 : Int32) (l2 : Int32) : Nat → Int32 → Int32 → Option ((Int32))
  | 0, _, _ => none
  | n + 1, l3, l4 => (if (1024 : Int32) ≤ l4 then some l3 else (if (l4 &&& l1) = l4 then ((fL_ones N l4).bind fun r1 => (if (3 : Int32) ≤ r1 then (lL_nearest_5 N gl l1 l2 n l3 (l4 + 1)) else ((fL_sum N gl l4).bind fun r2 => (if l3 = ((-1) : Int32) then (lL_nearest_5 N gl l1 l2 n r2 (l4 + 1)) else ((fL_size N (r2 - l2)).bind fun r3 => ((fL_size N (l3 - l2)).bind fun r4 => (if r3 < r4 then (lL_nearest_5 N gl l1 l2 n r2 (l4 + 1)) else ((fL_size N (r2 - l2)).bind fun r5 => ((fL_size N (l3 - l2)).bind fun r6 => (if r5 = r6 then (if l3 ≤ r2 then (lL_nearest_5 N gl l1 l2 n l3 (l4 + 1)) else (lL_nearest_5 N gl l1 l2 n r2 (l4 + 1))) else (lL_nearest_5 N gl l1 l2 n l3 (l4 + 1)))))))))))) else (lL_nearest_5 N gl l1 l2 n l3 (l4 + 1))))
set_option maxRecDepth 100000 in
set_option maxHeartbeats 4000000 in
theorem wlL_nearest_5 {k : Kt} (C : gC k cL_nearest 6 RL wsL_nearest rmL_nearest "nearest") (N : Nat) (ql : Nat) (gl : (Nat → Int32)) (l1 : Int32) (l2 : Int32) : ∀ (n : Nat) (l3 : Int32) (l4 : Int32) (u : (Int32)) (hf : lL_nearest_5 N gl l1 l2 n l3 l4 = some u) (hk0 : gG k (wA10 (kD k) ql gl) [(3, .int u)] 0 0 95 []), gG k (wA10 (kD k) ql gl) [(0, .ref ql), (1, .int l1), (2, .int l2), (3, .int l3), (4, .int l4)] 0 0 5 [] := by
  intro n
  induction n with
  | zero => intro l3 l4 u hf hk0; rw [lL_nearest_5] at hf; cases hf
  | succ n ih =>
    intro l3 l4 u hf hk0
    rw [lL_nearest_5] at hf
    refine g_iload (pc := 5) (x := l4) C dL_nearest_5 rfl ?_
    refine g_sipush (pc := 7) (v := 1024) C dL_nearest_7 (by decide) ?_
    refine g_icmp_ge (pc := 10) (tgt := 95) (x := l4) (y := 1024) hf C dL_nearest_10 (by decide) (fun hf => ?_) (fun hf => ?_)
    · obtain rfl := Option.some.inj hf
      refine g_lv [3] (lv' := [(3, .int l3)]) rfl ?_
      exact hk0
    · refine g_iload (pc := 13) (x := l4) C dL_nearest_13 rfl ?_
      refine g_iload_n (pc := 15) (x := l1) C dL_nearest_15 rfl ?_
      refine g_iand (pc := 16) (x := l4) (y := l1) C dL_nearest_16 ?_
      refine g_iload (pc := 17) (x := l4) C dL_nearest_17 rfl ?_
      refine g_icmp_ne (pc := 19) (tgt := 89) (x := (l4 &&& l1)) (y := l4) hf C dL_nearest_19 (by decide) (fun hf => ?_) (fun hf => ?_)
      · refine g_iinc (pc := 89) (x := l4) (v := (l4 + 1)) (lv' := [(4, .int (l4 + 1)), (0, .ref ql), (1, .int l1), (2, .int l2), (3, .int l3)]) C dL_nearest_89 rfl rfl (by decide) rfl ?_
        refine g_goto (pc := 92) (tgt := 5) C dL_nearest_92 (by decide) ?_
        refine g_lv [1, 2, 3, 4, 0] (lv' := [(0, .ref ql), (1, .int l1), (2, .int l2), (3, .int l3), (4, .int (l4 + 1))]) rfl ?_
        exact ih l3 (l4 + 1) u hf hk0
      · refine g_iload (pc := 22) (x := l4) C dL_nearest_22 rfl ?_
        refine g_callR (pc' := 27) (cs' := 0) (sl' := 0) hf C (fun u => some (.int u)) (fun u hu => gr_S (rest := []) C (cL_ones_ (kL k) C.tr (kD k) N l4 u hu) (fun ht => va_cwS 1 ht gL_nearest_L_ones rfl rfl rfl hsL_ones ⟨(Nat.le_of_ble_eq_true rfl), (Nat.le_of_ble_eq_true rfl)⟩) [] rfl (by decide) rfl rfl (Nat.le_of_ble_eq_true rfl) dL_nearest_24 ⟨(Nat.le_of_ble_eq_true rfl), (Nat.le_of_ble_eq_true rfl)⟩) [] rfl rfl rfl rfl (fun u => [.int u]) (fun u => rfl) (fun r1 hf => ?_)
        refine g_iconst (pc := 27) (v := 3) C dL_nearest_27 (by decide) ?_
        refine g_icmp_ge (pc := 28) (tgt := 89) (x := r1) (y := 3) hf C dL_nearest_28 (by decide) (fun hf => ?_) (fun hf => ?_)
        · refine g_iinc (pc := 89) (x := l4) (v := (l4 + 1)) (lv' := [(4, .int (l4 + 1)), (0, .ref ql), (1, .int l1), (2, .int l2), (3, .int l3)]) C dL_nearest_89 rfl rfl (by decide) rfl ?_
          refine g_goto (pc := 92) (tgt := 5) C dL_nearest_92 (by decide) ?_
          refine g_lv [1, 2, 3, 4, 0] (lv' := [(0, .ref ql), (1, .int l1), (2, .int l2), (3, .int l3), (4, .int (l4 + 1))]) rfl ?_
          exact ih l3 (l4 + 1) u hf hk0
        · refine g_aload_n (pc := 31) (x := ql) C dL_nearest_31 rfl ?_
          refine g_iload (pc := 32) (x := l4) C dL_nearest_32 rfl ?_
          refine g_callWA (wr := ([] : va_W)) (pc' := 37) (cs' := 0) (sl' := 0) hf C (fun u => some (.int u)) (fun u => (wA10 (kD k) ql gl)) ((List.Perm.refl _).trans (List.Perm.of_eq (List.append_nil _).symm)) (fun u hu => gr_S (rest := []) C (cL_sum_ (kL k) C.tr (kD k) N ql gl l4 u hu) (fun ht => va_cwS 2 ht gL_nearest_L_sum rfl rfl rfl hsL_sum ⟨(Nat.le_of_ble_eq_true rfl), (Nat.le_of_ble_eq_true rfl)⟩) _ (rg_map _ _) (rg_nd _) rfl rfl (Nat.le_of_ble_eq_true rfl) dL_nearest_34 ⟨(Nat.le_of_ble_eq_true rfl), (Nat.le_of_ble_eq_true rfl)⟩) (ws' := fun u => (wA10 (kD k) ql gl)) (fun u => ((List.Perm.of_eq (List.append_nil _)).trans (List.Perm.refl _))) rfl rfl rfl (fun u => [.int u]) (fun u => rfl) (fun r2 hf => ?_)
          refine g_istore (pc := 37) (lv' := [(5, .int r2), (0, .ref ql), (1, .int l1), (2, .int l2), (3, .int l3), (4, .int l4)]) C dL_nearest_37 (by decide) rfl ?_
          refine g_iload_n (pc := 39) (x := l3) C dL_nearest_39 rfl ?_
          refine g_iconst (pc := 40) (v := (-1)) C dL_nearest_40 (by decide) ?_
          refine g_icmp_eq (pc := 41) (tgt := 82) (x := l3) (y := (-1)) hf C dL_nearest_41 (by decide) (fun hf => ?_) (fun hf => ?_)
          · refine g_iload (pc := 82) (x := r2) C dL_nearest_82 rfl ?_
            refine g_goto (pc := 84) (tgt := 88) C dL_nearest_84 (by decide) ?_
            refine g_istore_n (pc := 88) (lv' := [(3, .int r2), (5, .int r2), (0, .ref ql), (1, .int l1), (2, .int l2), (4, .int l4)]) C dL_nearest_88 (by decide) rfl ?_
            refine g_iinc (pc := 89) (x := l4) (v := (l4 + 1)) (lv' := [(4, .int (l4 + 1)), (3, .int r2), (5, .int r2), (0, .ref ql), (1, .int l1), (2, .int l2)]) C dL_nearest_89 rfl rfl (by decide) rfl ?_
            refine g_goto (pc := 92) (tgt := 5) C dL_nearest_92 (by decide) ?_
            refine g_lv [3, 4, 5, 1, 0] (lv' := [(0, .ref ql), (1, .int l1), (2, .int l2), (3, .int r2), (4, .int (l4 + 1))]) rfl ?_
            exact ih r2 (l4 + 1) u hf hk0
          · refine g_iload (pc := 44) (x := r2) C dL_nearest_44 rfl ?_
            refine g_iload_n (pc := 46) (x := l2) C dL_nearest_46 rfl ?_
            refine g_isub (pc := 47) (x := r2) (y := l2) C dL_nearest_47 ?_
            refine g_callR (pc' := 51) (cs' := 0) (sl' := 0) hf C (fun u => some (.int u)) (fun u hu => gr_S (rest := []) C (cL_size_ (kL k) C.tr (kD k) N (r2 - l2) u hu) (fun ht => va_cwS 1 ht gL_nearest_L_size rfl rfl rfl hsL_size ⟨(Nat.le_of_ble_eq_true rfl), (Nat.le_of_ble_eq_true rfl)⟩) [] rfl (by decide) rfl rfl (Nat.le_of_ble_eq_true rfl) dL_nearest_48 ⟨(Nat.le_of_ble_eq_true rfl), (Nat.le_of_ble_eq_true rfl)⟩) [] rfl rfl rfl rfl (fun u => [.int u]) (fun u => rfl) (fun r3 hf => ?_)
            refine g_iload_n (pc := 51) (x := l3) C dL_nearest_51 rfl ?_
            refine g_iload_n (pc := 52) (x := l2) C dL_nearest_52 rfl ?_
            refine g_isub (pc := 53) (x := l3) (y := l2) C dL_nearest_53 ?_
            refine g_callR (pc' := 57) (cs' := 0) (sl' := 0) hf C (fun u => some (.int u)) (fun u hu => gr_S (rest := [.int r3]) C (cL_size_ (kL k) C.tr (kD k) N (l3 - l2) u hu) (fun ht => va_cwS 1 ht gL_nearest_L_size rfl rfl rfl hsL_size ⟨(Nat.le_of_ble_eq_true rfl), (Nat.le_of_ble_eq_true rfl)⟩) [] rfl (by decide) rfl rfl (Nat.le_of_ble_eq_true rfl) dL_nearest_54 ⟨(Nat.le_of_ble_eq_true rfl), (Nat.le_of_ble_eq_true rfl)⟩) [] rfl rfl rfl rfl (fun u => [.int u, .int r3]) (fun u => rfl) (fun r4 hf => ?_)
            refine g_icmp_lt (pc := 57) (tgt := 82) (x := r3) (y := r4) hf C dL_nearest_57 (by decide) (fun hf => ?_) (fun hf => ?_)
            · refine g_iload (pc := 82) (x := r2) C dL_nearest_82 rfl ?_
              refine g_goto (pc := 84) (tgt := 88) C dL_nearest_84 (by decide) ?_
              refine g_istore_n (pc := 88) (lv' := [(3, .int r2), (5, .int r2), (0, .ref ql), (1, .int l1), (2, .int l2), (4, .int l4)]) C dL_nearest_88 (by decide) rfl ?_
              refine g_iinc (pc := 89) (x := l4) (v := (l4 + 1)) (lv' := [(4, .int (l4 + 1)), (3, .int r2), (5, .int r2), (0, .ref ql), (1, .int l1), (2, .int l2)]) C dL_nearest_89 rfl rfl (by decide) rfl ?_
              refine g_goto (pc := 92) (tgt := 5) C dL_nearest_92 (by decide) ?_
              refine g_lv [3, 4, 5, 1, 0] (lv' := [(0, .ref ql), (1, .int l1), (2, .int l2), (3, .int r2), (4, .int (l4 + 1))]) rfl ?_
              exact ih r2 (l4 + 1) u hf hk0
            · refine g_iload (pc := 60) (x := r2) C dL_nearest_60 rfl ?_
              refine g_iload_n (pc := 62) (x := l2) C dL_nearest_62 rfl ?_
              refine g_isub (pc := 63) (x := r2) (y := l2) C dL_nearest_63 ?_
              refine g_callR (pc' := 67) (cs' := 0) (sl' := 0) hf C (fun u => some (.int u)) (fun u hu => gr_S (rest := []) C (cL_size_ (kL k) C.tr (kD k) N (r2 - l2) u hu) (fun ht => va_cwS 1 ht gL_nearest_L_size rfl rfl rfl hsL_size ⟨(Nat.le_of_ble_eq_true rfl), (Nat.le_of_ble_eq_true rfl)⟩) [] rfl (by decide) rfl rfl (Nat.le_of_ble_eq_true rfl) dL_nearest_64 ⟨(Nat.le_of_ble_eq_true rfl), (Nat.le_of_ble_eq_true rfl)⟩) [] rfl rfl rfl rfl (fun u => [.int u]) (fun u => rfl) (fun r5 hf => ?_)
              refine g_iload_n (pc := 67) (x := l3) C dL_nearest_67 rfl ?_
              refine g_iload_n (pc := 68) (x := l2) C dL_nearest_68 rfl ?_
              refine g_isub (pc := 69) (x := l3) (y := l2) C dL_nearest_69 ?_
              refine g_callR (pc' := 73) (cs' := 0) (sl' := 0) hf C (fun u => some (.int u)) (fun u hu => gr_S (rest := [.int r5]) C (cL_size_ (kL k) C.tr (kD k) N (l3 - l2) u hu) (fun ht => va_cwS 1 ht gL_nearest_L_size rfl rfl rfl hsL_size ⟨(Nat.le_of_ble_eq_true rfl), (Nat.le_of_ble_eq_true rfl)⟩) [] rfl (by decide) rfl rfl (Nat.le_of_ble_eq_true rfl) dL_nearest_70 ⟨(Nat.le_of_ble_eq_true rfl), (Nat.le_of_ble_eq_true rfl)⟩) [] rfl rfl rfl rfl (fun u => [.int u, .int r5]) (fun u => rfl) (fun r6 hf => ?_)
              refine g_icmp_ne (pc := 73) (tgt := 87) (x := r5) (y := r6) hf C dL_nearest_73 (by decide) (fun hf => ?_) (fun hf => ?_)
              · refine g_iload_n (pc := 87) (x := l3) C dL_nearest_87 rfl ?_
                refine g_istore_n (pc := 88) (lv' := [(3, .int l3), (5, .int r2), (0, .ref ql), (1, .int l1), (2, .int l2), (4, .int l4)]) C dL_nearest_88 (by decide) rfl ?_
                refine g_iinc (pc := 89) (x := l4) (v := (l4 + 1)) (lv' := [(4, .int (l4 + 1)), (3, .int l3), (5, .int r2), (0, .ref ql), (1, .int l1), (2, .int l2)]) C dL_nearest_89 rfl rfl (by decide) rfl ?_
                refine g_goto (pc := 92) (tgt := 5) C dL_nearest_92 (by decide) ?_
                refine g_lv [3, 4, 5, 1, 0] (lv' := [(0, .ref ql), (1, .int l1), (2, .int l2), (3, .int l3), (4, .int (l4 + 1))]) rfl ?_
                exact ih l3 (l4 + 1) u hf hk0
              · refine g_iload (pc := 76) (x := r2) C dL_nearest_76 rfl ?_
                refine g_iload_n (pc := 78) (x := l3) C dL_nearest_78 rfl ?_
                refine g_icmp_ge (pc := 79) (tgt := 87) (x := r2) (y := l3) hf C dL_nearest_79 (by decide) (fun hf => ?_) (fun hf => ?_)
                · refine g_iload_n (pc := 87) (x := l3) C dL_nearest_87 rfl ?_
                  refine g_istore_n (pc := 88) (lv' := [(3, .int l3), (5, .int r2), (0, .ref ql), (1, .int l1), (2, .int l2), (4, .int l4)]) C dL_nearest_88 (by decide) rfl ?_
                  refine g_iinc (pc := 89) (x := l4) (v := (l4 + 1)) (lv' := [(4, .int (l4 + 1)), (3, .int l3), (5, .int r2), (0, .ref ql), (1, .int l1), (2, .int l2)]) C dL_nearest_89 rfl rfl (by decide) rfl ?_
                  refine g_goto (pc := 92) (tgt := 5) C dL_nearest_92 (by decide) ?_
                  refine g_lv [3, 4, 5, 1, 0] (lv' := [(0, .ref ql), (1, .int l1), (2, .int l2), (3, .int l3), (4, .int (l4 + 1))]) rfl ?_
                  exact ih l3 (l4 + 1) u hf hk0
                · refine g_iload (pc := 82) (x := r2) C dL_nearest_82 rfl ?_
                  refine g_goto (pc := 84) (tgt := 88) C dL_nearest_84 (by decide) ?_
                  refine g_istore_n (pc := 88) (lv' := [(3, .int r2), (5, .int r2), (0, .ref ql), (1, .int l1), (2, .int l2), (4, .int l4)]) C dL_nearest_88 (by decide) rfl ?_
                  refine g_iinc (pc := 89) (x := l4) (v := (l4 + 1)) (lv' := [(4, .int (l4 + 1)), (3, .int r2), (5, .int r2), (0, .ref ql), (1, .int l1), (2, .int l2)]) C dL_nearest_89 rfl rfl (by decide) rfl ?_
                  refine g_goto (pc := 92) (tgt := 5) C dL_nearest_92 (by decide) ?_
                  refine g_lv [3, 4, 5, 1, 0] (lv' := [(0, .ref ql), (1, .int l1), (2, .int l2), (3, .int r2), (4, .int (l4 + 1))]) rfl ?_
                  exact ih r2 (l4 + 1) u hf hk0
def fL_nearest (N : Nat) (gl : (Nat → Int32)) (p1 : Int32) (p2 : Int32) : Option (Int32) := ((lL_nearest_5 N gl p1 p2 N (-1) 1).bind fun r1 => some r1)
set_option maxRecDepth 100000 in
set_option maxHeartbeats 4000000 in
theorem wkL_nearest {k : Kt} (C : gC k cL_nearest 6 RL wsL_nearest rmL_nearest "nearest") (N : Nat) (ql : Nat) (gl : (Nat → Int32)) (p1 : Int32) (p2 : Int32) (r : Int32) (hf : fL_nearest N gl p1 p2 = some r) (E : gE k (wA10 (kD k) ql gl) (fun rv w => rv = some (.int r) ∧ w = (wA10 (kD k) ql gl)) (fun _ _ => False) 0 0 (some .int) []) : gG k (wA10 (kD k) ql gl) [(0, .ref ql), (1, .int p1), (2, .int p2)] 0 0 0 [] := by
  unfold fL_nearest at hf
  refine g_iconst (pc := 0) (v := (-1)) C dL_nearest_0 (by decide) ?_
  refine g_istore_n (pc := 1) (lv' := [(3, .int (-1)), (0, .ref ql), (1, .int p1), (2, .int p2)]) C dL_nearest_1 (by decide) rfl ?_
  refine g_iconst (pc := 2) (v := 1) C dL_nearest_2 (by decide) ?_
  refine g_istore (pc := 3) (lv' := [(4, .int 1), (3, .int (-1)), (0, .ref ql), (1, .int p1), (2, .int p2)]) C dL_nearest_3 (by decide) rfl ?_
  obtain ⟨r1, h1, hf⟩ := bd_e hf
  refine g_lv [2, 3, 4, 1, 0] (lv' := [(0, .ref ql), (1, .int p1), (2, .int p2), (3, .int (-1)), (4, .int 1)]) rfl ?_
  refine wlL_nearest_5 C N ql gl p1 p2 N (-1) 1 r1 h1 ?_
  refine g_iload_n (pc := 95) (x := r1) C dL_nearest_95 rfl ?_
  obtain rfl := Option.some.inj hf
  exact g_iret (v := r1) C E dL_nearest_96 (Nat.le_of_ble_eq_true rfl) (Nat.le_of_ble_eq_true rfl) ⟨rfl, rfl⟩
set_option maxRecDepth 100000 in
set_option maxHeartbeats 4000000 in
theorem cL_nearest_ (l : Launch) (htr : l.stackTraces = false) (D : va_G) (N : Nat) (ql : Nat) (gl : (Nat → Int32)) (p1 : Int32) (p2 : Int32) (r : Int32) (hf : fL_nearest N gl p1 p2 = some r) : Tc l D yL_nearest wsL_nearest rmL_nearest [.ref ql, .int p1, .int p2] (wA10 D ql gl) (fun rv w => rv = some (.int r) ∧ w = (wA10 D ql gl)) (fun _ _ => False) 0 0 := Tc_of htr (by decide +kernel) rfl (Nat.le_of_ble_eq_true rfl) (fun k C E hl hD => by subst hD; exact wkL_nearest C N ql gl p1 p2 r hf E)
abbrev rmL_key : Room := { frames := 1, cells := 0, slots := 0, locals := 20 }
theorem kcL_key_76 : Jvm.Cond.constant RL 76 1000000 ∈ wsL_key := by decide +kernel
theorem hsL_key : yL_key.cls ≠ "java/lang/invoke/MethodHandle" ∧ yL_key.cls ≠ "java/lang/invoke/VarHandle" ∧ (parseMethodDescriptor yL_key.desc).map (fun d => d.parameters.length) = some 6 := by decide +kernel
def fL_key (N : Nat) (gl : (Nat → Int32)) (ge : (Nat → Int32)) (gw : (Nat → Int32)) (gh : (Nat → Int32)) (p4 : Int32) (p5 : Int32) : Option (Int32) := (if p4 = (0 : Int32) then ck p5 10 (some (1000000 - (gl (Int32.toNatClampNeg p5)))) else (if p4 = (1 : Int32) then ck p5 10 (some (gh (Int32.toNatClampNeg p5))) else ck p5 10 (ck p5 10 (((fL_size N ((ge (Int32.toNatClampNeg p5)) - (gw (Int32.toNatClampNeg p5)))).bind fun r1 => some r1)))))
set_option maxRecDepth 100000 in
set_option maxHeartbeats 4000000 in
theorem wkL_key {k : Kt} (C : gC k cL_key 6 RL wsL_key rmL_key "key") (N : Nat) (ql : Nat) (qe : Nat) (qw : Nat) (qh : Nat) (gl : (Nat → Int32)) (ge : (Nat → Int32)) (gw : (Nat → Int32)) (gh : (Nat → Int32)) (p4 : Int32) (p5 : Int32) (r : Int32) (hf : fL_key N gl ge gw gh p4 p5 = some r) (E : gE k (wA10 (kD k) ql gl ++ (wA10 (kD k) qe ge ++ (wA10 (kD k) qw gw ++ (wA10 (kD k) qh gh)))) (fun rv w => rv = some (.int r) ∧ w = (wA10 (kD k) ql gl ++ (wA10 (kD k) qe ge ++ (wA10 (kD k) qw gw ++ (wA10 (kD k) qh gh))))) (fun _ _ => False) 0 0 (some .int) []) : gG k (wA10 (kD k) ql gl ++ (wA10 (kD k) qe ge ++ (wA10 (kD k) qw gw ++ (wA10 (kD k) qh gh)))) [(0, .ref ql), (1, .ref qe), (2, .ref qw), (3, .ref qh), (4, .int p4), (5, .int p5)] 0 0 0 [] := by
  unfold fL_key at hf
  refine g_iload (pc := 0) (x := p4) C dL_key_0 rfl ?_
  refine g_if_ne (pc := 2) (tgt := 15) (x := p4) hf C dL_key_2 (by decide) (fun hf => ?_) (fun hf => ?_)
  · refine g_iload (pc := 15) (x := p4) C dL_key_15 rfl ?_
    refine g_iconst (pc := 17) (v := 1) C dL_key_17 (by decide) ?_
    refine g_icmp_ne (pc := 18) (tgt := 28) (x := p4) (y := 1) hf C dL_key_18 (by decide) (fun hf => ?_) (fun hf => ?_)
    · refine g_aload_n (pc := 28) (x := qe) C dL_key_28 rfl ?_
      refine g_iload (pc := 29) (x := p5) C dL_key_29 rfl ?_
      refine g_iald (pc := 31) (i := p5) hf C 1 rfl dL_key_31 (fun hf => ?_)
      refine g_aload_n (pc := 32) (x := qw) C dL_key_32 rfl ?_
      refine g_iload (pc := 33) (x := p5) C dL_key_33 rfl ?_
      refine g_iald (pc := 35) (i := p5) hf C 2 rfl dL_key_35 (fun hf => ?_)
      refine g_isub (pc := 36) (x := (ge (Int32.toNatClampNeg p5))) (y := (gw (Int32.toNatClampNeg p5))) C dL_key_36 ?_
      refine g_callR (pc' := 40) (cs' := 0) (sl' := 0) hf C (fun u => some (.int u)) (fun u hu => gr_S (rest := []) C (cL_size_ (kL k) C.tr (kD k) N ((ge (Int32.toNatClampNeg p5)) - (gw (Int32.toNatClampNeg p5))) u hu) (fun ht => va_cwS 1 ht gL_key_L_size rfl rfl rfl hsL_size ⟨(Nat.le_of_ble_eq_true rfl), (Nat.le_of_ble_eq_true rfl)⟩) [] rfl (by decide) rfl rfl (Nat.le_of_ble_eq_true rfl) dL_key_37 ⟨(Nat.le_of_ble_eq_true rfl), (Nat.le_of_ble_eq_true rfl)⟩) [] rfl rfl rfl rfl (fun u => [.int u]) (fun u => rfl) (fun r1 hf => ?_)
      obtain rfl := Option.some.inj hf
      exact g_iret (v := r1) C E dL_key_40 (Nat.le_of_ble_eq_true rfl) (Nat.le_of_ble_eq_true rfl) ⟨rfl, rfl⟩
    · refine g_aload_n (pc := 21) (x := qh) C dL_key_21 rfl ?_
      refine g_iload (pc := 22) (x := p5) C dL_key_22 rfl ?_
      refine g_iald (pc := 24) (i := p5) hf C 3 rfl dL_key_24 (fun hf => ?_)
      refine g_goto (pc := 25) (tgt := 40) C dL_key_25 (by decide) ?_
      obtain rfl := Option.some.inj hf
      exact g_iret (v := (gh (Int32.toNatClampNeg p5))) C E dL_key_40 (Nat.le_of_ble_eq_true rfl) (Nat.le_of_ble_eq_true rfl) ⟨rfl, rfl⟩
  · refine g_ldc (pc := 5) (v := 1000000) C dL_key_5 kcL_key_76 ?_
    refine g_aload_n (pc := 7) (x := ql) C dL_key_7 rfl ?_
    refine g_iload (pc := 8) (x := p5) C dL_key_8 rfl ?_
    refine g_iald (pc := 10) (i := p5) hf C 0 rfl dL_key_10 (fun hf => ?_)
    refine g_isub (pc := 11) (x := 1000000) (y := (gl (Int32.toNatClampNeg p5))) C dL_key_11 ?_
    refine g_goto (pc := 12) (tgt := 40) C dL_key_12 (by decide) ?_
    obtain rfl := Option.some.inj hf
    exact g_iret (v := (1000000 - (gl (Int32.toNatClampNeg p5)))) C E dL_key_40 (Nat.le_of_ble_eq_true rfl) (Nat.le_of_ble_eq_true rfl) ⟨rfl, rfl⟩
set_option maxRecDepth 100000 in
set_option maxHeartbeats 4000000 in
theorem cL_key_ (l : Launch) (htr : l.stackTraces = false) (D : va_G) (N : Nat) (ql : Nat) (qe : Nat) (qw : Nat) (qh : Nat) (gl : (Nat → Int32)) (ge : (Nat → Int32)) (gw : (Nat → Int32)) (gh : (Nat → Int32)) (p4 : Int32) (p5 : Int32) (r : Int32) (hf : fL_key N gl ge gw gh p4 p5 = some r) : Tc l D yL_key wsL_key rmL_key [.ref ql, .ref qe, .ref qw, .ref qh, .int p4, .int p5] (wA10 D ql gl ++ (wA10 D qe ge ++ (wA10 D qw gw ++ (wA10 D qh gh)))) (fun rv w => rv = some (.int r) ∧ w = (wA10 D ql gl ++ (wA10 D qe ge ++ (wA10 D qw gw ++ (wA10 D qh gh))))) (fun _ _ => False) 0 0 := Tc_of htr (by decide +kernel) rfl (Nat.le_of_ble_eq_true rfl) (fun k C E hl hD => by subst hD; exact wkL_key C N ql qe qw qh gl ge gw gh p4 p5 r hf E)
abbrev rmL_moves : Room := { frames := 0, cells := 0, slots := 0, locals := 0 }
theorem hsL_moves : yL_moves.cls ≠ "java/lang/invoke/MethodHandle" ∧ yL_moves.cls ≠ "java/lang/invoke/VarHandle" ∧ (parseMethodDescriptor yL_moves.desc).map (fun d => d.parameters.length) = some 2 := by decide +kernel
def lL_moves_2 (N : Nat)  : Nat → (Nat → Int32) → Int32 → Option (((Nat → Int32)))
  | 0, _, _ => none
  | n + 1, grow, l2 => (if (9 : Int32) ≤ l2 then some grow else ck (l2 + 1) 10 (ck l2 10 ((lL_moves_2 N n (upd grow (Int32.toNatClampNeg l2) (grow (Int32.toNatClampNeg (l2 + 1)))) (l2 + 1)))))
set_option maxRecDepth 100000 in
set_option maxHeartbeats 4000000 in
theorem wlL_moves_2 {k : Kt} (C : gC k cL_moves 3 RL wsL_moves rmL_moves "moves") (N : Nat) (qrow : Nat) : ∀ (n : Nat) (grow : (Nat → Int32)) (l2 : Int32) (u : ((Nat → Int32))) (hf : lL_moves_2 N n grow l2 = some u) (hk0 : gG k (wA10 (kD k) qrow u) [] 0 0 22 []), gG k (wA10 (kD k) qrow grow) [(0, .ref qrow), (2, .int l2)] 0 0 2 [] := by
  intro n
  induction n with
  | zero => intro grow l2 u hf hk0; rw [lL_moves_2] at hf; cases hf
  | succ n ih =>
    intro grow l2 u hf hk0
    rw [lL_moves_2] at hf
    refine g_iload_n (pc := 2) (x := l2) C dL_moves_2 rfl ?_
    refine g_bipush (pc := 3) (v := 9) C dL_moves_3 (by decide) ?_
    refine g_icmp_ge (pc := 5) (tgt := 22) (x := l2) (y := 9) hf C dL_moves_5 (by decide) (fun hf => ?_) (fun hf => ?_)
    · obtain rfl := Option.some.inj hf
      refine g_lv [] (lv' := []) rfl ?_
      exact hk0
    · refine g_aload_n (pc := 8) (x := qrow) C dL_moves_8 rfl ?_
      refine g_iload_n (pc := 9) (x := l2) C dL_moves_9 rfl ?_
      refine g_aload_n (pc := 10) (x := qrow) C dL_moves_10 rfl ?_
      refine g_iload_n (pc := 11) (x := l2) C dL_moves_11 rfl ?_
      refine g_iconst (pc := 12) (v := 1) C dL_moves_12 (by decide) ?_
      refine g_iadd (pc := 13) (x := l2) (y := 1) C dL_moves_13 ?_
      refine g_iald (pc := 14) (i := (l2 + 1)) hf C 0 rfl dL_moves_14 (fun hf => ?_)
      refine g_iast (pc := 15) (i := l2) (x := (grow (Int32.toNatClampNeg (l2 + 1)))) hf C 0 rfl dL_moves_15 (ws' := (wA10 (kD k) qrow (upd grow (Int32.toNatClampNeg l2) (grow (Int32.toNatClampNeg (l2 + 1)))))) rfl (fun hf => ?_)
      refine g_iinc (pc := 16) (x := l2) (v := (l2 + 1)) (lv' := [(2, .int (l2 + 1)), (0, .ref qrow)]) C dL_moves_16 rfl rfl (by decide) rfl ?_
      refine g_goto (pc := 19) (tgt := 2) C dL_moves_19 (by decide) ?_
      refine g_lv [1, 0] (lv' := [(0, .ref qrow), (2, .int (l2 + 1))]) rfl ?_
      exact ih (upd grow (Int32.toNatClampNeg l2) (grow (Int32.toNatClampNeg (l2 + 1)))) (l2 + 1) u hf hk0
def fL_moves (N : Nat) (grow : (Nat → Int32)) (p1 : Int32) : Option ((Nat → Int32)) := ((lL_moves_2 N N grow p1).bind fun r1 => some r1)
set_option maxRecDepth 100000 in
set_option maxHeartbeats 4000000 in
theorem wkL_moves {k : Kt} (C : gC k cL_moves 3 RL wsL_moves rmL_moves "moves") (N : Nat) (qrow : Nat) (grow : (Nat → Int32)) (p1 : Int32) (r : (Nat → Int32)) (hf : fL_moves N grow p1 = some r) (E : gE k (wA10 (kD k) qrow grow) (fun rv w => rv = none ∧ w = (wA10 (kD k) qrow r)) (fun _ _ => False) 0 0 none []) : gG k (wA10 (kD k) qrow grow) [(0, .ref qrow), (1, .int p1)] 0 0 0 [] := by
  unfold fL_moves at hf
  refine g_iload_n (pc := 0) (x := p1) C dL_moves_0 rfl ?_
  refine g_istore_n (pc := 1) (lv' := [(2, .int p1), (0, .ref qrow), (1, .int p1)]) C dL_moves_1 (by decide) rfl ?_
  obtain ⟨r1, h1, hf⟩ := bd_e hf
  refine g_lv [1, 0] (lv' := [(0, .ref qrow), (2, .int p1)]) rfl ?_
  refine wlL_moves_2 C N qrow N grow p1 r1 h1 ?_
  obtain rfl := Option.some.inj hf
  exact g_vret C E dL_moves_22 (Nat.le_of_ble_eq_true rfl) (Nat.le_of_ble_eq_true rfl) ⟨rfl, rfl⟩
set_option maxRecDepth 100000 in
set_option maxHeartbeats 4000000 in
theorem cL_moves_ (l : Launch) (htr : l.stackTraces = false) (D : va_G) (N : Nat) (qrow : Nat) (grow : (Nat → Int32)) (p1 : Int32) (r : (Nat → Int32)) (hf : fL_moves N grow p1 = some r) : Tc l D yL_moves wsL_moves rmL_moves [.ref qrow, .int p1] (wA10 D qrow grow) (fun rv w => rv = none ∧ w = (wA10 D qrow r)) (fun _ _ => False) 0 0 := Tc_of htr (by decide +kernel) rfl (Nat.le_of_ble_eq_true rfl) (fun k C E hl hD => by subst hD; exact wkL_moves C N qrow grow p1 r hf E)
