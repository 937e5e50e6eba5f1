abbrev rmL_adds : Room := { frames := 5, cells := 0, slots := 0, locals := 133 }
theorem kcL_adds_91 : Jvm.Cond.constant RL 91 99501 ∈ wsL_adds := by decide +kernel
theorem hsL_adds : yL_adds.cls ≠ "java/lang/invoke/MethodHandle" ∧ yL_adds.cls ≠ "java/lang/invoke/VarHandle" ∧ (parseMethodDescriptor yL_adds.desc).map (fun d => d.parameters.length) = some 8 := by decide +kernel
def fL_adds (N : Nat) (v : VS) (tx : VT) (z : VV) (gl : (Nat → Int32)) (ge : (Nat → Int32)) (gw : (Nat → Int32)) (gh : (Nat → Int32)) (gt : (Nat → Int32)) (gn : (Nat → Int32)) (p7 : Int32) : Option (VS × VV × (Nat → Int32) × (Nat → Int32) × (Nat → Int32) × (Nat → Int32) × (Nat → Int32) × (Nat → Int32) × Bool) := ck 8 9 ((if (gn (Int32.toNatClampNeg 8)) = (10 : Int32) then ((fX4_count N v tx z 0).bind fun r14 => (if r14 = (10 : Int32) then some (v, z, gl, ge, gw, gh, gt, gn, true) else none)) else ck 8 9 (((fL_low N p7 3).bind fun r1 => (((if r1 = (0 : Int32) then ((fL_low N (p7 >>> (4 &&& 31)) 99501).bind fun r8 => some (500 + r8)) else ((fL_low N p7 3).bind fun r3 => (if r3 = (1 : Int32) then ((fL_low N (p7 >>> (4 &&& 31)) 9).bind fun r7 => some (1000 * (1 + r7))) else ((fL_low N (p7 >>> (4 &&& 31)) 10).bind fun r4 => ((fL_low N (p7 >>> (9 &&& 31)) 2).bind fun r5 => (((if r5 = (0 : Int32) then some 1 else some 10) : Option (Int32)).bind fun r6 => some (1000 + (r4 * r6)))))))) : Option (Int32)).bind fun r2 => ck (gn (Int32.toNatClampNeg 8)) 10 (((fL_low N (p7 >>> (3 &&& 31)) 4).bind fun r9 => (((if r9 = (0 : Int32) then ((fL_low N (p7 >>> (6 &&& 31)) 1801).bind fun r12 => some (r12 - 900)) else ((fL_low N (p7 >>> (6 &&& 31)) 300).bind fun r11 => some (r11 - 150))) : Option (Int32)).bind fun r10 => ck (gn (Int32.toNatClampNeg 8)) 10 (ck (gn (Int32.toNatClampNeg 8)) 10 (ck (gn (Int32.toNatClampNeg 8)) 10 (ck (gn (Int32.toNatClampNeg 8)) 10 (ck 8 9 (ck 8 9 (ck (gn (Int32.toNatClampNeg 8)) 10 (ck (gn (Int32.toNatClampNeg 8)) 10 (((fX4_block N v z ((upd gl (Int32.toNatClampNeg (gn (Int32.toNatClampNeg 8))) r2) (Int32.toNatClampNeg (gn (Int32.toNatClampNeg 8)))) ((upd ge (Int32.toNatClampNeg (gn (Int32.toNatClampNeg 8))) r10) (Int32.toNatClampNeg (gn (Int32.toNatClampNeg 8))))).bind fun r13 => (if r13.2.2 = (gn (Int32.toNatClampNeg 8)) then some (r13.1, r13.2.1, (upd gl (Int32.toNatClampNeg (gn (Int32.toNatClampNeg 8))) r2), (upd ge (Int32.toNatClampNeg (gn (Int32.toNatClampNeg 8))) r10), (upd gw (Int32.toNatClampNeg (gn (Int32.toNatClampNeg 8))) 0), (upd gh (Int32.toNatClampNeg (gn (Int32.toNatClampNeg 8))) 0), (upd gt (Int32.toNatClampNeg (gn (Int32.toNatClampNeg 8))) 0), (upd gn (Int32.toNatClampNeg 8) ((gn (Int32.toNatClampNeg 8)) + 1)), true) else none))))))))))))))))))
set_option maxRecDepth 100000 in
set_option maxHeartbeats 4000000 in
theorem wkL_adds {k : Kt} (C : gC k cL_adds 9 RL wsL_adds rmL_adds "adds") (N : Nat) (rG : Nat) (rN : Nat) (aS : Nat → Nat) (aT : Nat → Nat) (rV : Nat) (aV : Nat → Nat) (ql : Nat) (qe : Nat) (qw : Nat) (qh : Nat) (qt : Nat) (qn : Nat) (v : VS) (tx : VT) (z : VV) (gl : (Nat → Int32)) (ge : (Nat → Int32)) (gw : (Nat → Int32)) (gh : (Nat → Int32)) (gt : (Nat → Int32)) (gn : (Nat → Int32)) (p7 : Int32) (r : VS × VV × (Nat → Int32) × (Nat → Int32) × (Nat → Int32) × (Nat → Int32) × (Nat → Int32) × (Nat → Int32) × Bool) (hf : fL_adds N v tx z gl ge gw gh gt gn p7 = some r) (E : gE k (wG (kD k) rG (aS 0) rV rN (aT 0) ++ (wS (kD k) aS v ++ (wT (kD k) aT tx ++ (wV (kD k) rV aV z ++ (wA10 (kD k) ql gl ++ (wA10 (kD k) qe ge ++ (wA10 (kD k) qw gw ++ (wA10 (kD k) qh gh ++ (wA10 (kD k) qt gt ++ (wA9 (kD k) qn gn)))))))))) (fun rv w => rv = some (.int (b2i r.2.2.2.2.2.2.2.2)) ∧ ∃ a : Nat → Nat, w = (wG (kD k) rG (aS 0) rV rN (aT 0) ++ (wS (kD k) aS r.1 ++ (wT (kD k) aT tx ++ (wV (kD k) rV a r.2.1 ++ (wA10 (kD k) ql r.2.2.1 ++ (wA10 (kD k) qe r.2.2.2.1 ++ (wA10 (kD k) qw r.2.2.2.2.1 ++ (wA10 (kD k) qh r.2.2.2.2.2.1 ++ (wA10 (kD k) qt r.2.2.2.2.2.2.1 ++ (wA9 (kD k) qn r.2.2.2.2.2.2.2.1))))))))))) (fun _ _ => False) 0 0 (some .boolean) []) : gG k (wG (kD k) rG (aS 0) rV rN (aT 0) ++ (wS (kD k) aS v ++ (wT (kD k) aT tx ++ (wV (kD k) rV aV z ++ (wA10 (kD k) ql gl ++ (wA10 (kD k) qe ge ++ (wA10 (kD k) qw gw ++ (wA10 (kD k) qh gh ++ (wA10 (kD k) qt gt ++ (wA9 (kD k) qn gn)))))))))) [(0, .ref rG), (1, .ref ql), (2, .ref qe), (3, .ref qw), (4, .ref qh), (5, .ref qt), (6, .ref qn), (7, .int p7)] 0 0 0 [] := by
  unfold fL_adds at hf
  refine g_aload (pc := 0) (x := qn) C dL_adds_0 rfl ?_
  refine g_bipush (pc := 2) (v := 8) C dL_adds_2 (by decide) ?_
  refine g_iald (pc := 4) (i := 8) hf C 73 rfl dL_adds_4 (fun hf => ?_)
  refine g_bipush (pc := 5) (v := 10) C dL_adds_5 (by decide) ?_
  refine g_icmp_ne (pc := 7) (tgt := 26) (x := (gn (Int32.toNatClampNeg 8))) (y := 10) hf C dL_adds_7 (by decide) (fun hf => ?_) (fun hf => ?_)
  · refine g_aload (pc := 26) (x := qn) C dL_adds_26 rfl ?_
    refine g_bipush (pc := 28) (v := 8) C dL_adds_28 (by decide) ?_
    refine g_iald (pc := 30) (i := 8) hf C 73 rfl dL_adds_30 (fun hf => ?_)
    refine g_istore (pc := 31) (lv' := [(8, .int (gn (Int32.toNatClampNeg 8))), (0, .ref rG), (1, .ref ql), (2, .ref qe), (3, .ref qw), (4, .ref qh), (5, .ref qt), (6, .ref qn), (7, .int p7)]) C dL_adds_31 (by decide) rfl ?_
    refine g_aload_n (pc := 33) (x := ql) C dL_adds_33 rfl ?_
    refine g_iload (pc := 34) (x := (gn (Int32.toNatClampNeg 8))) C dL_adds_34 rfl ?_
    refine g_iload (pc := 36) (x := p7) C dL_adds_36 rfl ?_
    refine g_iconst (pc := 38) (v := 3) C dL_adds_38 (by decide) ?_
    refine g_callR (pc' := 42) (cs' := 0) (sl' := 0) hf C (fun u => some (.int u)) (fun u hu => gr_S (rest := [.int (gn (Int32.toNatClampNeg 8)), .ref ql]) C (cL_low_ (kL k) C.tr (kD k) N p7 3 u hu) (fun ht => va_cwS 2 ht gL_adds_L_low rfl rfl rfl hsL_low ⟨(Nat.le_of_ble_eq_true rfl), (Nat.le_of_ble_eq_true rfl)⟩) [] rfl (by decide) rfl rfl (Nat.le_of_ble_eq_true rfl) dL_adds_39 ⟨(Nat.le_of_ble_eq_true rfl), (Nat.le_of_ble_eq_true rfl)⟩) [] rfl rfl rfl rfl (fun u => [.int u, .int (gn (Int32.toNatClampNeg 8)), .ref ql]) (fun u => rfl) (fun r1 hf => ?_)
    refine g_join (Q := fun (u : Int32) => gG k (wG (kD k) rG (aS 0) rV rN (aT 0)  ++ (wS (kD k) aS v ++ (wT (kD k) aT tx ++ (wV (kD k) rV aV z ++ (wA10 (kD k) ql gl ++ (wA10 (kD k) qe ge ++ (wA10 (kD k) qw gw ++ (wA10 (kD k) qh gh ++ (wA10 (kD k) qt gt ++ (wA9 (kD k) qn gn)))))))))) [(0, .ref rG), (1, .ref ql), (2, .ref qe), (3, .ref qw), (4, .ref qh), (5, .ref qt), (6, .ref qn), (7, .int p7), (8, .int (gn (Int32.toNatClampNeg 8)))] 0 0 121 [.int u, .int (gn (Int32.toNatClampNeg 8)), .ref ql]) hf (fun r2 hf => ?_) (fun r2 hf K2 => ?_)
    · refine g_iast (pc := 121) (i := (gn (Int32.toNatClampNeg 8))) (x := r2) hf C 68 rfl dL_adds_121 (ws' := (wG (kD k) rG (aS 0) rV rN (aT 0)  ++ (wS (kD k) aS v ++ (wT (kD k) aT tx ++ (wV (kD k) rV aV z ++ (wA10 (kD k) ql (upd gl (Int32.toNatClampNeg (gn (Int32.toNatClampNeg 8))) r2) ++ (wA10 (kD k) qe ge ++ (wA10 (kD k) qw gw ++ (wA10 (kD k) qh gh ++ (wA10 (kD k) qt gt ++ (wA9 (kD k) qn gn))))))))))) rfl (fun hf => ?_)
      refine g_aload_n (pc := 122) (x := qe) C dL_adds_122 rfl ?_
      refine g_iload (pc := 123) (x := (gn (Int32.toNatClampNeg 8))) C dL_adds_123 rfl ?_
      refine g_iload (pc := 125) (x := p7) C dL_adds_125 rfl ?_
      refine g_iconst (pc := 127) (v := 3) C dL_adds_127 (by decide) ?_
      refine g_ishr (pc := 128) (x := p7) (y := 3) C dL_adds_128 ?_
      refine g_iconst (pc := 129) (v := 4) C dL_adds_129 (by decide) ?_
      refine g_callR (pc' := 133) (cs' := 0) (sl' := 0) hf C (fun u => some (.int u)) (fun u hu => gr_S (rest := [.int (gn (Int32.toNatClampNeg 8)), .ref qe]) C (cL_low_ (kL k) C.tr (kD k) N (p7 >>> (3 &&& 31)) 4 u hu) (fun ht => va_cwS 2 ht gL_adds_L_low rfl rfl rfl hsL_low ⟨(Nat.le_of_ble_eq_true rfl), (Nat.le_of_ble_eq_true rfl)⟩) [] rfl (by decide) rfl rfl (Nat.le_of_ble_eq_true rfl) dL_adds_130 ⟨(Nat.le_of_ble_eq_true rfl), (Nat.le_of_ble_eq_true rfl)⟩) [] rfl rfl rfl rfl (fun u => [.int u, .int (gn (Int32.toNatClampNeg 8)), .ref qe]) (fun u => rfl) (fun r9 hf => ?_)
      refine g_join (Q := fun (u : Int32) => gG k (wG (kD k) rG (aS 0) rV rN (aT 0)  ++ (wS (kD k) aS v ++ (wT (kD k) aT tx ++ (wV (kD k) rV aV z ++ (wA10 (kD k) ql (upd gl (Int32.toNatClampNeg (gn (Int32.toNatClampNeg 8))) r2) ++ (wA10 (kD k) qe ge ++ (wA10 (kD k) qw gw ++ (wA10 (kD k) qh gh ++ (wA10 (kD k) qt gt ++ (wA9 (kD k) qn gn)))))))))) [(0, .ref rG), (1, .ref ql), (2, .ref qe), (3, .ref qw), (4, .ref qh), (5, .ref qt), (6, .ref qn), (8, .int (gn (Int32.toNatClampNeg 8)))] 0 0 169 [.int u, .int (gn (Int32.toNatClampNeg 8)), .ref qe]) hf (fun r10 hf => ?_) (fun r10 hf K10 => ?_)
      · refine g_iast (pc := 169) (i := (gn (Int32.toNatClampNeg 8))) (x := r10) hf C 69 rfl dL_adds_169 (ws' := (wG (kD k) rG (aS 0) rV rN (aT 0)  ++ (wS (kD k) aS v ++ (wT (kD k) aT tx ++ (wV (kD k) rV aV z ++ (wA10 (kD k) ql (upd gl (Int32.toNatClampNeg (gn (Int32.toNatClampNeg 8))) r2) ++ (wA10 (kD k) qe (upd ge (Int32.toNatClampNeg (gn (Int32.toNatClampNeg 8))) r10) ++ (wA10 (kD k) qw gw ++ (wA10 (kD k) qh gh ++ (wA10 (kD k) qt gt ++ (wA9 (kD k) qn gn))))))))))) rfl (fun hf => ?_)
        refine g_aload_n (pc := 170) (x := qw) C dL_adds_170 rfl ?_
        refine g_iload (pc := 171) (x := (gn (Int32.toNatClampNeg 8))) C dL_adds_171 rfl ?_
        refine g_iconst (pc := 173) (v := 0) C dL_adds_173 (by decide) ?_
        refine g_iast (pc := 174) (i := (gn (Int32.toNatClampNeg 8))) (x := 0) hf C 70 rfl dL_adds_174 (ws' := (wG (kD k) rG (aS 0) rV rN (aT 0)  ++ (wS (kD k) aS v ++ (wT (kD k) aT tx ++ (wV (kD k) rV aV z ++ (wA10 (kD k) ql (upd gl (Int32.toNatClampNeg (gn (Int32.toNatClampNeg 8))) r2) ++ (wA10 (kD k) qe (upd ge (Int32.toNatClampNeg (gn (Int32.toNatClampNeg 8))) r10) ++ (wA10 (kD k) qw (upd gw (Int32.toNatClampNeg (gn (Int32.toNatClampNeg 8))) 0) ++ (wA10 (kD k) qh gh ++ (wA10 (kD k) qt gt ++ (wA9 (kD k) qn gn))))))))))) rfl (fun hf => ?_)
        refine g_aload (pc := 175) (x := qh) C dL_adds_175 rfl ?_
        refine g_iload (pc := 177) (x := (gn (Int32.toNatClampNeg 8))) C dL_adds_177 rfl ?_
        refine g_iconst (pc := 179) (v := 0) C dL_adds_179 (by decide) ?_
        refine g_iast (pc := 180) (i := (gn (Int32.toNatClampNeg 8))) (x := 0) hf C 71 rfl dL_adds_180 (ws' := (wG (kD k) rG (aS 0) rV rN (aT 0)  ++ (wS (kD k) aS v ++ (wT (kD k) aT tx ++ (wV (kD k) rV aV z ++ (wA10 (kD k) ql (upd gl (Int32.toNatClampNeg (gn (Int32.toNatClampNeg 8))) r2) ++ (wA10 (kD k) qe (upd ge (Int32.toNatClampNeg (gn (Int32.toNatClampNeg 8))) r10) ++ (wA10 (kD k) qw (upd gw (Int32.toNatClampNeg (gn (Int32.toNatClampNeg 8))) 0) ++ (wA10 (kD k) qh (upd gh (Int32.toNatClampNeg (gn (Int32.toNatClampNeg 8))) 0) ++ (wA10 (kD k) qt gt ++ (wA9 (kD k) qn gn))))))))))) rfl (fun hf => ?_)
        refine g_aload (pc := 181) (x := qt) C dL_adds_181 rfl ?_
        refine g_iload (pc := 183) (x := (gn (Int32.toNatClampNeg 8))) C dL_adds_183 rfl ?_
        refine g_iconst (pc := 185) (v := 0) C dL_adds_185 (by decide) ?_
        refine g_iast (pc := 186) (i := (gn (Int32.toNatClampNeg 8))) (x := 0) hf C 72 rfl dL_adds_186 (ws' := (wG (kD k) rG (aS 0) rV rN (aT 0)  ++ (wS (kD k) aS v ++ (wT (kD k) aT tx ++ (wV (kD k) rV aV z ++ (wA10 (kD k) ql (upd gl (Int32.toNatClampNeg (gn (Int32.toNatClampNeg 8))) r2) ++ (wA10 (kD k) qe (upd ge (Int32.toNatClampNeg (gn (Int32.toNatClampNeg 8))) r10) ++ (wA10 (kD k) qw (upd gw (Int32.toNatClampNeg (gn (Int32.toNatClampNeg 8))) 0) ++ (wA10 (kD k) qh (upd gh (Int32.toNatClampNeg (gn (Int32.toNatClampNeg 8))) 0) ++ (wA10 (kD k) qt (upd gt (Int32.toNatClampNeg (gn (Int32.toNatClampNeg 8))) 0) ++ (wA9 (kD k) qn gn))))))))))) rfl (fun hf => ?_)
        refine g_aload (pc := 187) (x := qn) C dL_adds_187 rfl ?_
        refine g_bipush (pc := 189) (v := 8) C dL_adds_189 (by decide) ?_
        refine g_dup2 (pc := 191) C dL_adds_191 rfl rfl ?_
        refine g_iald (pc := 192) (i := 8) hf C 73 rfl dL_adds_192 (fun hf => ?_)
        refine g_iconst (pc := 193) (v := 1) C dL_adds_193 (by decide) ?_
        refine g_iadd (pc := 194) (x := (gn (Int32.toNatClampNeg 8))) (y := 1) C dL_adds_194 ?_
        refine g_iast (pc := 195) (i := 8) (x := ((gn (Int32.toNatClampNeg 8)) + 1)) hf C 73 rfl dL_adds_195 (ws' := (wG (kD k) rG (aS 0) rV rN (aT 0)  ++ (wS (kD k) aS v ++ (wT (kD k) aT tx ++ (wV (kD k) rV aV z ++ (wA10 (kD k) ql (upd gl (Int32.toNatClampNeg (gn (Int32.toNatClampNeg 8))) r2) ++ (wA10 (kD k) qe (upd ge (Int32.toNatClampNeg (gn (Int32.toNatClampNeg 8))) r10) ++ (wA10 (kD k) qw (upd gw (Int32.toNatClampNeg (gn (Int32.toNatClampNeg 8))) 0) ++ (wA10 (kD k) qh (upd gh (Int32.toNatClampNeg (gn (Int32.toNatClampNeg 8))) 0) ++ (wA10 (kD k) qt (upd gt (Int32.toNatClampNeg (gn (Int32.toNatClampNeg 8))) 0) ++ (wA9 (kD k) qn (upd gn (Int32.toNatClampNeg 8) ((gn (Int32.toNatClampNeg 8)) + 1))))))))))))) rfl (fun hf => ?_)
        refine g_aload_n (pc := 196) (x := rG) C dL_adds_196 rfl ?_
        refine g_aload_n (pc := 197) (x := ql) C dL_adds_197 rfl ?_
        refine g_iload (pc := 198) (x := (gn (Int32.toNatClampNeg 8))) C dL_adds_198 rfl ?_
        refine g_iald (pc := 200) (i := (gn (Int32.toNatClampNeg 8))) hf C 68 rfl dL_adds_200 (fun hf => ?_)
        refine g_aload_n (pc := 201) (x := qe) C dL_adds_201 rfl ?_
        refine g_iload (pc := 202) (x := (gn (Int32.toNatClampNeg 8))) C dL_adds_202 rfl ?_
        refine g_iald (pc := 204) (i := (gn (Int32.toNatClampNeg 8))) hf C 69 rfl dL_adds_204 (fun hf => ?_)
        refine g_callPA (wr := wT (kD k) aT tx ++ (wA10 (kD k) ql (upd gl (Int32.toNatClampNeg (gn (Int32.toNatClampNeg 8))) r2) ++ (wA10 (kD k) qe (upd ge (Int32.toNatClampNeg (gn (Int32.toNatClampNeg 8))) r10) ++ (wA10 (kD k) qw (upd gw (Int32.toNatClampNeg (gn (Int32.toNatClampNeg 8))) 0) ++ (wA10 (kD k) qh (upd gh (Int32.toNatClampNeg (gn (Int32.toNatClampNeg 8))) 0) ++ (wA10 (kD k) qt (upd gt (Int32.toNatClampNeg (gn (Int32.toNatClampNeg 8))) 0) ++ (wA9 (kD k) qn (upd gn (Int32.toNatClampNeg 8) ((gn (Int32.toNatClampNeg 8)) + 1))))))))) (pc' := 208) (cs' := 0) (sl' := 0) hf C (fun u => some (.int u.2.2)) (fun u a => (wG (kD k) rG (aS 0) rV rN (aT 0) ++ (wS (kD k) aS u.1 ++ (wV (kD k) rV a u.2.1)))) ((pmc (pmc (pm0 (List.Perm.refl _)))).trans as3) (fun u hu => gr_V (rest := []) C (cX4_block_ (kL k) C.tr (kD k) N rG rN (aT 0) aS rV aV v z ((upd gl (Int32.toNatClampNeg (gn (Int32.toNatClampNeg 8))) r2) (Int32.toNatClampNeg (gn (Int32.toNatClampNeg 8)))) ((upd ge (Int32.toNatClampNeg (gn (Int32.toNatClampNeg 8))) r10) (Int32.toNatClampNeg (gn (Int32.toNatClampNeg 8)))) u hu) (fun ht => cwV 2 ht gL_adds_X4_block rfl rfl rfl hdX4_block ⟨(Nat.le_of_ble_eq_true rfl), (Nat.le_of_ble_eq_true rfl)⟩) 0 rfl rfl _ (rg_map _ _) (rg_nd _) rfl rfl (Nat.le_of_ble_eq_true rfl) dL_adds_205 ⟨(Nat.le_of_ble_eq_true rfl), (Nat.le_of_ble_eq_true rfl)⟩) (ws' := fun u a => (wG (kD k) rG (aS 0) rV rN (aT 0)  ++ (wS (kD k) aS u.1 ++ (wT (kD k) aT tx ++ (wV (kD k) rV a u.2.1 ++ (wA10 (kD k) ql (upd gl (Int32.toNatClampNeg (gn (Int32.toNatClampNeg 8))) r2) ++ (wA10 (kD k) qe (upd ge (Int32.toNatClampNeg (gn (Int32.toNatClampNeg 8))) r10) ++ (wA10 (kD k) qw (upd gw (Int32.toNatClampNeg (gn (Int32.toNatClampNeg 8))) 0) ++ (wA10 (kD k) qh (upd gh (Int32.toNatClampNeg (gn (Int32.toNatClampNeg 8))) 0) ++ (wA10 (kD k) qt (upd gt (Int32.toNatClampNeg (gn (Int32.toNatClampNeg 8))) 0) ++ (wA9 (kD k) qn (upd gn (Int32.toNatClampNeg 8) ((gn (Int32.toNatClampNeg 8)) + 1))))))))))))) (fun u a => (as3.symm.trans (pmc (pmc (pm0 (List.Perm.refl _)))))) rfl rfl rfl (fun u => [.int u.2.2]) (fun u => rfl) (fun r13 aV13 hf => ?_)
        refine g_iload (pc := 208) (x := (gn (Int32.toNatClampNeg 8))) C dL_adds_208 rfl ?_
        refine g_icmp_ne (pc := 210) (tgt := 217) (x := r13.2.2) (y := (gn (Int32.toNatClampNeg 8))) hf C dL_adds_210 (by decide) (fun hf => ?_) (fun hf => ?_)
        · cases hf
        · refine g_iconst (pc := 213) (v := 1) C dL_adds_213 (by decide) ?_
          refine g_goto (pc := 214) (tgt := 218) C dL_adds_214 (by decide) ?_
          obtain rfl := Option.some.inj hf
          exact g_bret (b := true) C E dL_adds_218 (Nat.le_of_ble_eq_true rfl) (Nat.le_of_ble_eq_true rfl) ⟨rfl, _, rfl⟩
      · refine g_if_ne (pc := 133) (tgt := 154) (x := r9) hf C dL_adds_133 (by decide) (fun hf => ?_) (fun hf => ?_)
        · refine g_iload (pc := 154) (x := p7) C dL_adds_154 rfl ?_
          refine g_bipush (pc := 156) (v := 6) C dL_adds_156 (by decide) ?_
          refine g_ishr (pc := 158) (x := p7) (y := 6) C dL_adds_158 ?_
          refine g_sipush (pc := 159) (v := 300) C dL_adds_159 (by decide) ?_
          refine g_callR (pc' := 165) (cs' := 0) (sl' := 0) hf C (fun u => some (.int u)) (fun u hu => gr_S (rest := [.int (gn (Int32.toNatClampNeg 8)), .ref qe]) C (cL_low_ (kL k) C.tr (kD k) N (p7 >>> (6 &&& 31)) 300 u hu) (fun ht => va_cwS 2 ht gL_adds_L_low rfl rfl rfl hsL_low ⟨(Nat.le_of_ble_eq_true rfl), (Nat.le_of_ble_eq_true rfl)⟩) [] rfl (by decide) rfl rfl (Nat.le_of_ble_eq_true rfl) dL_adds_162 ⟨(Nat.le_of_ble_eq_true rfl), (Nat.le_of_ble_eq_true rfl)⟩) [] rfl rfl rfl rfl (fun u => [.int u, .int (gn (Int32.toNatClampNeg 8)), .ref qe]) (fun u => rfl) (fun r11 hf => ?_)
          refine g_sipush (pc := 165) (v := 150) C dL_adds_165 (by decide) ?_
          refine g_isub (pc := 168) (x := r11) (y := 150) C dL_adds_168 ?_
          obtain rfl := Option.some.inj hf
          refine g_lv [0, 1, 2, 3, 4, 5, 6, 8] (lv' := [(0, .ref rG), (1, .ref ql), (2, .ref qe), (3, .ref qw), (4, .ref qh), (5, .ref qt), (6, .ref qn), (8, .int (gn (Int32.toNatClampNeg 8)))]) rfl ?_
          exact K10
        · refine g_iload (pc := 136) (x := p7) C dL_adds_136 rfl ?_
          refine g_bipush (pc := 138) (v := 6) C dL_adds_138 (by decide) ?_
          refine g_ishr (pc := 140) (x := p7) (y := 6) C dL_adds_140 ?_
          refine g_sipush (pc := 141) (v := 1801) C dL_adds_141 (by decide) ?_
          refine g_callR (pc' := 147) (cs' := 0) (sl' := 0) hf C (fun u => some (.int u)) (fun u hu => gr_S (rest := [.int (gn (Int32.toNatClampNeg 8)), .ref qe]) C (cL_low_ (kL k) C.tr (kD k) N (p7 >>> (6 &&& 31)) 1801 u hu) (fun ht => va_cwS 2 ht gL_adds_L_low rfl rfl rfl hsL_low ⟨(Nat.le_of_ble_eq_true rfl), (Nat.le_of_ble_eq_true rfl)⟩) [] rfl (by decide) rfl rfl (Nat.le_of_ble_eq_true rfl) dL_adds_144 ⟨(Nat.le_of_ble_eq_true rfl), (Nat.le_of_ble_eq_true rfl)⟩) [] rfl rfl rfl rfl (fun u => [.int u, .int (gn (Int32.toNatClampNeg 8)), .ref qe]) (fun u => rfl) (fun r12 hf => ?_)
          refine g_sipush (pc := 147) (v := 900) C dL_adds_147 (by decide) ?_
          refine g_isub (pc := 150) (x := r12) (y := 900) C dL_adds_150 ?_
          refine g_goto (pc := 151) (tgt := 169) C dL_adds_151 (by decide) ?_
          obtain rfl := Option.some.inj hf
          refine g_lv [0, 1, 2, 3, 4, 5, 6, 8] (lv' := [(0, .ref rG), (1, .ref ql), (2, .ref qe), (3, .ref qw), (4, .ref qh), (5, .ref qt), (6, .ref qn), (8, .int (gn (Int32.toNatClampNeg 8)))]) rfl ?_
          exact K10
    · refine g_if_ne (pc := 42) (tgt := 61) (x := r1) hf C dL_adds_42 (by decide) (fun hf => ?_) (fun hf => ?_)
      · refine g_iload (pc := 61) (x := p7) C dL_adds_61 rfl ?_
        refine g_iconst (pc := 63) (v := 3) C dL_adds_63 (by decide) ?_
        refine g_callR (pc' := 67) (cs' := 0) (sl' := 0) hf C (fun u => some (.int u)) (fun u hu => gr_S (rest := [.int (gn (Int32.toNatClampNeg 8)), .ref ql]) C (cL_low_ (kL k) C.tr (kD k) N p7 3 u hu) (fun ht => va_cwS 2 ht gL_adds_L_low rfl rfl rfl hsL_low ⟨(Nat.le_of_ble_eq_true rfl), (Nat.le_of_ble_eq_true rfl)⟩) [] rfl (by decide) rfl rfl (Nat.le_of_ble_eq_true rfl) dL_adds_64 ⟨(Nat.le_of_ble_eq_true rfl), (Nat.le_of_ble_eq_true rfl)⟩) [] rfl rfl rfl rfl (fun u => [.int u, .int (gn (Int32.toNatClampNeg 8)), .ref ql]) (fun u => rfl) (fun r3 hf => ?_)
        refine g_iconst (pc := 67) (v := 1) C dL_adds_67 (by decide) ?_
        refine g_icmp_ne (pc := 68) (tgt := 89) (x := r3) (y := 1) hf C dL_adds_68 (by decide) (fun hf => ?_) (fun hf => ?_)
        · refine g_sipush (pc := 89) (v := 1000) C dL_adds_89 (by decide) ?_
          refine g_iload (pc := 92) (x := p7) C dL_adds_92 rfl ?_
          refine g_iconst (pc := 94) (v := 4) C dL_adds_94 (by decide) ?_
          refine g_ishr (pc := 95) (x := p7) (y := 4) C dL_adds_95 ?_
          refine g_bipush (pc := 96) (v := 10) C dL_adds_96 (by decide) ?_
          refine g_callR (pc' := 101) (cs' := 0) (sl' := 0) hf C (fun u => some (.int u)) (fun u hu => gr_S (rest := [.int 1000, .int (gn (Int32.toNatClampNeg 8)), .ref ql]) C (cL_low_ (kL k) C.tr (kD k) N (p7 >>> (4 &&& 31)) 10 u hu) (fun ht => va_cwS 2 ht gL_adds_L_low rfl rfl rfl hsL_low ⟨(Nat.le_of_ble_eq_true rfl), (Nat.le_of_ble_eq_true rfl)⟩) [] rfl (by decide) rfl rfl (Nat.le_of_ble_eq_true rfl) dL_adds_98 ⟨(Nat.le_of_ble_eq_true rfl), (Nat.le_of_ble_eq_true rfl)⟩) [] rfl rfl rfl rfl (fun u => [.int u, .int 1000, .int (gn (Int32.toNatClampNeg 8)), .ref ql]) (fun u => rfl) (fun r4 hf => ?_)
          refine g_iload (pc := 101) (x := p7) C dL_adds_101 rfl ?_
          refine g_bipush (pc := 103) (v := 9) C dL_adds_103 (by decide) ?_
          refine g_ishr (pc := 105) (x := p7) (y := 9) C dL_adds_105 ?_
          refine g_iconst (pc := 106) (v := 2) C dL_adds_106 (by decide) ?_
          refine g_callR (pc' := 110) (cs' := 0) (sl' := 0) hf C (fun u => some (.int u)) (fun u hu => gr_S (rest := [.int r4, .int 1000, .int (gn (Int32.toNatClampNeg 8)), .ref ql]) C (cL_low_ (kL k) C.tr (kD k) N (p7 >>> (9 &&& 31)) 2 u hu) (fun ht => va_cwS 2 ht gL_adds_L_low rfl rfl rfl hsL_low ⟨(Nat.le_of_ble_eq_true rfl), (Nat.le_of_ble_eq_true rfl)⟩) [] rfl (by decide) rfl rfl (Nat.le_of_ble_eq_true rfl) dL_adds_107 ⟨(Nat.le_of_ble_eq_true rfl), (Nat.le_of_ble_eq_true rfl)⟩) [] rfl rfl rfl rfl (fun u => [.int u, .int r4, .int 1000, .int (gn (Int32.toNatClampNeg 8)), .ref ql]) (fun u => rfl) (fun r5 hf => ?_)
          refine g_join (Q := fun (u : Int32) => gG k (wG (kD k) rG (aS 0) rV rN (aT 0)  ++ (wS (kD k) aS v ++ (wT (kD k) aT tx ++ (wV (kD k) rV aV z ++ (wA10 (kD k) ql gl ++ (wA10 (kD k) qe ge ++ (wA10 (kD k) qw gw ++ (wA10 (kD k) qh gh ++ (wA10 (kD k) qt gt ++ (wA9 (kD k) qn gn)))))))))) [(0, .ref rG), (1, .ref ql), (2, .ref qe), (3, .ref qw), (4, .ref qh), (5, .ref qt), (6, .ref qn), (7, .int p7), (8, .int (gn (Int32.toNatClampNeg 8)))] 0 0 119 [.int u, .int r4, .int 1000, .int (gn (Int32.toNatClampNeg 8)), .ref ql]) hf (fun r6 hf => ?_) (fun r6 hf K6 => ?_)
          · refine g_imul (pc := 119) (x := r4) (y := r6) C dL_adds_119 ?_
            refine g_iadd (pc := 120) (x := 1000) (y := (r4 * r6)) C dL_adds_120 ?_
            obtain rfl := Option.some.inj hf
            exact K2
          · refine g_if_ne (pc := 110) (tgt := 117) (x := r5) hf C dL_adds_110 (by decide) (fun hf => ?_) (fun hf => ?_)
            · refine g_bipush (pc := 117) (v := 10) C dL_adds_117 (by decide) ?_
              obtain rfl := Option.some.inj hf
              refine g_lv [1, 2, 3, 4, 5, 6, 7, 8, 0] (lv' := [(0, .ref rG), (1, .ref ql), (2, .ref qe), (3, .ref qw), (4, .ref qh), (5, .ref qt), (6, .ref qn), (7, .int p7), (8, .int (gn (Int32.toNatClampNeg 8)))]) rfl ?_
              exact K6
            · refine g_iconst (pc := 113) (v := 1) C dL_adds_113 (by decide) ?_
              refine g_goto (pc := 114) (tgt := 119) C dL_adds_114 (by decide) ?_
              obtain rfl := Option.some.inj hf
              refine g_lv [1, 2, 3, 4, 5, 6, 7, 8, 0] (lv' := [(0, .ref rG), (1, .ref ql), (2, .ref qe), (3, .ref qw), (4, .ref qh), (5, .ref qt), (6, .ref qn), (7, .int p7), (8, .int (gn (Int32.toNatClampNeg 8)))]) rfl ?_
              exact K6
        · refine g_sipush (pc := 71) (v := 1000) C dL_adds_71 (by decide) ?_
          refine g_iconst (pc := 74) (v := 1) C dL_adds_74 (by decide) ?_
          refine g_iload (pc := 75) (x := p7) C dL_adds_75 rfl ?_
          refine g_iconst (pc := 77) (v := 4) C dL_adds_77 (by decide) ?_
          refine g_ishr (pc := 78) (x := p7) (y := 4) C dL_adds_78 ?_
          refine g_bipush (pc := 79) (v := 9) C dL_adds_79 (by decide) ?_
          refine g_callR (pc' := 84) (cs' := 0) (sl' := 0) hf C (fun u => some (.int u)) (fun u hu => gr_S (rest := [.int 1, .int 1000, .int (gn (Int32.toNatClampNeg 8)), .ref ql]) C (cL_low_ (kL k) C.tr (kD k) N (p7 >>> (4 &&& 31)) 9 u hu) (fun ht => va_cwS 2 ht gL_adds_L_low rfl rfl rfl hsL_low ⟨(Nat.le_of_ble_eq_true rfl), (Nat.le_of_ble_eq_true rfl)⟩) [] rfl (by decide) rfl rfl (Nat.le_of_ble_eq_true rfl) dL_adds_81 ⟨(Nat.le_of_ble_eq_true rfl), (Nat.le_of_ble_eq_true rfl)⟩) [] rfl rfl rfl rfl (fun u => [.int u, .int 1, .int 1000, .int (gn (Int32.toNatClampNeg 8)), .ref ql]) (fun u => rfl) (fun r7 hf => ?_)
          refine g_iadd (pc := 84) (x := 1) (y := r7) C dL_adds_84 ?_
          refine g_imul (pc := 85) (x := 1000) (y := (1 + r7)) C dL_adds_85 ?_
          refine g_goto (pc := 86) (tgt := 121) C dL_adds_86 (by decide) ?_
          obtain rfl := Option.some.inj hf
          refine g_lv [1, 2, 3, 4, 5, 6, 7, 8, 0] (lv' := [(0, .ref rG), (1, .ref ql), (2, .ref qe), (3, .ref qw), (4, .ref qh), (5, .ref qt), (6, .ref qn), (7, .int p7), (8, .int (gn (Int32.toNatClampNeg 8)))]) rfl ?_
          exact K2
      · refine g_sipush (pc := 45) (v := 500) C dL_adds_45 (by decide) ?_
        refine g_iload (pc := 48) (x := p7) C dL_adds_48 rfl ?_
        refine g_iconst (pc := 50) (v := 4) C dL_adds_50 (by decide) ?_
        refine g_ishr (pc := 51) (x := p7) (y := 4) C dL_adds_51 ?_
        refine g_ldc (pc := 52) (v := 99501) C dL_adds_52 kcL_adds_91 ?_
        refine g_callR (pc' := 57) (cs' := 0) (sl' := 0) hf C (fun u => some (.int u)) (fun u hu => gr_S (rest := [.int 500, .int (gn (Int32.toNatClampNeg 8)), .ref ql]) C (cL_low_ (kL k) C.tr (kD k) N (p7 >>> (4 &&& 31)) 99501 u hu) (fun ht => va_cwS 2 ht gL_adds_L_low rfl rfl rfl hsL_low ⟨(Nat.le_of_ble_eq_true rfl), (Nat.le_of_ble_eq_true rfl)⟩) [] rfl (by decide) rfl rfl (Nat.le_of_ble_eq_true rfl) dL_adds_54 ⟨(Nat.le_of_ble_eq_true rfl), (Nat.le_of_ble_eq_true rfl)⟩) [] rfl rfl rfl rfl (fun u => [.int u, .int 500, .int (gn (Int32.toNatClampNeg 8)), .ref ql]) (fun u => rfl) (fun r8 hf => ?_)
        refine g_iadd (pc := 57) (x := 500) (y := r8) C dL_adds_57 ?_
        refine g_goto (pc := 58) (tgt := 121) C dL_adds_58 (by decide) ?_
        obtain rfl := Option.some.inj hf
        refine g_lv [1, 2, 3, 4, 5, 6, 7, 8, 0] (lv' := [(0, .ref rG), (1, .ref ql), (2, .ref qe), (3, .ref qw), (4, .ref qh), (5, .ref qt), (6, .ref qn), (7, .int p7), (8, .int (gn (Int32.toNatClampNeg 8)))]) rfl ?_
        exact K2
  · refine g_aload_n (pc := 10) (x := rG) C dL_adds_10 rfl ?_
    refine g_iconst (pc := 11) (v := 0) C dL_adds_11 (by decide) ?_
    refine g_callWA (wr := wA10 (kD k) ql gl ++ (wA10 (kD k) qe ge ++ (wA10 (kD k) qw gw ++ (wA10 (kD k) qh gh ++ (wA10 (kD k) qt gt ++ (wA9 (kD k) qn gn)))))) (pc' := 15) (cs' := 0) (sl' := 0) hf C (fun u => some (.int u)) (fun u => (wG (kD k) rG (aS 0) rV rN (aT 0) ++ (wS (kD k) aS v ++ (wT (kD k) aT tx ++ (wV (kD k) rV aV z))))) ((List.Perm.refl _).trans as4) (fun u hu => gr_V (rest := []) C (cX4_count_ (kL k) C.tr (kD k) N rG rN aS aT rV aV v tx z 0 u hu) (fun ht => cwV 1 ht gL_adds_X4_count rfl rfl rfl hdX4_count ⟨(Nat.le_of_ble_eq_true rfl), (Nat.le_of_ble_eq_true rfl)⟩) 0 rfl rfl _ (rg_map _ _) (rg_nd _) rfl rfl (Nat.le_of_ble_eq_true rfl) dL_adds_12 ⟨(Nat.le_of_ble_eq_true rfl), (Nat.le_of_ble_eq_true rfl)⟩) (ws' := fun u => (wG (kD k) rG (aS 0) rV rN (aT 0)  ++ (wS (kD k) aS v ++ (wT (kD k) aT tx ++ (wV (kD k) rV aV z ++ (wA10 (kD k) ql gl ++ (wA10 (kD k) qe ge ++ (wA10 (kD k) qw gw ++ (wA10 (kD k) qh gh ++ (wA10 (kD k) qt gt ++ (wA9 (kD k) qn gn))))))))))) (fun u => (as4.symm.trans (List.Perm.refl _))) rfl rfl rfl (fun u => [.int u]) (fun u => rfl) (fun r14 hf => ?_)
    refine g_bipush (pc := 15) (v := 10) C dL_adds_15 (by decide) ?_
    refine g_icmp_ne (pc := 17) (tgt := 24) (x := r14) (y := 10) hf C dL_adds_17 (by decide) (fun hf => ?_) (fun hf => ?_)
    · cases hf
    · refine g_iconst (pc := 20) (v := 1) C dL_adds_20 (by decide) ?_
      refine g_goto (pc := 21) (tgt := 25) C dL_adds_21 (by decide) ?_
      obtain rfl := Option.some.inj hf
      exact g_bret (b := true) C E dL_adds_25 (Nat.le_of_ble_eq_true rfl) (Nat.le_of_ble_eq_true rfl) ⟨rfl, _, rfl⟩
set_option maxRecDepth 100000 in
set_option maxHeartbeats 4000000 in
theorem cL_adds_ (l : Launch) (htr : l.stackTraces = false) (D : va_G) (N : Nat) (rG : Nat) (rN : Nat) (aS : Nat → Nat) (aT : Nat → Nat) (rV : Nat) (aV : Nat → Nat) (ql : Nat) (qe : Nat) (qw : Nat) (qh : Nat) (qt : Nat) (qn : Nat) (v : VS) (tx : VT) (z : VV) (gl : (Nat → Int32)) (ge : (Nat → Int32)) (gw : (Nat → Int32)) (gh : (Nat → Int32)) (gt : (Nat → Int32)) (gn : (Nat → Int32)) (p7 : Int32) (r : VS × VV × (Nat → Int32) × (Nat → Int32) × (Nat → Int32) × (Nat → Int32) × (Nat → Int32) × (Nat → Int32) × Bool) (hf : fL_adds N v tx z gl ge gw gh gt gn p7 = some r) : Tc l D yL_adds wsL_adds rmL_adds [.ref rG, .ref ql, .ref qe, .ref qw, .ref qh, .ref qt, .ref qn, .int p7] (wG D rG (aS 0) rV rN (aT 0) ++ (wS D aS v ++ (wT D aT tx ++ (wV D rV aV z ++ (wA10 D ql gl ++ (wA10 D qe ge ++ (wA10 D qw gw ++ (wA10 D qh gh ++ (wA10 D qt gt ++ (wA9 D qn gn)))))))))) (fun rv w => rv = some (.int (b2i r.2.2.2.2.2.2.2.2)) ∧ ∃ a : Nat → Nat, w = (wG D rG (aS 0) rV rN (aT 0) ++ (wS D aS r.1 ++ (wT D aT tx ++ (wV D rV a r.2.1 ++ (wA10 D ql r.2.2.1 ++ (wA10 D qe r.2.2.2.1 ++ (wA10 D qw r.2.2.2.2.1 ++ (wA10 D qh r.2.2.2.2.2.1 ++ (wA10 D qt r.2.2.2.2.2.2.1 ++ (wA9 D qn r.2.2.2.2.2.2.2.1))))))))))) (fun _ _ => False) 0 0 := Tc_of htr (by decide +kernel) rfl (Nat.le_of_ble_eq_true rfl) (fun k C E hl hD => by subst hD; exact wkL_adds C N rG rN aS aT rV aV ql qe qw qh qt qn v tx z gl ge gw gh gt gn p7 r hf E)
abbrev rmL_discards : Room := { frames := 5, cells := 0, slots := 0, locals := 132 }
theorem hsL_discards : yL_discards.cls ≠ "java/lang/invoke/MethodHandle" ∧ yL_discards.cls ≠ "java/lang/invoke/VarHandle" ∧ (parseMethodDescriptor yL_discards.desc).map (fun d => d.parameters.length) = some 9 := by decide +kernel
def lL_discards_84 (N : Nat) (v : VS) (tx : VT) (z : VV) (gl : (Nat → Int32)) (ge : (Nat → Int32)) (gw : (Nat → Int32)) (gh : (Nat → Int32)) (gt : (Nat → Int32)) (gn : (Nat → Int32)) (l8 : Int32) : Nat → (Nat → Int32) → Int32 → Option (((Nat → Int32)))
  | 0, _, _ => none
  | n + 1, gp, l9 => (if (21 : Int32) ≤ l9 then some gp else ck l9 21 ((if (l9 - l9 / 7 * 7) ≤ (0 : Int32) then ck l9 21 ((lL_discards_84 N v tx z gl ge gw gh gt gn l8 n (upd gp (Int32.toNatClampNeg l9) ((gp (Int32.toNatClampNeg l9)) - 0)) (l9 + 1))) else ck l9 21 ((if (gp (Int32.toNatClampNeg l9)) ≤ l8 then ck l9 21 ((lL_discards_84 N v tx z gl ge gw gh gt gn l8 n (upd gp (Int32.toNatClampNeg l9) ((gp (Int32.toNatClampNeg l9)) - 0)) (l9 + 1))) else ck l9 21 ((lL_discards_84 N v tx z gl ge gw gh gt gn l8 n (upd gp (Int32.toNatClampNeg l9) ((gp (Int32.toNatClampNeg l9)) - 1)) (l9 + 1))))))))
set_option maxRecDepth 100000 in
set_option maxHeartbeats 4000000 in
theorem wlL_discards_84 {k : Kt} (C : gC k cL_discards 10 RL wsL_discards rmL_discards "discards") (N : Nat) (rG : Nat) (rN : Nat) (aS : Nat → Nat) (aT : Nat → Nat) (rV : Nat) (aV : Nat → Nat) (ql : Nat) (qe : Nat) (qw : Nat) (qh : Nat) (qt : Nat) (qn : Nat) (qp : Nat) (v : VS) (tx : VT) (z : VV) (gl : (Nat → Int32)) (ge : (Nat → Int32)) (gw : (Nat → Int32)) (gh : (Nat → Int32)) (gt : (Nat → Int32)) (gn : (Nat → Int32)) (l8 : Int32) : ∀ (n : Nat) (gp : (Nat → Int32)) (l9 : Int32) (u : ((Nat → Int32))) (hf : lL_discards_84 N v tx z gl ge gw gh gt gn l8 n gp l9 = some u) (hk0 : gG k (wG (kD k) rG (aS 0) rV rN (aT 0) ++ (wS (kD k) aS v ++ (wT (kD k) aT tx ++ (wV (kD k) rV aV z ++ (wA10 (kD k) ql gl ++ (wA10 (kD k) qe ge ++ (wA10 (kD k) qw gw ++ (wA10 (kD k) qh gh ++ (wA10 (kD k) qt gt ++ (wA9 (kD k) qn gn ++ (wA21 (kD k) qp u))))))))))) [(0, .ref rG), (6, .ref qn), (8, .int l8)] 0 0 128 []), gG k (wG (kD k) rG (aS 0) rV rN (aT 0) ++ (wS (kD k) aS v ++ (wT (kD k) aT tx ++ (wV (kD k) rV aV z ++ (wA10 (kD k) ql gl ++ (wA10 (kD k) qe ge ++ (wA10 (kD k) qw gw ++ (wA10 (kD k) qh gh ++ (wA10 (kD k) qt gt ++ (wA9 (kD k) qn gn ++ (wA21 (kD k) qp gp))))))))))) [(0, .ref rG), (6, .ref qn), (7, .ref qp), (8, .int l8), (9, .int l9)] 0 0 84 [] := by
  intro n
  induction n with
  | zero => intro gp l9 u hf hk0; rw [lL_discards_84] at hf; cases hf
  | succ n ih =>
    intro gp l9 u hf hk0
    rw [lL_discards_84] at hf
    refine g_iload (pc := 84) (x := l9) C dL_discards_84 rfl ?_
    refine g_bipush (pc := 86) (v := 21) C dL_discards_86 (by decide) ?_
    refine g_icmp_ge (pc := 88) (tgt := 128) (x := l9) (y := 21) hf C dL_discards_88 (by decide) (fun hf => ?_) (fun hf => ?_)
    · obtain rfl := Option.some.inj hf
      refine g_lv [0, 1, 3] (lv' := [(0, .ref rG), (6, .ref qn), (8, .int l8)]) rfl ?_
      exact hk0
    · refine g_aload (pc := 91) (x := qp) C dL_discards_91 rfl ?_
      refine g_iload (pc := 93) (x := l9) C dL_discards_93 rfl ?_
      refine g_dup2 (pc := 95) C dL_discards_95 rfl rfl ?_
      refine g_iald (pc := 96) (i := l9) hf C 74 rfl dL_discards_96 (fun hf => ?_)
      refine g_iload (pc := 97) (x := l9) C dL_discards_97 rfl ?_
      refine g_bipush (pc := 99) (v := 7) C dL_discards_99 (by decide) ?_
      refine g_irem (pc := 101) (x := l9) (y := 7) C dL_discards_101 (by decide) ?_
      refine g_if_le (pc := 102) (tgt := 119) (x := (l9 - l9 / 7 * 7)) hf C dL_discards_102 (by decide) (fun hf => ?_) (fun hf => ?_)
      · refine g_iconst (pc := 119) (v := 0) C dL_discards_119 (by decide) ?_
        refine g_isub (pc := 120) (x := (gp (Int32.toNatClampNeg l9))) (y := 0) C dL_discards_120 ?_
        refine g_iast (pc := 121) (i := l9) (x := ((gp (Int32.toNatClampNeg l9)) - 0)) hf C 74 rfl dL_discards_121 (ws' := (wG (kD k) rG (aS 0) rV rN (aT 0)  ++ (wS (kD k) aS v ++ (wT (kD k) aT tx ++ (wV (kD k) rV aV z ++ (wA10 (kD k) ql gl ++ (wA10 (kD k) qe ge ++ (wA10 (kD k) qw gw ++ (wA10 (kD k) qh gh ++ (wA10 (kD k) qt gt ++ (wA9 (kD k) qn gn ++ (wA21 (kD k) qp (upd gp (Int32.toNatClampNeg l9) ((gp (Int32.toNatClampNeg l9)) - 0)))))))))))))) rfl (fun hf => ?_)
        refine g_iinc (pc := 122) (x := l9) (v := (l9 + 1)) (lv' := [(9, .int (l9 + 1)), (0, .ref rG), (6, .ref qn), (7, .ref qp), (8, .int l8)]) C dL_discards_122 rfl rfl (by decide) rfl ?_
        refine g_goto (pc := 125) (tgt := 84) C dL_discards_125 (by decide) ?_
        refine g_lv [1, 2, 3, 4, 0] (lv' := [(0, .ref rG), (6, .ref qn), (7, .ref qp), (8, .int l8), (9, .int (l9 + 1))]) rfl ?_
        exact ih (upd gp (Int32.toNatClampNeg l9) ((gp (Int32.toNatClampNeg l9)) - 0)) (l9 + 1) u hf hk0
      · refine g_aload (pc := 105) (x := qp) C dL_discards_105 rfl ?_
        refine g_iload (pc := 107) (x := l9) C dL_discards_107 rfl ?_
        refine g_iald (pc := 109) (i := l9) hf C 74 rfl dL_discards_109 (fun hf => ?_)
        refine g_iload (pc := 110) (x := l8) C dL_discards_110 rfl ?_
        refine g_icmp_le (pc := 112) (tgt := 119) (x := (gp (Int32.toNatClampNeg l9))) (y := l8) hf C dL_discards_112 (by decide) (fun hf => ?_) (fun hf => ?_)
        · refine g_iconst (pc := 119) (v := 0) C dL_discards_119 (by decide) ?_
          refine g_isub (pc := 120) (x := (gp (Int32.toNatClampNeg l9))) (y := 0) C dL_discards_120 ?_
          refine g_iast (pc := 121) (i := l9) (x := ((gp (Int32.toNatClampNeg l9)) - 0)) hf C 74 rfl dL_discards_121 (ws' := (wG (kD k) rG (aS 0) rV rN (aT 0)  ++ (wS (kD k) aS v ++ (wT (kD k) aT tx ++ (wV (kD k) rV aV z ++ (wA10 (kD k) ql gl ++ (wA10 (kD k) qe ge ++ (wA10 (kD k) qw gw ++ (wA10 (kD k) qh gh ++ (wA10 (kD k) qt gt ++ (wA9 (kD k) qn gn ++ (wA21 (kD k) qp (upd gp (Int32.toNatClampNeg l9) ((gp (Int32.toNatClampNeg l9)) - 0)))))))))))))) rfl (fun hf => ?_)
          refine g_iinc (pc := 122) (x := l9) (v := (l9 + 1)) (lv' := [(9, .int (l9 + 1)), (0, .ref rG), (6, .ref qn), (7, .ref qp), (8, .int l8)]) C dL_discards_122 rfl rfl (by decide) rfl ?_
          refine g_goto (pc := 125) (tgt := 84) C dL_discards_125 (by decide) ?_
          refine g_lv [1, 2, 3, 4, 0] (lv' := [(0, .ref rG), (6, .ref qn), (7, .ref qp), (8, .int l8), (9, .int (l9 + 1))]) rfl ?_
          exact ih (upd gp (Int32.toNatClampNeg l9) ((gp (Int32.toNatClampNeg l9)) - 0)) (l9 + 1) u hf hk0
        · refine g_iconst (pc := 115) (v := 1) C dL_discards_115 (by decide) ?_
          refine g_goto (pc := 116) (tgt := 120) C dL_discards_116 (by decide) ?_
          refine g_isub (pc := 120) (x := (gp (Int32.toNatClampNeg l9))) (y := 1) C dL_discards_120 ?_
          refine g_iast (pc := 121) (i := l9) (x := ((gp (Int32.toNatClampNeg l9)) - 1)) hf C 74 rfl dL_discards_121 (ws' := (wG (kD k) rG (aS 0) rV rN (aT 0)  ++ (wS (kD k) aS v ++ (wT (kD k) aT tx ++ (wV (kD k) rV aV z ++ (wA10 (kD k) ql gl ++ (wA10 (kD k) qe ge ++ (wA10 (kD k) qw gw ++ (wA10 (kD k) qh gh ++ (wA10 (kD k) qt gt ++ (wA9 (kD k) qn gn ++ (wA21 (kD k) qp (upd gp (Int32.toNatClampNeg l9) ((gp (Int32.toNatClampNeg l9)) - 1)))))))))))))) rfl (fun hf => ?_)
          refine g_iinc (pc := 122) (x := l9) (v := (l9 + 1)) (lv' := [(9, .int (l9 + 1)), (0, .ref rG), (6, .ref qn), (7, .ref qp), (8, .int l8)]) C dL_discards_122 rfl rfl (by decide) rfl ?_
          refine g_goto (pc := 125) (tgt := 84) C dL_discards_125 (by decide) ?_
          refine g_lv [1, 2, 3, 4, 0] (lv' := [(0, .ref rG), (6, .ref qn), (7, .ref qp), (8, .int l8), (9, .int (l9 + 1))]) rfl ?_
          exact ih (upd gp (Int32.toNatClampNeg l9) ((gp (Int32.toNatClampNeg l9)) - 1)) (l9 + 1) u hf hk0
def fL_discards (N : Nat) (v : VS) (tx : VT) (z : VV) (gl : (Nat → Int32)) (ge : (Nat → Int32)) (gw : (Nat → Int32)) (gh : (Nat → Int32)) (gt : (Nat → Int32)) (gn : (Nat → Int32)) (gp : (Nat → Int32)) (p8 : Int32) : Option (VS × VV × (Nat → Int32) × (Nat → Int32) × (Nat → Int32) × (Nat → Int32) × (Nat → Int32) × (Nat → Int32) × (Nat → Int32) × Bool) := ck 8 9 ((if (gn (Int32.toNatClampNeg 8)) ≤ p8 then ((fX4_count N v tx z 0).bind fun r1 => ck 8 9 ((if r1 = (gn (Int32.toNatClampNeg 8)) then some (v, z, gl, ge, gw, gh, gt, gn, gp, true) else none))) else ((fL_where N gp p8).bind fun r2 => (if r2 = ((-1) : Int32) then ((fL_moves N gl p8).bind fun r3 => ((fL_moves N ge p8).bind fun r4 => ((fL_moves N gw p8).bind fun r5 => ((fL_moves N gh p8).bind fun r6 => ((fL_moves N gt p8).bind fun r7 => ck 8 9 (ck 8 9 (((lL_discards_84 N v tx z r3 r4 r5 r6 r7 (upd gn (Int32.toNatClampNeg 8) ((gn (Int32.toNatClampNeg 8)) - 1)) p8 N gp 0).bind fun r8 => ((fX4_discard N v z p8).bind fun r9 => ck 8 9 ((if r9.2.2 = ((upd gn (Int32.toNatClampNeg 8) ((gn (Int32.toNatClampNeg 8)) - 1)) (Int32.toNatClampNeg 8)) then some (r9.1, r9.2.1, r3, r4, r5, r6, r7, (upd gn (Int32.toNatClampNeg 8) ((gn (Int32.toNatClampNeg 8)) - 1)), r8, true) else none))))))))))) else ((fX4_count N v tx z 0).bind fun r10 => ck 8 9 ((if r10 = (gn (Int32.toNatClampNeg 8)) then some (v, z, gl, ge, gw, gh, gt, gn, gp, true) else none)))))))
set_option maxRecDepth 100000 in
set_option maxHeartbeats 4000000 in
theorem wkL_discards {k : Kt} (C : gC k cL_discards 10 RL wsL_discards rmL_discards "discards") (N : Nat) (rG : Nat) (rN : Nat) (aS : Nat → Nat) (aT : Nat → Nat) (rV : Nat) (aV : Nat → Nat) (ql : Nat) (qe : Nat) (qw : Nat) (qh : Nat) (qt : Nat) (qn : Nat) (qp : Nat) (v : VS) (tx : VT) (z : VV) (gl : (Nat → Int32)) (ge : (Nat → Int32)) (gw : (Nat → Int32)) (gh : (Nat → Int32)) (gt : (Nat → Int32)) (gn : (Nat → Int32)) (gp : (Nat → Int32)) (p8 : Int32) (r : VS × VV × (Nat → Int32) × (Nat → Int32) × (Nat → Int32) × (Nat → Int32) × (Nat → Int32) × (Nat → Int32) × (Nat → Int32) × Bool) (hf : fL_discards N v tx z gl ge gw gh gt gn gp p8 = some r) (E : gE k (wG (kD k) rG (aS 0) rV rN (aT 0) ++ (wS (kD k) aS v ++ (wT (kD k) aT tx ++ (wV (kD k) rV aV z ++ (wA10 (kD k) ql gl ++ (wA10 (kD k) qe ge ++ (wA10 (kD k) qw gw ++ (wA10 (kD k) qh gh ++ (wA10 (kD k) qt gt ++ (wA9 (kD k) qn gn ++ (wA21 (kD k) qp gp))))))))))) (fun rv w => rv = some (.int (b2i r.2.2.2.2.2.2.2.2.2)) ∧ ∃ a : Nat → Nat, w = (wG (kD k) rG (aS 0) rV rN (aT 0) ++ (wS (kD k) aS r.1 ++ (wT (kD k) aT tx ++ (wV (kD k) rV a r.2.1 ++ (wA10 (kD k) ql r.2.2.1 ++ (wA10 (kD k) qe r.2.2.2.1 ++ (wA10 (kD k) qw r.2.2.2.2.1 ++ (wA10 (kD k) qh r.2.2.2.2.2.1 ++ (wA10 (kD k) qt r.2.2.2.2.2.2.1 ++ (wA9 (kD k) qn r.2.2.2.2.2.2.2.1 ++ (wA21 (kD k) qp r.2.2.2.2.2.2.2.2.1)))))))))))) (fun _ _ => False) 0 0 (some .boolean) []) : gG k (wG (kD k) rG (aS 0) rV rN (aT 0) ++ (wS (kD k) aS v ++ (wT (kD k) aT tx ++ (wV (kD k) rV aV z ++ (wA10 (kD k) ql gl ++ (wA10 (kD k) qe ge ++ (wA10 (kD k) qw gw ++ (wA10 (kD k) qh gh ++ (wA10 (kD k) qt gt ++ (wA9 (kD k) qn gn ++ (wA21 (kD k) qp gp))))))))))) [(0, .ref rG), (1, .ref ql), (2, .ref qe), (3, .ref qw), (4, .ref qh), (5, .ref qt), (6, .ref qn), (7, .ref qp), (8, .int p8)] 0 0 0 [] := by
  unfold fL_discards at hf
  refine g_iload (pc := 0) (x := p8) C dL_discards_0 rfl ?_
  refine g_aload (pc := 2) (x := qn) C dL_discards_2 rfl ?_
  refine g_bipush (pc := 4) (v := 8) C dL_discards_4 (by decide) ?_
  refine g_iald (pc := 6) (i := 8) hf C 73 rfl dL_discards_6 (fun hf => ?_)
  refine g_icmp_ge (pc := 7) (tgt := 21) (x := p8) (y := (gn (Int32.toNatClampNeg 8))) hf C dL_discards_7 (by decide) (fun hf => ?_) (fun hf => ?_)
  · refine g_aload_n (pc := 21) (x := rG) C dL_discards_21 rfl ?_
    refine g_iconst (pc := 22) (v := 0) C dL_discards_22 (by decide) ?_
    refine g_callWA (wr := wA10 (kD k) ql gl ++ (wA10 (kD k) qe ge ++ (wA10 (kD k) qw gw ++ (wA10 (kD k) qh gh ++ (wA10 (kD k) qt gt ++ (wA9 (kD k) qn gn ++ (wA21 (kD k) qp gp))))))) (pc' := 26) (cs' := 0) (sl' := 0) hf C (fun u => some (.int u)) (fun u => (wG (kD k) rG (aS 0) rV rN (aT 0) ++ (wS (kD k) aS v ++ (wT (kD k) aT tx ++ (wV (kD k) rV aV z))))) ((List.Perm.refl _).trans as4) (fun u hu => gr_V (rest := []) C (cX4_count_ (kL k) C.tr (kD k) N rG rN aS aT rV aV v tx z 0 u hu) (fun ht => cwV 1 ht gL_discards_X4_count rfl rfl rfl hdX4_count ⟨(Nat.le_of_ble_eq_true rfl), (Nat.le_of_ble_eq_true rfl)⟩) 0 rfl rfl _ (rg_map _ _) (rg_nd _) rfl rfl (Nat.le_of_ble_eq_true rfl) dL_discards_23 ⟨(Nat.le_of_ble_eq_true rfl), (Nat.le_of_ble_eq_true rfl)⟩) (ws' := fun u => (wG (kD k) rG (aS 0) rV rN (aT 0)  ++ (wS (kD k) aS v ++ (wT (kD k) aT tx ++ (wV (kD k) rV aV z ++ (wA10 (kD k) ql gl ++ (wA10 (kD k) qe ge ++ (wA10 (kD k) qw gw ++ (wA10 (kD k) qh gh ++ (wA10 (kD k) qt gt ++ (wA9 (kD k) qn gn ++ (wA21 (kD k) qp gp)))))))))))) (fun u => (as4.symm.trans (List.Perm.refl _))) rfl rfl rfl (fun u => [.int u]) (fun u => rfl) (fun r1 hf => ?_)
    refine g_aload (pc := 26) (x := qn) C dL_discards_26 rfl ?_
    refine g_bipush (pc := 28) (v := 8) C dL_discards_28 (by decide) ?_
    refine g_iald (pc := 30) (i := 8) hf C 73 rfl dL_discards_30 (fun hf => ?_)
    refine g_icmp_ne (pc := 31) (tgt := 38) (x := r1) (y := (gn (Int32.toNatClampNeg 8))) hf C dL_discards_31 (by decide) (fun hf => ?_) (fun hf => ?_)
    · cases hf
    · refine g_iconst (pc := 34) (v := 1) C dL_discards_34 (by decide) ?_
      refine g_goto (pc := 35) (tgt := 39) C dL_discards_35 (by decide) ?_
      obtain rfl := Option.some.inj hf
      exact g_bret (b := true) C E dL_discards_39 (Nat.le_of_ble_eq_true rfl) (Nat.le_of_ble_eq_true rfl) ⟨rfl, _, rfl⟩
  · refine g_aload (pc := 10) (x := qp) C dL_discards_10 rfl ?_
    refine g_iload (pc := 12) (x := p8) C dL_discards_12 rfl ?_
    refine g_callWA (wr := wG (kD k) rG (aS 0) rV rN (aT 0)  ++ (wS (kD k) aS v ++ (wT (kD k) aT tx ++ (wV (kD k) rV aV z ++ (wA10 (kD k) ql gl ++ (wA10 (kD k) qe ge ++ (wA10 (kD k) qw gw ++ (wA10 (kD k) qh gh ++ (wA10 (kD k) qt gt ++ (wA9 (kD k) qn gn)))))))))) (pc' := 17) (cs' := 0) (sl' := 0) hf C (fun u => some (.int u)) (fun u => (wA21 (kD k) qp gp)) (pm0 (pm0 (pm0 (pm0 (pm0 (pm0 (pm0 (pm0 (pm0 pmL))))))))) (fun u hu => gr_S (rest := []) C (cL_where_ (kL k) C.tr (kD k) N qp gp p8 u hu) (fun ht => va_cwS 2 ht gL_discards_L_where rfl rfl rfl hsL_where ⟨(Nat.le_of_ble_eq_true rfl), (Nat.le_of_ble_eq_true rfl)⟩) _ (rg_map _ _) (rg_nd _) rfl rfl (Nat.le_of_ble_eq_true rfl) dL_discards_14 ⟨(Nat.le_of_ble_eq_true rfl), (Nat.le_of_ble_eq_true rfl)⟩) (ws' := fun u => (wG (kD k) rG (aS 0) rV rN (aT 0)  ++ (wS (kD k) aS v ++ (wT (kD k) aT tx ++ (wV (kD k) rV aV z ++ (wA10 (kD k) ql gl ++ (wA10 (kD k) qe ge ++ (wA10 (kD k) qw gw ++ (wA10 (kD k) qh gh ++ (wA10 (kD k) qt gt ++ (wA9 (kD k) qn gn ++ (wA21 (kD k) qp gp)))))))))))) (fun u => ((pm0 (List.Perm.refl _)).trans (pmc ((pm0 (List.Perm.refl _)).trans (pmc ((pm0 (List.Perm.refl _)).trans (pmc ((pm0 (List.Perm.refl _)).trans (pmc ((pm0 (List.Perm.refl _)).trans (pmc ((pm0 (List.Perm.refl _)).trans (pmc ((pm0 (List.Perm.refl _)).trans (pmc ((pm0 (List.Perm.refl _)).trans (pmc ((pm0 (List.Perm.refl _)).trans (pmc pmL))))))))))))))))))) rfl rfl rfl (fun u => [.int u]) (fun u => rfl) (fun r2 hf => ?_)
    refine g_iconst (pc := 17) (v := (-1)) C dL_discards_17 (by decide) ?_
    refine g_icmp_eq (pc := 18) (tgt := 40) (x := r2) (y := (-1)) hf C dL_discards_18 (by decide) (fun hf => ?_) (fun hf => ?_)
    · refine g_aload_n (pc := 40) (x := ql) C dL_discards_40 rfl ?_
      refine g_iload (pc := 41) (x := p8) C dL_discards_41 rfl ?_
      refine g_callWA (wr := wG (kD k) rG (aS 0) rV rN (aT 0)  ++ (wS (kD k) aS v ++ (wT (kD k) aT tx ++ (wV (kD k) rV aV z ++ (wA10 (kD k) qe ge ++ (wA10 (kD k) qw gw ++ (wA10 (kD k) qh gh ++ (wA10 (kD k) qt gt ++ (wA9 (kD k) qn gn ++ (wA21 (kD k) qp gp)))))))))) (pc' := 46) (cs' := 0) (sl' := 0) hf C (fun u => none) (fun u => (wA10 (kD k) ql u)) (pm0 (pm0 (pm0 (pm0 (List.Perm.refl _))))) (fun u hu => gr_S (rest := []) C (cL_moves_ (kL k) C.tr (kD k) N ql gl p8 u hu) (fun ht => va_cwS 2 ht gL_discards_L_moves rfl rfl rfl hsL_moves ⟨(Nat.le_of_ble_eq_true rfl), (Nat.le_of_ble_eq_true rfl)⟩) _ (rg_map _ _) (rg_nd _) rfl rfl (Nat.le_of_ble_eq_true rfl) dL_discards_43 ⟨(Nat.le_of_ble_eq_true rfl), (Nat.le_of_ble_eq_true rfl)⟩) (ws' := fun u => (wG (kD k) rG (aS 0) rV rN (aT 0)  ++ (wS (kD k) aS v ++ (wT (kD k) aT tx ++ (wV (kD k) rV aV z ++ (wA10 (kD k) ql u ++ (wA10 (kD k) qe ge ++ (wA10 (kD k) qw gw ++ (wA10 (kD k) qh gh ++ (wA10 (kD k) qt gt ++ (wA9 (kD k) qn gn ++ (wA21 (kD k) qp gp)))))))))))) (fun u => ((pm0 (List.Perm.refl _)).trans (pmc ((pm0 (List.Perm.refl _)).trans (pmc ((pm0 (List.Perm.refl _)).trans (pmc (pm0 (List.Perm.refl _))))))))) rfl rfl rfl (fun u => []) (fun u => rfl) (fun r3 hf => ?_)
      refine g_aload_n (pc := 46) (x := qe) C dL_discards_46 rfl ?_
      refine g_iload (pc := 47) (x := p8) C dL_discards_47 rfl ?_
      refine g_callWA (wr := wG (kD k) rG (aS 0) rV rN (aT 0)  ++ (wS (kD k) aS v ++ (wT (kD k) aT tx ++ (wV (kD k) rV aV z ++ (wA10 (kD k) ql r3 ++ (wA10 (kD k) qw gw ++ (wA10 (kD k) qh gh ++ (wA10 (kD k) qt gt ++ (wA9 (kD k) qn gn ++ (wA21 (kD k) qp gp)))))))))) (pc' := 52) (cs' := 0) (sl' := 0) hf C (fun u => none) (fun u => (wA10 (kD k) qe u)) (pm0 (pm0 (pm0 (pm0 (pm0 (List.Perm.refl _)))))) (fun u hu => gr_S (rest := []) C (cL_moves_ (kL k) C.tr (kD k) N qe ge p8 u hu) (fun ht => va_cwS 2 ht gL_discards_L_moves rfl rfl rfl hsL_moves ⟨(Nat.le_of_ble_eq_true rfl), (Nat.le_of_ble_eq_true rfl)⟩) _ (rg_map _ _) (rg_nd _) rfl rfl (Nat.le_of_ble_eq_true rfl) dL_discards_49 ⟨(Nat.le_of_ble_eq_true rfl), (Nat.le_of_ble_eq_true rfl)⟩) (ws' := fun u => (wG (kD k) rG (aS 0) rV rN (aT 0)  ++ (wS (kD k) aS v ++ (wT (kD k) aT tx ++ (wV (kD k) rV aV z ++ (wA10 (kD k) ql r3 ++ (wA10 (kD k) qe u ++ (wA10 (kD k) qw gw ++ (wA10 (kD k) qh gh ++ (wA10 (kD k) qt gt ++ (wA9 (kD k) qn gn ++ (wA21 (kD k) qp gp)))))))))))) (fun u => ((pm0 (List.Perm.refl _)).trans (pmc ((pm0 (List.Perm.refl _)).trans (pmc ((pm0 (List.Perm.refl _)).trans (pmc ((pm0 (List.Perm.refl _)).trans (pmc (pm0 (List.Perm.refl _))))))))))) rfl rfl rfl (fun u => []) (fun u => rfl) (fun r4 hf => ?_)
      refine g_aload_n (pc := 52) (x := qw) C dL_discards_52 rfl ?_
      refine g_iload (pc := 53) (x := p8) C dL_discards_53 rfl ?_
      refine g_callWA (wr := wG (kD k) rG (aS 0) rV rN (aT 0)  ++ (wS (kD k) aS v ++ (wT (kD k) aT tx ++ (wV (kD k) rV aV z ++ (wA10 (kD k) ql r3 ++ (wA10 (kD k) qe r4 ++ (wA10 (kD k) qh gh ++ (wA10 (kD k) qt gt ++ (wA9 (kD k) qn gn ++ (wA21 (kD k) qp gp)))))))))) (pc' := 58) (cs' := 0) (sl' := 0) hf C (fun u => none) (fun u => (wA10 (kD k) qw u)) (pm0 (pm0 (pm0 (pm0 (pm0 (pm0 (List.Perm.refl _))))))) (fun u hu => gr_S (rest := []) C (cL_moves_ (kL k) C.tr (kD k) N qw gw p8 u hu) (fun ht => va_cwS 2 ht gL_discards_L_moves rfl rfl rfl hsL_moves ⟨(Nat.le_of_ble_eq_true rfl), (Nat.le_of_ble_eq_true rfl)⟩) _ (rg_map _ _) (rg_nd _) rfl rfl (Nat.le_of_ble_eq_true rfl) dL_discards_55 ⟨(Nat.le_of_ble_eq_true rfl), (Nat.le_of_ble_eq_true rfl)⟩) (ws' := fun u => (wG (kD k) rG (aS 0) rV rN (aT 0)  ++ (wS (kD k) aS v ++ (wT (kD k) aT tx ++ (wV (kD k) rV aV z ++ (wA10 (kD k) ql r3 ++ (wA10 (kD k) qe r4 ++ (wA10 (kD k) qw u ++ (wA10 (kD k) qh gh ++ (wA10 (kD k) qt gt ++ (wA9 (kD k) qn gn ++ (wA21 (kD k) qp gp)))))))))))) (fun u => ((pm0 (List.Perm.refl _)).trans (pmc ((pm0 (List.Perm.refl _)).trans (pmc ((pm0 (List.Perm.refl _)).trans (pmc ((pm0 (List.Perm.refl _)).trans (pmc ((pm0 (List.Perm.refl _)).trans (pmc (pm0 (List.Perm.refl _))))))))))))) rfl rfl rfl (fun u => []) (fun u => rfl) (fun r5 hf => ?_)
      refine g_aload (pc := 58) (x := qh) C dL_discards_58 rfl ?_
      refine g_iload (pc := 60) (x := p8) C dL_discards_60 rfl ?_
      refine g_callWA (wr := wG (kD k) rG (aS 0) rV rN (aT 0)  ++ (wS (kD k) aS v ++ (wT (kD k) aT tx ++ (wV (kD k) rV aV z ++ (wA10 (kD k) ql r3 ++ (wA10 (kD k) qe r4 ++ (wA10 (kD k) qw r5 ++ (wA10 (kD k) qt gt ++ (wA9 (kD k) qn gn ++ (wA21 (kD k) qp gp)))))))))) (pc' := 65) (cs' := 0) (sl' := 0) hf C (fun u => none) (fun u => (wA10 (kD k) qh u)) (pm0 (pm0 (pm0 (pm0 (pm0 (pm0 (pm0 (List.Perm.refl _)))))))) (fun u hu => gr_S (rest := []) C (cL_moves_ (kL k) C.tr (kD k) N qh gh p8 u hu) (fun ht => va_cwS 2 ht gL_discards_L_moves rfl rfl rfl hsL_moves ⟨(Nat.le_of_ble_eq_true rfl), (Nat.le_of_ble_eq_true rfl)⟩) _ (rg_map _ _) (rg_nd _) rfl rfl (Nat.le_of_ble_eq_true rfl) dL_discards_62 ⟨(Nat.le_of_ble_eq_true rfl), (Nat.le_of_ble_eq_true rfl)⟩) (ws' := fun u => (wG (kD k) rG (aS 0) rV rN (aT 0)  ++ (wS (kD k) aS v ++ (wT (kD k) aT tx ++ (wV (kD k) rV aV z ++ (wA10 (kD k) ql r3 ++ (wA10 (kD k) qe r4 ++ (wA10 (kD k) qw r5 ++ (wA10 (kD k) qh u ++ (wA10 (kD k) qt gt ++ (wA9 (kD k) qn gn ++ (wA21 (kD k) qp gp)))))))))))) (fun u => ((pm0 (List.Perm.refl _)).trans (pmc ((pm0 (List.Perm.refl _)).trans (pmc ((pm0 (List.Perm.refl _)).trans (pmc ((pm0 (List.Perm.refl _)).trans (pmc ((pm0 (List.Perm.refl _)).trans (pmc ((pm0 (List.Perm.refl _)).trans (pmc (pm0 (List.Perm.refl _))))))))))))))) rfl rfl rfl (fun u => []) (fun u => rfl) (fun r6 hf => ?_)
      refine g_aload (pc := 65) (x := qt) C dL_discards_65 rfl ?_
      refine g_iload (pc := 67) (x := p8) C dL_discards_67 rfl ?_
      refine g_callWA (wr := wG (kD k) rG (aS 0) rV rN (aT 0)  ++ (wS (kD k) aS v ++ (wT (kD k) aT tx ++ (wV (kD k) rV aV z ++ (wA10 (kD k) ql r3 ++ (wA10 (kD k) qe r4 ++ (wA10 (kD k) qw r5 ++ (wA10 (kD k) qh r6 ++ (wA9 (kD k) qn gn ++ (wA21 (kD k) qp gp)))))))))) (pc' := 72) (cs' := 0) (sl' := 0) hf C (fun u => none) (fun u => (wA10 (kD k) qt u)) (pm0 (pm0 (pm0 (pm0 (pm0 (pm0 (pm0 (pm0 (List.Perm.refl _))))))))) (fun u hu => gr_S (rest := []) C (cL_moves_ (kL k) C.tr (kD k) N qt gt p8 u hu) (fun ht => va_cwS 2 ht gL_discards_L_moves rfl rfl rfl hsL_moves ⟨(Nat.le_of_ble_eq_true rfl), (Nat.le_of_ble_eq_true rfl)⟩) _ (rg_map _ _) (rg_nd _) rfl rfl (Nat.le_of_ble_eq_true rfl) dL_discards_69 ⟨(Nat.le_of_ble_eq_true rfl), (Nat.le_of_ble_eq_true rfl)⟩) (ws' := fun u => (wG (kD k) rG (aS 0) rV rN (aT 0)  ++ (wS (kD k) aS v ++ (wT (kD k) aT tx ++ (wV (kD k) rV aV z ++ (wA10 (kD k) ql r3 ++ (wA10 (kD k) qe r4 ++ (wA10 (kD k) qw r5 ++ (wA10 (kD k) qh r6 ++ (wA10 (kD k) qt u ++ (wA9 (kD k) qn gn ++ (wA21 (kD k) qp gp)))))))))))) (fun u => ((pm0 (List.Perm.refl _)).trans (pmc ((pm0 (List.Perm.refl _)).trans (pmc ((pm0 (List.Perm.refl _)).trans (pmc ((pm0 (List.Perm.refl _)).trans (pmc ((pm0 (List.Perm.refl _)).trans (pmc ((pm0 (List.Perm.refl _)).trans (pmc ((pm0 (List.Perm.refl _)).trans (pmc (pm0 (List.Perm.refl _))))))))))))))))) rfl rfl rfl (fun u => []) (fun u => rfl) (fun r7 hf => ?_)
      refine g_aload (pc := 72) (x := qn) C dL_discards_72 rfl ?_
      refine g_bipush (pc := 74) (v := 8) C dL_discards_74 (by decide) ?_
      refine g_dup2 (pc := 76) C dL_discards_76 rfl rfl ?_
      refine g_iald (pc := 77) (i := 8) hf C 73 rfl dL_discards_77 (fun hf => ?_)
      refine g_iconst (pc := 78) (v := 1) C dL_discards_78 (by decide) ?_
      refine g_isub (pc := 79) (x := (gn (Int32.toNatClampNeg 8))) (y := 1) C dL_discards_79 ?_
      refine g_iast (pc := 80) (i := 8) (x := ((gn (Int32.toNatClampNeg 8)) - 1)) hf C 73 rfl dL_discards_80 (ws' := (wG (kD k) rG (aS 0) rV rN (aT 0)  ++ (wS (kD k) aS v ++ (wT (kD k) aT tx ++ (wV (kD k) rV aV z ++ (wA10 (kD k) ql r3 ++ (wA10 (kD k) qe r4 ++ (wA10 (kD k) qw r5 ++ (wA10 (kD k) qh r6 ++ (wA10 (kD k) qt r7 ++ (wA9 (kD k) qn (upd gn (Int32.toNatClampNeg 8) ((gn (Int32.toNatClampNeg 8)) - 1)) ++ (wA21 (kD k) qp gp)))))))))))) rfl (fun hf => ?_)
      refine g_iconst (pc := 81) (v := 0) C dL_discards_81 (by decide) ?_
      refine g_istore (pc := 82) (lv' := [(9, .int 0), (0, .ref rG), (1, .ref ql), (2, .ref qe), (3, .ref qw), (4, .ref qh), (5, .ref qt), (6, .ref qn), (7, .ref qp), (8, .int p8)]) C dL_discards_82 (by decide) rfl ?_
      obtain ⟨r8, h8, hf⟩ := bd_e hf
      refine g_lv [1, 7, 8, 9, 0] (lv' := [(0, .ref rG), (6, .ref qn), (7, .ref qp), (8, .int p8), (9, .int 0)]) rfl ?_
      refine wlL_discards_84 C N rG rN aS aT rV aV ql qe qw qh qt qn qp v tx z r3 r4 r5 r6 r7 (upd gn (Int32.toNatClampNeg 8) ((gn (Int32.toNatClampNeg 8)) - 1)) p8 N gp 0 r8 h8 ?_
      refine g_aload_n (pc := 128) (x := rG) C dL_discards_128 rfl ?_
      refine g_iload (pc := 129) (x := p8) C dL_discards_129 rfl ?_
      refine g_callPA (wr := wT (kD k) aT tx ++ (wA10 (kD k) ql r3 ++ (wA10 (kD k) qe r4 ++ (wA10 (kD k) qw r5 ++ (wA10 (kD k) qh r6 ++ (wA10 (kD k) qt r7 ++ (wA9 (kD k) qn (upd gn (Int32.toNatClampNeg 8) ((gn (Int32.toNatClampNeg 8)) - 1)) ++ (wA21 (kD k) qp r8)))))))) (pc' := 134) (cs' := 0) (sl' := 0) hf C (fun u => some (.int u.2.2)) (fun u a => (wG (kD k) rG (aS 0) rV rN (aT 0) ++ (wS (kD k) aS u.1 ++ (wV (kD k) rV a u.2.1)))) ((pmc (pmc (pm0 (List.Perm.refl _)))).trans as3) (fun u hu => gr_V (rest := []) C (cX4_discard_ (kL k) C.tr (kD k) N rG rN (aT 0) aS rV aV v z p8 u hu) (fun ht => cwV 1 ht gL_discards_X4_discard rfl rfl rfl hdX4_discard ⟨(Nat.le_of_ble_eq_true rfl), (Nat.le_of_ble_eq_true rfl)⟩) 0 rfl rfl _ (rg_map _ _) (rg_nd _) rfl rfl (Nat.le_of_ble_eq_true rfl) dL_discards_131 ⟨(Nat.le_of_ble_eq_true rfl), (Nat.le_of_ble_eq_true rfl)⟩) (ws' := fun u a => (wG (kD k) rG (aS 0) rV rN (aT 0)  ++ (wS (kD k) aS u.1 ++ (wT (kD k) aT tx ++ (wV (kD k) rV a u.2.1 ++ (wA10 (kD k) ql r3 ++ (wA10 (kD k) qe r4 ++ (wA10 (kD k) qw r5 ++ (wA10 (kD k) qh r6 ++ (wA10 (kD k) qt r7 ++ (wA9 (kD k) qn (upd gn (Int32.toNatClampNeg 8) ((gn (Int32.toNatClampNeg 8)) - 1)) ++ (wA21 (kD k) qp r8)))))))))))) (fun u a => (as3.symm.trans (pmc (pmc (pm0 (List.Perm.refl _)))))) rfl rfl rfl (fun u => [.int u.2.2]) (fun u => rfl) (fun r9 aV9 hf => ?_)
      refine g_aload (pc := 134) (x := qn) C dL_discards_134 rfl ?_
      refine g_bipush (pc := 136) (v := 8) C dL_discards_136 (by decide) ?_
      refine g_iald (pc := 138) (i := 8) hf C 73 rfl dL_discards_138 (fun hf => ?_)
      refine g_icmp_ne (pc := 139) (tgt := 146) (x := r9.2.2) (y := ((upd gn (Int32.toNatClampNeg 8) ((gn (Int32.toNatClampNeg 8)) - 1)) (Int32.toNatClampNeg 8))) hf C dL_discards_139 (by decide) (fun hf => ?_) (fun hf => ?_)
      · cases hf
      · refine g_iconst (pc := 142) (v := 1) C dL_discards_142 (by decide) ?_
        refine g_goto (pc := 143) (tgt := 147) C dL_discards_143 (by decide) ?_
        obtain rfl := Option.some.inj hf
        exact g_bret (b := true) C E dL_discards_147 (Nat.le_of_ble_eq_true rfl) (Nat.le_of_ble_eq_true rfl) ⟨rfl, _, rfl⟩
    · refine g_aload_n (pc := 21) (x := rG) C dL_discards_21 rfl ?_
      refine g_iconst (pc := 22) (v := 0) C dL_discards_22 (by decide) ?_
      refine g_callWA (wr := wA10 (kD k) ql gl ++ (wA10 (kD k) qe ge ++ (wA10 (kD k) qw gw ++ (wA10 (kD k) qh gh ++ (wA10 (kD k) qt gt ++ (wA9 (kD k) qn gn ++ (wA21 (kD k) qp gp))))))) (pc' := 26) (cs' := 0) (sl' := 0) hf C (fun u => some (.int u)) (fun u => (wG (kD k) rG (aS 0) rV rN (aT 0) ++ (wS (kD k) aS v ++ (wT (kD k) aT tx ++ (wV (kD k) rV aV z))))) ((List.Perm.refl _).trans as4) (fun u hu => gr_V (rest := []) C (cX4_count_ (kL k) C.tr (kD k) N rG rN aS aT rV aV v tx z 0 u hu) (fun ht => cwV 1 ht gL_discards_X4_count rfl rfl rfl hdX4_count ⟨(Nat.le_of_ble_eq_true rfl), (Nat.le_of_ble_eq_true rfl)⟩) 0 rfl rfl _ (rg_map _ _) (rg_nd _) rfl rfl (Nat.le_of_ble_eq_true rfl) dL_discards_23 ⟨(Nat.le_of_ble_eq_true rfl), (Nat.le_of_ble_eq_true rfl)⟩) (ws' := fun u => (wG (kD k) rG (aS 0) rV rN (aT 0)  ++ (wS (kD k) aS v ++ (wT (kD k) aT tx ++ (wV (kD k) rV aV z ++ (wA10 (kD k) ql gl ++ (wA10 (kD k) qe ge ++ (wA10 (kD k) qw gw ++ (wA10 (kD k) qh gh ++ (wA10 (kD k) qt gt ++ (wA9 (kD k) qn gn ++ (wA21 (kD k) qp gp)))))))))))) (fun u => (as4.symm.trans (List.Perm.refl _))) rfl rfl rfl (fun u => [.int u]) (fun u => rfl) (fun r10 hf => ?_)
      refine g_aload (pc := 26) (x := qn) C dL_discards_26 rfl ?_
      refine g_bipush (pc := 28) (v := 8) C dL_discards_28 (by decide) ?_
      refine g_iald (pc := 30) (i := 8) hf C 73 rfl dL_discards_30 (fun hf => ?_)
      refine g_icmp_ne (pc := 31) (tgt := 38) (x := r10) (y := (gn (Int32.toNatClampNeg 8))) hf C dL_discards_31 (by decide) (fun hf => ?_) (fun hf => ?_)
      · cases hf
      · refine g_iconst (pc := 34) (v := 1) C dL_discards_34 (by decide) ?_
        refine g_goto (pc := 35) (tgt := 39) C dL_discards_35 (by decide) ?_
        obtain rfl := Option.some.inj hf
        exact g_bret (b := true) C E dL_discards_39 (Nat.le_of_ble_eq_true rfl) (Nat.le_of_ble_eq_true rfl) ⟨rfl, _, rfl⟩
set_option maxRecDepth 100000 in
set_option maxHeartbeats 4000000 in
theorem cL_discards_ (l : Launch) (htr : l.stackTraces = false) (D : va_G) (N : Nat) (rG : Nat) (rN : Nat) (aS : Nat → Nat) (aT : Nat → Nat) (rV : Nat) (aV : Nat → Nat) (ql : Nat) (qe : Nat) (qw : Nat) (qh : Nat) (qt : Nat) (qn : Nat) (qp : Nat) (v : VS) (tx : VT) (z : VV) (gl : (Nat → Int32)) (ge : (Nat → Int32)) (gw : (Nat → Int32)) (gh : (Nat → Int32)) (gt : (Nat → Int32)) (gn : (Nat → Int32)) (gp : (Nat → Int32)) (p8 : Int32) (r : VS × VV × (Nat → Int32) × (Nat → Int32) × (Nat → Int32) × (Nat → Int32) × (Nat → Int32) × (Nat → Int32) × (Nat → Int32) × Bool) (hf : fL_discards N v tx z gl ge gw gh gt gn gp p8 = some r) : Tc l D yL_discards wsL_discards rmL_discards [.ref rG, .ref ql, .ref qe, .ref qw, .ref qh, .ref qt, .ref qn, .ref qp, .int p8] (wG D rG (aS 0) rV rN (aT 0) ++ (wS D aS v ++ (wT D aT tx ++ (wV D rV aV z ++ (wA10 D ql gl ++ (wA10 D qe ge ++ (wA10 D qw gw ++ (wA10 D qh gh ++ (wA10 D qt gt ++ (wA9 D qn gn ++ (wA21 D qp gp))))))))))) (fun rv w => rv = some (.int (b2i r.2.2.2.2.2.2.2.2.2)) ∧ ∃ a : Nat → Nat, w = (wG D rG (aS 0) rV rN (aT 0) ++ (wS D aS r.1 ++ (wT D aT tx ++ (wV D rV a r.2.1 ++ (wA10 D ql r.2.2.1 ++ (wA10 D qe r.2.2.2.1 ++ (wA10 D qw r.2.2.2.2.1 ++ (wA10 D qh r.2.2.2.2.2.1 ++ (wA10 D qt r.2.2.2.2.2.2.1 ++ (wA9 D qn r.2.2.2.2.2.2.2.1 ++ (wA21 D qp r.2.2.2.2.2.2.2.2.1)))))))))))) (fun _ _ => False) 0 0 := Tc_of htr (by decide +kernel) rfl (Nat.le_of_ble_eq_true rfl) (fun k C E hl hD => by subst hD; exact wkL_discards C N rG rN aS aT rV aV ql qe qw qh qt qn qp v tx z gl ge gw gh gt gn gp p8 r hf E)
abbrev rmL_makes : Room := { frames := 11, cells := 0, slots := 0, locals := 290 }
theorem hsL_makes : yL_makes.cls ≠ "java/lang/invoke/MethodHandle" ∧ yL_makes.cls ≠ "java/lang/invoke/VarHandle" ∧ (parseMethodDescriptor yL_makes.desc).map (fun d => d.parameters.length) = some 10 := by decide +kernel
def lL_makes_51 (N : Nat) (v : VS) (z : VV) (gl : (Nat → Int32)) (ge : (Nat → Int32)) (l8 : Int32) (l9 : Int32) (l10 : Int32) : Nat → (Nat → Int32) → (Nat → Int32) → (Nat → Int32) → (Nat → Int32) → (Nat → Int32) → Int32 → Int32 → Int32 → Option (((Nat → Int32) × (Nat → Int32) × (Nat → Int32) × (Nat → Int32) × (Nat → Int32) × Int32))
  | 0, _, _, _, _, _, _, _, _ => none
  | n + 1, gw, gh, gt, gn, gp, l11, l12, l13 => ck 8 9 ((if (gn (Int32.toNatClampNeg 8)) ≤ l13 then some (gw, gh, gt, gn, gp, l11) else (if l12 = (0 : Int32) then some (gw, gh, gt, gn, gp, l11) else (if ((l10 >>> (l13 &&& 31)) &&& 1) = (1 : Int32) then ((fL_wrings N ge gw gh gt gn gp l8 l13).bind fun r1 => (((if r1.2.2.2.2.2 = (0 : Int32) then some 1 else some 0) : Option (Int32)).bind fun r2 => (if r2 = (0 : Int32) then (lL_makes_51 N v z gl ge l8 l9 l10 n r1.1 r1.2.1 r1.2.2.1 r1.2.2.2.1 r1.2.2.2.2.1 (l11 + 0) r2 (l13 + 1)) else (lL_makes_51 N v z gl ge l8 l9 l10 n r1.1 r1.2.1 r1.2.2.1 r1.2.2.2.1 r1.2.2.2.2.1 (l11 + 1) r2 (l13 + 1))))) else (lL_makes_51 N v z gl ge l8 l9 l10 n gw gh gt gn gp l11 l12 (l13 + 1))))))
set_option maxRecDepth 100000 in
set_option maxHeartbeats 4000000 in
theorem wlL_makes_51 {k : Kt} (C : gC k cL_makes 14 RL wsL_makes rmL_makes "makes") (N : Nat) (rG : Nat) (rN : Nat) (rT : Nat) (aS : Nat → Nat) (rV : Nat) (aV : Nat → Nat) (ql : Nat) (qe : Nat) (qw : Nat) (qh : Nat) (qt : Nat) (qn : Nat) (qp : Nat) (v : VS) (z : VV) (gl : (Nat → Int32)) (ge : (Nat → Int32)) (l8 : Int32) (l9 : Int32) (l10 : Int32) : ∀ (n : Nat) (gw : (Nat → Int32)) (gh : (Nat → Int32)) (gt : (Nat → Int32)) (gn : (Nat → Int32)) (gp : (Nat → Int32)) (l11 : Int32) (l12 : Int32) (l13 : Int32) (u : ((Nat → Int32) × (Nat → Int32) × (Nat → Int32) × (Nat → Int32) × (Nat → Int32) × Int32)) (hf : lL_makes_51 N v z gl ge l8 l9 l10 n gw gh gt gn gp l11 l12 l13 = some u) (hk0 : gG k (wG (kD k) rG (aS 0) rV rN rT ++ (wS (kD k) aS v ++ (wV (kD k) rV aV z ++ (wA10 (kD k) ql gl ++ (wA10 (kD k) qe ge ++ (wA10 (kD k) qw u.1 ++ (wA10 (kD k) qh u.2.1 ++ (wA10 (kD k) qt u.2.2.1 ++ (wA9 (kD k) qn u.2.2.2.1 ++ (wA21 (kD k) qp u.2.2.2.2.1)))))))))) [(0, .ref rG), (8, .int l8), (9, .int l9), (10, .int l10), (11, .int u.2.2.2.2.2)] 0 0 125 []), gG k (wG (kD k) rG (aS 0) rV rN rT ++ (wS (kD k) aS v ++ (wV (kD k) rV aV z ++ (wA10 (kD k) ql gl ++ (wA10 (kD k) qe ge ++ (wA10 (kD k) qw gw ++ (wA10 (kD k) qh gh ++ (wA10 (kD k) qt gt ++ (wA9 (kD k) qn gn ++ (wA21 (kD k) qp gp)))))))))) [(0, .ref rG), (2, .ref qe), (3, .ref qw), (4, .ref qh), (5, .ref qt), (6, .ref qn), (7, .ref qp), (8, .int l8), (9, .int l9), (10, .int l10), (11, .int l11), (12, .int l12), (13, .int l13)] 0 0 51 [] := by
  intro n
  induction n with
  | zero => intro gw gh gt gn gp l11 l12 l13 u hf hk0; rw [lL_makes_51] at hf; cases hf
  | succ n ih =>
    intro gw gh gt gn gp l11 l12 l13 u hf hk0
    rw [lL_makes_51] at hf
    refine g_iload (pc := 51) (x := l13) C dL_makes_51 rfl ?_
    refine g_aload (pc := 53) (x := qn) C dL_makes_53 rfl ?_
    refine g_bipush (pc := 55) (v := 8) C dL_makes_55 (by decide) ?_
    refine g_iald (pc := 57) (i := 8) hf C 71 rfl dL_makes_57 (fun hf => ?_)
    refine g_icmp_ge (pc := 58) (tgt := 125) (x := l13) (y := (gn (Int32.toNatClampNeg 8))) hf C dL_makes_58 (by decide) (fun hf => ?_) (fun hf => ?_)
    · obtain rfl := Option.some.inj hf
      refine g_lv [0, 7, 8, 9, 10] (lv' := [(0, .ref rG), (8, .int l8), (9, .int l9), (10, .int l10), (11, .int l11)]) rfl ?_
      exact hk0
    · refine g_iload (pc := 61) (x := l12) C dL_makes_61 rfl ?_
      refine g_if_eq (pc := 63) (tgt := 125) (x := l12) hf C dL_makes_63 (by decide) (fun hf => ?_) (fun hf => ?_)
      · obtain rfl := Option.some.inj hf
        refine g_lv [0, 7, 8, 9, 10] (lv' := [(0, .ref rG), (8, .int l8), (9, .int l9), (10, .int l10), (11, .int l11)]) rfl ?_
        exact hk0
      · refine g_iload (pc := 66) (x := l10) C dL_makes_66 rfl ?_
        refine g_iload (pc := 68) (x := l13) C dL_makes_68 rfl ?_
        refine g_ishr (pc := 70) (x := l10) (y := l13) C dL_makes_70 ?_
        refine g_iconst (pc := 71) (v := 1) C dL_makes_71 (by decide) ?_
        refine g_iand (pc := 72) (x := (l10 >>> (l13 &&& 31))) (y := 1) C dL_makes_72 ?_
        refine g_iconst (pc := 73) (v := 1) C dL_makes_73 (by decide) ?_
        refine g_icmp_ne (pc := 74) (tgt := 119) (x := ((l10 >>> (l13 &&& 31)) &&& 1)) (y := 1) hf C dL_makes_74 (by decide) (fun hf => ?_) (fun hf => ?_)
        · refine g_iinc (pc := 119) (x := l13) (v := (l13 + 1)) (lv' := [(13, .int (l13 + 1)), (0, .ref rG), (2, .ref qe), (3, .ref qw), (4, .ref qh), (5, .ref qt), (6, .ref qn), (7, .ref qp), (8, .int l8), (9, .int l9), (10, .int l10), (11, .int l11), (12, .int l12)]) C dL_makes_119 rfl rfl (by decide) rfl ?_
          refine g_goto (pc := 122) (tgt := 51) C dL_makes_122 (by decide) ?_
          refine g_lv [1, 2, 3, 4, 5, 6, 7, 8, 9, 10, 11, 12, 0] (lv' := [(0, .ref rG), (2, .ref qe), (3, .ref qw), (4, .ref qh), (5, .ref qt), (6, .ref qn), (7, .ref qp), (8, .int l8), (9, .int l9), (10, .int l10), (11, .int l11), (12, .int l12), (13, .int (l13 + 1))]) rfl ?_
          exact ih gw gh gt gn gp l11 l12 (l13 + 1) u hf hk0
        · refine g_aload_n (pc := 77) (x := qe) C dL_makes_77 rfl ?_
          refine g_aload_n (pc := 78) (x := qw) C dL_makes_78 rfl ?_
          refine g_aload (pc := 79) (x := qh) C dL_makes_79 rfl ?_
          refine g_aload (pc := 81) (x := qt) C dL_makes_81 rfl ?_
          refine g_aload (pc := 83) (x := qn) C dL_makes_83 rfl ?_
          refine g_aload (pc := 85) (x := qp) C dL_makes_85 rfl ?_
          refine g_iload (pc := 87) (x := l8) C dL_makes_87 rfl ?_
          refine g_iload (pc := 89) (x := l13) C dL_makes_89 rfl ?_
          refine g_callWA (wr := wG (kD k) rG (aS 0) rV rN rT  ++ (wS (kD k) aS v ++ (wV (kD k) rV aV z ++ (wA10 (kD k) ql gl)))) (pc' := 94) (cs' := 0) (sl' := 0) hf C (fun u => some (.int u.2.2.2.2.2)) (fun u => (wA10 (kD k) qe ge ++ (wA10 (kD k) qw u.1 ++ (wA10 (kD k) qh u.2.1 ++ (wA10 (kD k) qt u.2.2.1 ++ (wA9 (kD k) qn u.2.2.2.1 ++ (wA21 (kD k) qp u.2.2.2.2.1))))))) (((pm0 (pm0 (pm0 (pm0 (List.Perm.refl _))))).trans (pmc ((pm0 (pm0 (pm0 (pm0 (List.Perm.refl _))))).trans (pmc ((pm0 (pm0 (pm0 (pm0 (List.Perm.refl _))))).trans (pmc ((pm0 (pm0 (pm0 (pm0 (List.Perm.refl _))))).trans (pmc ((pm0 (pm0 (pm0 (pm0 (List.Perm.refl _))))).trans (pmc (pm0 (pm0 (pm0 pmL))))))))))))).trans as6) (fun u hu => gr_S (rest := []) C (cL_wrings_ (kL k) C.tr (kD k) N qe qw qh qt qn qp ge gw gh gt gn gp l8 l13 u hu) (fun ht => va_cwS 8 ht gL_makes_L_wrings rfl rfl rfl hsL_wrings ⟨(Nat.le_of_ble_eq_true rfl), (Nat.le_of_ble_eq_true rfl)⟩) _ (rg_map _ _) (rg_nd _) rfl rfl (Nat.le_of_ble_eq_true rfl) dL_makes_91 ⟨(Nat.le_of_ble_eq_true rfl), (Nat.le_of_ble_eq_true rfl)⟩) (ws' := fun u => (wG (kD k) rG (aS 0) rV rN rT  ++ (wS (kD k) aS v ++ (wV (kD k) rV aV z ++ (wA10 (kD k) ql gl ++ (wA10 (kD k) qe ge ++ (wA10 (kD k) qw u.1 ++ (wA10 (kD k) qh u.2.1 ++ (wA10 (kD k) qt u.2.2.1 ++ (wA9 (kD k) qn u.2.2.2.1 ++ (wA21 (kD k) qp u.2.2.2.2.1))))))))))) (fun u => (as6.symm.trans ((pm0 (pm0 (pm0 (pm0 (pm0 (pm0 (List.Perm.refl _))))))).trans (pmc ((pm0 (pm0 (pm0 (pm0 (pm0 (pm0 (List.Perm.refl _))))))).trans (pmc ((pm0 (pm0 (pm0 (pm0 (pm0 (pm0 (List.Perm.refl _))))))).trans (pmc (pm0 (pm0 (pm0 (pm0 (pm0 pmL))))))))))))) rfl rfl rfl (fun u => [.int u.2.2.2.2.2]) (fun u => rfl) (fun r1 hf => ?_)
          refine g_join (Q := fun (u : Int32) => gG k (wG (kD k) rG (aS 0) rV rN rT  ++ (wS (kD k) aS v ++ (wV (kD k) rV aV z ++ (wA10 (kD k) ql gl ++ (wA10 (kD k) qe ge ++ (wA10 (kD k) qw r1.1 ++ (wA10 (kD k) qh r1.2.1 ++ (wA10 (kD k) qt r1.2.2.1 ++ (wA9 (kD k) qn r1.2.2.2.1 ++ (wA21 (kD k) qp r1.2.2.2.2.1)))))))))) [(0, .ref rG), (2, .ref qe), (3, .ref qw), (4, .ref qh), (5, .ref qt), (6, .ref qn), (7, .ref qp), (8, .int l8), (9, .int l9), (10, .int l10), (11, .int l11), (13, .int l13)] 0 0 102 [.int u]) hf (fun r2 hf => ?_) (fun r2 hf K2 => ?_)
          · refine g_istore (pc := 102) (lv' := [(12, .int r2), (0, .ref rG), (2, .ref qe), (3, .ref qw), (4, .ref qh), (5, .ref qt), (6, .ref qn), (7, .ref qp), (8, .int l8), (9, .int l9), (10, .int l10), (11, .int l11), (13, .int l13)]) C dL_makes_102 (by decide) rfl ?_
            refine g_iload (pc := 104) (x := l11) C dL_makes_104 rfl ?_
            refine g_iload (pc := 106) (x := r2) C dL_makes_106 rfl ?_
            refine g_if_eq (pc := 108) (tgt := 115) (x := r2) hf C dL_makes_108 (by decide) (fun hf => ?_) (fun hf => ?_)
            · refine g_iconst (pc := 115) (v := 0) C dL_makes_115 (by decide) ?_
              refine g_iadd (pc := 116) (x := l11) (y := 0) C dL_makes_116 ?_
              refine g_istore (pc := 117) (lv' := [(11, .int (l11 + 0)), (12, .int r2), (0, .ref rG), (2, .ref qe), (3, .ref qw), (4, .ref qh), (5, .ref qt), (6, .ref qn), (7, .ref qp), (8, .int l8), (9, .int l9), (10, .int l10), (13, .int l13)]) C dL_makes_117 (by decide) rfl ?_
              refine g_iinc (pc := 119) (x := l13) (v := (l13 + 1)) (lv' := [(13, .int (l13 + 1)), (11, .int (l11 + 0)), (12, .int r2), (0, .ref rG), (2, .ref qe), (3, .ref qw), (4, .ref qh), (5, .ref qt), (6, .ref qn), (7, .ref qp), (8, .int l8), (9, .int l9), (10, .int l10)]) C dL_makes_119 rfl rfl (by decide) rfl ?_
              refine g_goto (pc := 122) (tgt := 51) C dL_makes_122 (by decide) ?_
              refine g_lv [3, 4, 5, 6, 7, 8, 9, 10, 11, 12, 1, 2, 0] (lv' := [(0, .ref rG), (2, .ref qe), (3, .ref qw), (4, .ref qh), (5, .ref qt), (6, .ref qn), (7, .ref qp), (8, .int l8), (9, .int l9), (10, .int l10), (11, .int (l11 + 0)), (12, .int r2), (13, .int (l13 + 1))]) rfl ?_
              exact ih r1.1 r1.2.1 r1.2.2.1 r1.2.2.2.1 r1.2.2.2.2.1 (l11 + 0) r2 (l13 + 1) u hf hk0
            · refine g_iconst (pc := 111) (v := 1) C dL_makes_111 (by decide) ?_
              refine g_goto (pc := 112) (tgt := 116) C dL_makes_112 (by decide) ?_
              refine g_iadd (pc := 116) (x := l11) (y := 1) C dL_makes_116 ?_
              refine g_istore (pc := 117) (lv' := [(11, .int (l11 + 1)), (12, .int r2), (0, .ref rG), (2, .ref qe), (3, .ref qw), (4, .ref qh), (5, .ref qt), (6, .ref qn), (7, .ref qp), (8, .int l8), (9, .int l9), (10, .int l10), (13, .int l13)]) C dL_makes_117 (by decide) rfl ?_
              refine g_iinc (pc := 119) (x := l13) (v := (l13 + 1)) (lv' := [(13, .int (l13 + 1)), (11, .int (l11 + 1)), (12, .int r2), (0, .ref rG), (2, .ref qe), (3, .ref qw), (4, .ref qh), (5, .ref qt), (6, .ref qn), (7, .ref qp), (8, .int l8), (9, .int l9), (10, .int l10)]) C dL_makes_119 rfl rfl (by decide) rfl ?_
              refine g_goto (pc := 122) (tgt := 51) C dL_makes_122 (by decide) ?_
              refine g_lv [3, 4, 5, 6, 7, 8, 9, 10, 11, 12, 1, 2, 0] (lv' := [(0, .ref rG), (2, .ref qe), (3, .ref qw), (4, .ref qh), (5, .ref qt), (6, .ref qn), (7, .ref qp), (8, .int l8), (9, .int l9), (10, .int l10), (11, .int (l11 + 1)), (12, .int r2), (13, .int (l13 + 1))]) rfl ?_
              exact ih r1.1 r1.2.1 r1.2.2.1 r1.2.2.2.1 r1.2.2.2.2.1 (l11 + 1) r2 (l13 + 1) u hf hk0
          · refine g_if_ne (pc := 94) (tgt := 101) (x := r1.2.2.2.2.2) hf C dL_makes_94 (by decide) (fun hf => ?_) (fun hf => ?_)
            · refine g_iconst (pc := 101) (v := 0) C dL_makes_101 (by decide) ?_
              obtain rfl := Option.some.inj hf
              refine g_lv [0, 1, 2, 3, 4, 5, 6, 7, 8, 9, 10, 12] (lv' := [(0, .ref rG), (2, .ref qe), (3, .ref qw), (4, .ref qh), (5, .ref qt), (6, .ref qn), (7, .ref qp), (8, .int l8), (9, .int l9), (10, .int l10), (11, .int l11), (13, .int l13)]) rfl ?_
              exact K2
            · refine g_iconst (pc := 97) (v := 1) C dL_makes_97 (by decide) ?_
              refine g_goto (pc := 98) (tgt := 102) C dL_makes_98 (by decide) ?_
              obtain rfl := Option.some.inj hf
              refine g_lv [0, 1, 2, 3, 4, 5, 6, 7, 8, 9, 10, 12] (lv' := [(0, .ref rG), (2, .ref qe), (3, .ref qw), (4, .ref qh), (5, .ref qt), (6, .ref qn), (7, .ref qp), (8, .int l8), (9, .int l9), (10, .int l10), (11, .int l11), (13, .int l13)]) rfl ?_
              exact K2
def fL_makes (N : Nat) (v : VS) (z : VV) (gl : (Nat → Int32)) (ge : (Nat → Int32)) (gw : (Nat → Int32)) (gh : (Nat → Int32)) (gt : (Nat → Int32)) (gn : (Nat → Int32)) (gp : (Nat → Int32)) (p8 : Int32) (p9 : Int32) : Option (VS × VV × (Nat → Int32) × (Nat → Int32) × (Nat → Int32) × (Nat → Int32) × (Nat → Int32) × Bool) := ck (7 * p8) 21 ((if (gp (Int32.toNatClampNeg (7 * p8))) ≤ (0 : Int32) then ((fL_free N gn gp).bind fun r1 => ((fL_fewest N gl r1 p9).bind fun r2 => ((lL_makes_51 N v z gl ge p8 p9 r2 N gw gh gt gn gp 0 1 0).bind fun r3 => ((fX4_make N v z p8 p9).bind fun r4 => (((if r2 = (0 : Int32) then some (-1) else some r3.2.2.2.2.2) : Option (Int32)).bind fun r5 => (if r4.2.2 = r5 then some (r4.1, r4.2.1, r3.1, r3.2.1, r3.2.2.1, r3.2.2.2.1, r3.2.2.2.2.1, true) else none)))))) else ((fX4_stackOf N v p8 0).bind fun r6 => (if r6 ≤ (0 : Int32) then none else some (v, z, gw, gh, gt, gn, gp, true)))))
set_option maxRecDepth 100000 in
set_option maxHeartbeats 4000000 in
theorem wkL_makes {k : Kt} (C : gC k cL_makes 14 RL wsL_makes rmL_makes "makes") (N : Nat) (rG : Nat) (rN : Nat) (rT : Nat) (aS : Nat → Nat) (rV : Nat) (aV : Nat → Nat) (ql : Nat) (qe : Nat) (qw : Nat) (qh : Nat) (qt : Nat) (qn : Nat) (qp : Nat) (v : VS) (z : VV) (gl : (Nat → Int32)) (ge : (Nat → Int32)) (gw : (Nat → Int32)) (gh : (Nat → Int32)) (gt : (Nat → Int32)) (gn : (Nat → Int32)) (gp : (Nat → Int32)) (p8 : Int32) (p9 : Int32) (r : VS × VV × (Nat → Int32) × (Nat → Int32) × (Nat → Int32) × (Nat → Int32) × (Nat → Int32) × Bool) (hf : fL_makes N v z gl ge gw gh gt gn gp p8 p9 = some r) (E : gE k (wG (kD k) rG (aS 0) rV rN rT ++ (wS (kD k) aS v ++ (wV (kD k) rV aV z ++ (wA10 (kD k) ql gl ++ (wA10 (kD k) qe ge ++ (wA10 (kD k) qw gw ++ (wA10 (kD k) qh gh ++ (wA10 (kD k) qt gt ++ (wA9 (kD k) qn gn ++ (wA21 (kD k) qp gp)))))))))) (fun rv w => rv = some (.int (b2i r.2.2.2.2.2.2.2)) ∧ ∃ a : Nat → Nat, w = (wG (kD k) rG (aS 0) rV rN rT ++ (wS (kD k) aS r.1 ++ (wV (kD k) rV a r.2.1 ++ (wA10 (kD k) ql gl ++ (wA10 (kD k) qe ge ++ (wA10 (kD k) qw r.2.2.1 ++ (wA10 (kD k) qh r.2.2.2.1 ++ (wA10 (kD k) qt r.2.2.2.2.1 ++ (wA9 (kD k) qn r.2.2.2.2.2.1 ++ (wA21 (kD k) qp r.2.2.2.2.2.2.1))))))))))) (fun _ _ => False) 0 0 (some .boolean) []) : gG k (wG (kD k) rG (aS 0) rV rN rT ++ (wS (kD k) aS v ++ (wV (kD k) rV aV z ++ (wA10 (kD k) ql gl ++ (wA10 (kD k) qe ge ++ (wA10 (kD k) qw gw ++ (wA10 (kD k) qh gh ++ (wA10 (kD k) qt gt ++ (wA9 (kD k) qn gn ++ (wA21 (kD k) qp gp)))))))))) [(0, .ref rG), (1, .ref ql), (2, .ref qe), (3, .ref qw), (4, .ref qh), (5, .ref qt), (6, .ref qn), (7, .ref qp), (8, .int p8), (9, .int p9)] 0 0 0 [] := by
  unfold fL_makes at hf
  refine g_aload (pc := 0) (x := qp) C dL_makes_0 rfl ?_
  refine g_bipush (pc := 2) (v := 7) C dL_makes_2 (by decide) ?_
  refine g_iload (pc := 4) (x := p8) C dL_makes_4 rfl ?_
  refine g_imul (pc := 6) (x := 7) (y := p8) C dL_makes_6 ?_
  refine g_iald (pc := 7) (i := (7 * p8)) hf C 72 rfl dL_makes_7 (fun hf => ?_)
  refine g_if_le (pc := 8) (tgt := 27) (x := (gp (Int32.toNatClampNeg (7 * p8)))) hf C dL_makes_8 (by decide) (fun hf => ?_) (fun hf => ?_)
  · refine g_aload_n (pc := 27) (x := ql) C dL_makes_27 rfl ?_
    refine g_aload (pc := 28) (x := qn) C dL_makes_28 rfl ?_
    refine g_aload (pc := 30) (x := qp) C dL_makes_30 rfl ?_
    refine g_callWA (wr := wG (kD k) rG (aS 0) rV rN rT  ++ (wS (kD k) aS v ++ (wV (kD k) rV aV z ++ (wA10 (kD k) ql gl ++ (wA10 (kD k) qe ge ++ (wA10 (kD k) qw gw ++ (wA10 (kD k) qh gh ++ (wA10 (kD k) qt gt)))))))) (pc' := 35) (cs' := 0) (sl' := 0) hf C (fun u => some (.int u)) (fun u => (wA9 (kD k) qn gn ++ (wA21 (kD k) qp gp))) (((pm0 (pm0 (pm0 (pm0 (pm0 (pm0 (pm0 (pm0 (List.Perm.refl _))))))))).trans (pmc (pm0 (pm0 (pm0 (pm0 (pm0 (pm0 (pm0 pmL))))))))).trans as2) (fun u hu => gr_S (rest := [.ref ql]) C (cL_free_ (kL k) C.tr (kD k) N qn qp gn gp u hu) (fun ht => va_cwS 2 ht gL_makes_L_free rfl rfl rfl hsL_free ⟨(Nat.le_of_ble_eq_true rfl), (Nat.le_of_ble_eq_true rfl)⟩) _ (rg_map _ _) (rg_nd _) rfl rfl (Nat.le_of_ble_eq_true rfl) dL_makes_32 ⟨(Nat.le_of_ble_eq_true rfl), (Nat.le_of_ble_eq_true rfl)⟩) (ws' := fun u => (wG (kD k) rG (aS 0) rV rN rT  ++ (wS (kD k) aS v ++ (wV (kD k) rV aV z ++ (wA10 (kD k) ql gl ++ (wA10 (kD k) qe ge ++ (wA10 (kD k) qw gw ++ (wA10 (kD k) qh gh ++ (wA10 (kD k) qt gt ++ (wA9 (kD k) qn gn ++ (wA21 (kD k) qp gp))))))))))) (fun u => (as2.symm.trans ((pm0 (pm0 (List.Perm.refl _))).trans (pmc ((pm0 (pm0 (List.Perm.refl _))).trans (pmc ((pm0 (pm0 (List.Perm.refl _))).trans (pmc ((pm0 (pm0 (List.Perm.refl _))).trans (pmc ((pm0 (pm0 (List.Perm.refl _))).trans (pmc ((pm0 (pm0 (List.Perm.refl _))).trans (pmc ((pm0 (pm0 (List.Perm.refl _))).trans (pmc (pm0 pmL))))))))))))))))) rfl rfl rfl (fun u => [.int u, .ref ql]) (fun u => rfl) (fun r1 hf => ?_)
    refine g_iload (pc := 35) (x := p9) C dL_makes_35 rfl ?_
    refine g_callWA (wr := wG (kD k) rG (aS 0) rV rN rT  ++ (wS (kD k) aS v ++ (wV (kD k) rV aV z ++ (wA10 (kD k) qe ge ++ (wA10 (kD k) qw gw ++ (wA10 (kD k) qh gh ++ (wA10 (kD k) qt gt ++ (wA9 (kD k) qn gn ++ (wA21 (kD k) qp gp))))))))) (pc' := 40) (cs' := 0) (sl' := 0) hf C (fun u => some (.int u)) (fun u => (wA10 (kD k) ql gl)) (pm0 (pm0 (pm0 (List.Perm.refl _)))) (fun u hu => gr_S (rest := []) C (cL_fewest_ (kL k) C.tr (kD k) N ql gl r1 p9 u hu) (fun ht => va_cwS 3 ht gL_makes_L_fewest rfl rfl rfl hsL_fewest ⟨(Nat.le_of_ble_eq_true rfl), (Nat.le_of_ble_eq_true rfl)⟩) _ (rg_map _ _) (rg_nd _) rfl rfl (Nat.le_of_ble_eq_true rfl) dL_makes_37 ⟨(Nat.le_of_ble_eq_true rfl), (Nat.le_of_ble_eq_true rfl)⟩) (ws' := fun u => (wG (kD k) rG (aS 0) rV rN rT  ++ (wS (kD k) aS v ++ (wV (kD k) rV aV z ++ (wA10 (kD k) ql gl ++ (wA10 (kD k) qe ge ++ (wA10 (kD k) qw gw ++ (wA10 (kD k) qh gh ++ (wA10 (kD k) qt gt ++ (wA9 (kD k) qn gn ++ (wA21 (kD k) qp gp))))))))))) (fun u => ((pm0 (List.Perm.refl _)).trans (pmc ((pm0 (List.Perm.refl _)).trans (pmc (pm0 (List.Perm.refl _))))))) rfl rfl rfl (fun u => [.int u]) (fun u => rfl) (fun r2 hf => ?_)
    refine g_istore (pc := 40) (lv' := [(10, .int r2), (0, .ref rG), (1, .ref ql), (2, .ref qe), (3, .ref qw), (4, .ref qh), (5, .ref qt), (6, .ref qn), (7, .ref qp), (8, .int p8), (9, .int p9)]) C dL_makes_40 (by decide) rfl ?_
    refine g_iconst (pc := 42) (v := 0) C dL_makes_42 (by decide) ?_
    refine g_istore (pc := 43) (lv' := [(11, .int 0), (10, .int r2), (0, .ref rG), (1, .ref ql), (2, .ref qe), (3, .ref qw), (4, .ref qh), (5, .ref qt), (6, .ref qn), (7, .ref qp), (8, .int p8), (9, .int p9)]) C dL_makes_43 (by decide) rfl ?_
    refine g_iconst (pc := 45) (v := 1) C dL_makes_45 (by decide) ?_
    refine g_istore (pc := 46) (lv' := [(12, .int 1), (11, .int 0), (10, .int r2), (0, .ref rG), (1, .ref ql), (2, .ref qe), (3, .ref qw), (4, .ref qh), (5, .ref qt), (6, .ref qn), (7, .ref qp), (8, .int p8), (9, .int p9)]) C dL_makes_46 (by decide) rfl ?_
    refine g_iconst (pc := 48) (v := 0) C dL_makes_48 (by decide) ?_
    refine g_istore (pc := 49) (lv' := [(13, .int 0), (12, .int 1), (11, .int 0), (10, .int r2), (0, .ref rG), (1, .ref ql), (2, .ref qe), (3, .ref qw), (4, .ref qh), (5, .ref qt), (6, .ref qn), (7, .ref qp), (8, .int p8), (9, .int p9)]) C dL_makes_49 (by decide) rfl ?_
    obtain ⟨r3, h3, hf⟩ := bd_e hf
    refine g_lv [4, 6, 7, 8, 9, 10, 11, 12, 13, 3, 2, 1, 0] (lv' := [(0, .ref rG), (2, .ref qe), (3, .ref qw), (4, .ref qh), (5, .ref qt), (6, .ref qn), (7, .ref qp), (8, .int p8), (9, .int p9), (10, .int r2), (11, .int 0), (12, .int 1), (13, .int 0)]) rfl ?_
    refine wlL_makes_51 C N rG rN rT aS rV aV ql qe qw qh qt qn qp v z gl ge p8 p9 r2 N gw gh gt gn gp 0 1 0 r3 h3 ?_
    refine g_aload_n (pc := 125) (x := rG) C dL_makes_125 rfl ?_
    refine g_iload (pc := 126) (x := p8) C dL_makes_126 rfl ?_
    refine g_iload (pc := 128) (x := p9) C dL_makes_128 rfl ?_
    refine g_callPA (wr := wA10 (kD k) ql gl ++ (wA10 (kD k) qe ge ++ (wA10 (kD k) qw r3.1 ++ (wA10 (kD k) qh r3.2.1 ++ (wA10 (kD k) qt r3.2.2.1 ++ (wA9 (kD k) qn r3.2.2.2.1 ++ (wA21 (kD k) qp r3.2.2.2.2.1))))))) (pc' := 133) (cs' := 0) (sl' := 0) hf C (fun u => some (.int u.2.2)) (fun u a => (wG (kD k) rG (aS 0) rV rN rT ++ (wS (kD k) aS u.1 ++ (wV (kD k) rV a u.2.1)))) ((List.Perm.refl _).trans as3) (fun u hu => gr_V (rest := []) C (cX4_make_ (kL k) C.tr (kD k) N rG rN rT aS rV aV v z p8 p9 u hu) (fun ht => cwV 2 ht gL_makes_X4_make rfl rfl rfl hdX4_make ⟨(Nat.le_of_ble_eq_true rfl), (Nat.le_of_ble_eq_true rfl)⟩) 0 rfl rfl _ (rg_map _ _) (rg_nd _) rfl rfl (Nat.le_of_ble_eq_true rfl) dL_makes_130 ⟨(Nat.le_of_ble_eq_true rfl), (Nat.le_of_ble_eq_true rfl)⟩) (ws' := fun u a => (wG (kD k) rG (aS 0) rV rN rT  ++ (wS (kD k) aS u.1 ++ (wV (kD k) rV a u.2.1 ++ (wA10 (kD k) ql gl ++ (wA10 (kD k) qe ge ++ (wA10 (kD k) qw r3.1 ++ (wA10 (kD k) qh r3.2.1 ++ (wA10 (kD k) qt r3.2.2.1 ++ (wA9 (kD k) qn r3.2.2.2.1 ++ (wA21 (kD k) qp r3.2.2.2.2.1))))))))))) (fun u a => (as3.symm.trans (List.Perm.refl _))) rfl rfl rfl (fun u => [.int u.2.2]) (fun u => rfl) (fun r4 aV4 hf => ?_)
    refine g_iload (pc := 133) (x := r2) C dL_makes_133 rfl ?_
    refine g_join (Q := fun (u : Int32) => gG k (wG (kD k) rG (aS 0) rV rN rT  ++ (wS (kD k) aS r4.1 ++ (wV (kD k) rV aV4 r4.2.1 ++ (wA10 (kD k) ql gl ++ (wA10 (kD k) qe ge ++ (wA10 (kD k) qw r3.1 ++ (wA10 (kD k) qh r3.2.1 ++ (wA10 (kD k) qt r3.2.2.1 ++ (wA9 (kD k) qn r3.2.2.2.1 ++ (wA21 (kD k) qp r3.2.2.2.2.1)))))))))) [] 0 0 144 [.int u, .int r4.2.2]) hf (fun r5 hf => ?_) (fun r5 hf K5 => ?_)
    · refine g_icmp_ne (pc := 144) (tgt := 151) (x := r4.2.2) (y := r5) hf C dL_makes_144 (by decide) (fun hf => ?_) (fun hf => ?_)
      · cases hf
      · refine g_iconst (pc := 147) (v := 1) C dL_makes_147 (by decide) ?_
        refine g_goto (pc := 148) (tgt := 152) C dL_makes_148 (by decide) ?_
        obtain rfl := Option.some.inj hf
        exact g_bret (b := true) C E dL_makes_152 (Nat.le_of_ble_eq_true rfl) (Nat.le_of_ble_eq_true rfl) ⟨rfl, _, rfl⟩
    · refine g_if_ne (pc := 135) (tgt := 142) (x := r2) hf C dL_makes_135 (by decide) (fun hf => ?_) (fun hf => ?_)
      · refine g_iload (pc := 142) (x := r3.2.2.2.2.2) C dL_makes_142 rfl ?_
        obtain rfl := Option.some.inj hf
        refine g_lv [] (lv' := []) rfl ?_
        exact K5
      · refine g_iconst (pc := 138) (v := (-1)) C dL_makes_138 (by decide) ?_
        refine g_goto (pc := 139) (tgt := 144) C dL_makes_139 (by decide) ?_
        obtain rfl := Option.some.inj hf
        refine g_lv [] (lv' := []) rfl ?_
        exact K5
  · refine g_aload_n (pc := 11) (x := rG) C dL_makes_11 rfl ?_
    refine g_iload (pc := 12) (x := p8) C dL_makes_12 rfl ?_
    refine g_iconst (pc := 14) (v := 0) C dL_makes_14 (by decide) ?_
    refine g_callWA (wr := wV (kD k) rV aV z ++ (wA10 (kD k) ql gl ++ (wA10 (kD k) qe ge ++ (wA10 (kD k) qw gw ++ (wA10 (kD k) qh gh ++ (wA10 (kD k) qt gt ++ (wA9 (kD k) qn gn ++ (wA21 (kD k) qp gp)))))))) (pc' := 18) (cs' := 0) (sl' := 0) hf C (fun u => some (.int u)) (fun u => (wG (kD k) rG (aS 0) rV rN rT ++ (wS (kD k) aS v))) ((List.Perm.refl _).trans as2) (fun u hu => gr_V (rest := []) C (cX4_stackOf_ (kL k) C.tr (kD k) N rG rV rN rT aS v p8 0 u hu) (fun ht => cwV 2 ht gL_makes_X4_stackOf rfl rfl rfl hdX4_stackOf ⟨(Nat.le_of_ble_eq_true rfl), (Nat.le_of_ble_eq_true rfl)⟩) 0 rfl rfl _ (rg_map _ _) (rg_nd _) rfl rfl (Nat.le_of_ble_eq_true rfl) dL_makes_15 ⟨(Nat.le_of_ble_eq_true rfl), (Nat.le_of_ble_eq_true rfl)⟩) (ws' := fun u => (wG (kD k) rG (aS 0) rV rN rT  ++ (wS (kD k) aS v ++ (wV (kD k) rV aV z ++ (wA10 (kD k) ql gl ++ (wA10 (kD k) qe ge ++ (wA10 (kD k) qw gw ++ (wA10 (kD k) qh gh ++ (wA10 (kD k) qt gt ++ (wA9 (kD k) qn gn ++ (wA21 (kD k) qp gp))))))))))) (fun u => (as2.symm.trans (List.Perm.refl _))) rfl rfl rfl (fun u => [.int u]) (fun u => rfl) (fun r6 hf => ?_)
    refine g_if_le (pc := 18) (tgt := 25) (x := r6) hf C dL_makes_18 (by decide) (fun hf => ?_) (fun hf => ?_)
    · cases hf
    · refine g_iconst (pc := 21) (v := 1) C dL_makes_21 (by decide) ?_
      refine g_goto (pc := 22) (tgt := 26) C dL_makes_22 (by decide) ?_
      obtain rfl := Option.some.inj hf
      exact g_bret (b := true) C E dL_makes_26 (Nat.le_of_ble_eq_true rfl) (Nat.le_of_ble_eq_true rfl) ⟨rfl, _, rfl⟩
set_option maxRecDepth 100000 in
set_option maxHeartbeats 4000000 in
theorem cL_makes_ (l : Launch) (htr : l.stackTraces = false) (D : va_G) (N : Nat) (rG : Nat) (rN : Nat) (rT : Nat) (aS : Nat → Nat) (rV : Nat) (aV : Nat → Nat) (ql : Nat) (qe : Nat) (qw : Nat) (qh : Nat) (qt : Nat) (qn : Nat) (qp : Nat) (v : VS) (z : VV) (gl : (Nat → Int32)) (ge : (Nat → Int32)) (gw : (Nat → Int32)) (gh : (Nat → Int32)) (gt : (Nat → Int32)) (gn : (Nat → Int32)) (gp : (Nat → Int32)) (p8 : Int32) (p9 : Int32) (r : VS × VV × (Nat → Int32) × (Nat → Int32) × (Nat → Int32) × (Nat → Int32) × (Nat → Int32) × Bool) (hf : fL_makes N v z gl ge gw gh gt gn gp p8 p9 = some r) : Tc l D yL_makes wsL_makes rmL_makes [.ref rG, .ref ql, .ref qe, .ref qw, .ref qh, .ref qt, .ref qn, .ref qp, .int p8, .int p9] (wG D rG (aS 0) rV rN rT ++ (wS D aS v ++ (wV D rV aV z ++ (wA10 D ql gl ++ (wA10 D qe ge ++ (wA10 D qw gw ++ (wA10 D qh gh ++ (wA10 D qt gt ++ (wA9 D qn gn ++ (wA21 D qp gp)))))))))) (fun rv w => rv = some (.int (b2i r.2.2.2.2.2.2.2)) ∧ ∃ a : Nat → Nat, w = (wG D rG (aS 0) rV rN rT ++ (wS D aS r.1 ++ (wV D rV a r.2.1 ++ (wA10 D ql gl ++ (wA10 D qe ge ++ (wA10 D qw r.2.2.1 ++ (wA10 D qh r.2.2.2.1 ++ (wA10 D qt r.2.2.2.2.1 ++ (wA9 D qn r.2.2.2.2.2.1 ++ (wA21 D qp r.2.2.2.2.2.2.1))))))))))) (fun _ _ => False) 0 0 := Tc_of htr (by decide +kernel) rfl (Nat.le_of_ble_eq_true rfl) (fun k C E hl hD => by subst hD; exact wkL_makes C N rG rN rT aS rV aV ql qe qw qh qt qn qp v z gl ge gw gh gt gn gp p8 p9 r hf E)
