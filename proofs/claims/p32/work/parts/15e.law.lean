abbrev rmL_acts : Room := { frames := 12, cells := 0, slots := 0, locals := 323 }
theorem hsL_acts : yL_acts.cls ≠ "java/lang/invoke/MethodHandle" ∧ yL_acts.cls ≠ "java/lang/invoke/VarHandle" ∧ (parseMethodDescriptor yL_acts.desc).map (fun d => d.parameters.length) = some 10 := by decide +kernel
def lL_acts_322 (N : Nat) (v : VS) (tx : VT) (z : VV) (gl : (Nat → Int32)) (ge : (Nat → Int32)) (gw : (Nat → Int32)) (gt : (Nat → Int32)) (gn : (Nat → Int32)) (gp : (Nat → Int32)) (l13 : Int32) : Nat → (Nat → Int32) → Int32 → Int32 → Option (((Nat → Int32) × Int32))
  | 0, _, _, _ => none
  | n + 1, gh, l14, l15 => ck 8 9 ((if (gn (Int32.toNatClampNeg 8)) ≤ l15 then some (gh, l14) else ck l15 10 (((fL_cool N (gh (Int32.toNatClampNeg l15)) l13).bind fun r1 => ck l15 10 (ck l15 10 ((if ((upd gh (Int32.toNatClampNeg l15) r1) (Int32.toNatClampNeg l15)) ≤ l14 then (lL_acts_322 N v tx z gl ge gw gt gn gp l13 n (upd gh (Int32.toNatClampNeg l15) r1) l14 (l15 + 1)) else ck l15 10 ((lL_acts_322 N v tx z gl ge gw gt gn gp l13 n (upd gh (Int32.toNatClampNeg l15) r1) ((upd gh (Int32.toNatClampNeg l15) r1) (Int32.toNatClampNeg l15)) (l15 + 1))))))))))
set_option maxRecDepth 100000 in
set_option maxHeartbeats 4000000 in
theorem wlL_acts_322 {k : Kt} (C : gC k cL_acts 19 RL wsL_acts rmL_acts "acts") (N : Nat) (rG : Nat) (rN : Nat) (aS : Nat → Nat) (aT : Nat → Nat) (rV : Nat) (aV : Nat → Nat) (ql : Nat) (qe : Nat) (qw : Nat) (qh : Nat) (qt : Nat) (qn : Nat) (qp : Nat) (v : VS) (tx : VT) (z : VV) (gl : (Nat → Int32)) (ge : (Nat → Int32)) (gw : (Nat → Int32)) (gt : (Nat → Int32)) (gn : (Nat → Int32)) (gp : (Nat → Int32)) (l13 : Int32) : ∀ (n : Nat) (gh : (Nat → Int32)) (l14 : Int32) (l15 : Int32) (u : ((Nat → Int32) × Int32)) (hf : lL_acts_322 N v tx z gl ge gw gt gn gp l13 n gh l14 l15 = some u) (hk0 : gG k (wG (kD k) rG (aS 0) rV rN (aT 0) ++ (wS (kD k) aS v ++ (wT (kD k) aT tx ++ (wV (kD k) rV aV z ++ (wA10 (kD k) ql gl ++ (wA10 (kD k) qe ge ++ (wA10 (kD k) qw gw ++ (wA10 (kD k) qh u.1 ++ (wA10 (kD k) qt gt ++ (wA9 (kD k) qn gn ++ (wA21 (kD k) qp gp))))))))))) [(0, .ref rG), (6, .ref qn), (13, .int l13), (14, .int u.2)] 0 0 375 []), gG k (wG (kD k) rG (aS 0) rV rN (aT 0) ++ (wS (kD k) aS v ++ (wT (kD k) aT tx ++ (wV (kD k) rV aV z ++ (wA10 (kD k) ql gl ++ (wA10 (kD k) qe ge ++ (wA10 (kD k) qw gw ++ (wA10 (kD k) qh gh ++ (wA10 (kD k) qt gt ++ (wA9 (kD k) qn gn ++ (wA21 (kD k) qp gp))))))))))) [(0, .ref rG), (4, .ref qh), (6, .ref qn), (13, .int l13), (14, .int l14), (15, .int l15)] 0 0 322 [] := by
  intro n
  induction n with
  | zero => intro gh l14 l15 u hf hk0; rw [lL_acts_322] at hf; cases hf
  | succ n ih =>
    intro gh l14 l15 u hf hk0
    rw [lL_acts_322] at hf
    refine g_iload (pc := 322) (x := l15) C dL_acts_322 rfl ?_
    refine g_aload (pc := 324) (x := qn) C dL_acts_324 rfl ?_
    refine g_bipush (pc := 326) (v := 8) C dL_acts_326 (by decide) ?_
    refine g_iald (pc := 328) (i := 8) hf C 73 rfl dL_acts_328 (fun hf => ?_)
    refine g_icmp_ge (pc := 329) (tgt := 375) (x := l15) (y := (gn (Int32.toNatClampNeg 8))) hf C dL_acts_329 (by decide) (fun hf => ?_) (fun hf => ?_)
    · obtain rfl := Option.some.inj hf
      refine g_lv [0, 2, 3, 4] (lv' := [(0, .ref rG), (6, .ref qn), (13, .int l13), (14, .int l14)]) rfl ?_
      exact hk0
    · refine g_aload (pc := 332) (x := qh) C dL_acts_332 rfl ?_
      refine g_iload (pc := 334) (x := l15) C dL_acts_334 rfl ?_
      refine g_aload (pc := 336) (x := qh) C dL_acts_336 rfl ?_
      refine g_iload (pc := 338) (x := l15) C dL_acts_338 rfl ?_
      refine g_iald (pc := 340) (i := l15) hf C 71 rfl dL_acts_340 (fun hf => ?_)
      refine g_iload (pc := 341) (x := l13) C dL_acts_341 rfl ?_
      refine g_callR (pc' := 346) (cs' := 0) (sl' := 0) hf C (fun u => some (.int u)) (fun u hu => gr_S (rest := [.int l15, .ref qh]) C (cL_cool_ (kL k) C.tr (kD k) N (gh (Int32.toNatClampNeg l15)) l13 u hu) (fun ht => va_cwS 2 ht gL_acts_L_cool rfl rfl rfl hsL_cool ⟨(Nat.le_of_ble_eq_true rfl), (Nat.le_of_ble_eq_true rfl)⟩) [] rfl (by decide) rfl rfl (Nat.le_of_ble_eq_true rfl) dL_acts_343 ⟨(Nat.le_of_ble_eq_true rfl), (Nat.le_of_ble_eq_true rfl)⟩) [] rfl rfl rfl rfl (fun u => [.int u, .int l15, .ref qh]) (fun u => rfl) (fun r1 hf => ?_)
      refine g_iast (pc := 346) (i := l15) (x := r1) hf C 71 rfl dL_acts_346 (ws' := (wG (kD k) rG (aS 0) rV rN (aT 0)  ++ (wS (kD k) aS v ++ (wT (kD k) aT tx ++ (wV (kD k) rV aV z ++ (wA10 (kD k) ql gl ++ (wA10 (kD k) qe ge ++ (wA10 (kD k) qw gw ++ (wA10 (kD k) qh (upd gh (Int32.toNatClampNeg l15) r1) ++ (wA10 (kD k) qt gt ++ (wA9 (kD k) qn gn ++ (wA21 (kD k) qp gp)))))))))))) rfl (fun hf => ?_)
      refine g_aload (pc := 347) (x := qh) C dL_acts_347 rfl ?_
      refine g_iload (pc := 349) (x := l15) C dL_acts_349 rfl ?_
      refine g_iald (pc := 351) (i := l15) hf C 71 rfl dL_acts_351 (fun hf => ?_)
      refine g_iload (pc := 352) (x := l14) C dL_acts_352 rfl ?_
      refine g_icmp_le (pc := 354) (tgt := 365) (x := ((upd gh (Int32.toNatClampNeg l15) r1) (Int32.toNatClampNeg l15))) (y := l14) hf C dL_acts_354 (by decide) (fun hf => ?_) (fun hf => ?_)
      · refine g_iload (pc := 365) (x := l14) C dL_acts_365 rfl ?_
        refine g_istore (pc := 367) (lv' := [(14, .int l14), (0, .ref rG), (4, .ref qh), (6, .ref qn), (13, .int l13), (15, .int l15)]) C dL_acts_367 (by decide) rfl ?_
        refine g_iinc (pc := 369) (x := l15) (v := (l15 + 1)) (lv' := [(15, .int (l15 + 1)), (14, .int l14), (0, .ref rG), (4, .ref qh), (6, .ref qn), (13, .int l13)]) C dL_acts_369 rfl rfl (by decide) rfl ?_
        refine g_goto (pc := 372) (tgt := 322) C dL_acts_372 (by decide) ?_
        refine g_lv [2, 3, 4, 5, 1, 0] (lv' := [(0, .ref rG), (4, .ref qh), (6, .ref qn), (13, .int l13), (14, .int l14), (15, .int (l15 + 1))]) rfl ?_
        exact ih (upd gh (Int32.toNatClampNeg l15) r1) l14 (l15 + 1) u hf hk0
      · refine g_aload (pc := 357) (x := qh) C dL_acts_357 rfl ?_
        refine g_iload (pc := 359) (x := l15) C dL_acts_359 rfl ?_
        refine g_iald (pc := 361) (i := l15) hf C 71 rfl dL_acts_361 (fun hf => ?_)
        refine g_goto (pc := 362) (tgt := 367) C dL_acts_362 (by decide) ?_
        refine g_istore (pc := 367) (lv' := [(14, .int ((upd gh (Int32.toNatClampNeg l15) r1) (Int32.toNatClampNeg l15))), (0, .ref rG), (4, .ref qh), (6, .ref qn), (13, .int l13), (15, .int l15)]) C dL_acts_367 (by decide) rfl ?_
        refine g_iinc (pc := 369) (x := l15) (v := (l15 + 1)) (lv' := [(15, .int (l15 + 1)), (14, .int ((upd gh (Int32.toNatClampNeg l15) r1) (Int32.toNatClampNeg l15))), (0, .ref rG), (4, .ref qh), (6, .ref qn), (13, .int l13)]) C dL_acts_369 rfl rfl (by decide) rfl ?_
        refine g_goto (pc := 372) (tgt := 322) C dL_acts_372 (by decide) ?_
        refine g_lv [2, 3, 4, 5, 1, 0] (lv' := [(0, .ref rG), (4, .ref qh), (6, .ref qn), (13, .int l13), (14, .int ((upd gh (Int32.toNatClampNeg l15) r1) (Int32.toNatClampNeg l15))), (15, .int (l15 + 1))]) rfl ?_
        exact ih (upd gh (Int32.toNatClampNeg l15) r1) ((upd gh (Int32.toNatClampNeg l15) r1) (Int32.toNatClampNeg l15)) (l15 + 1) u hf hk0
def fL_acts (N : Nat) (v : VS) (tx : VT) (z : VV) (gl : (Nat → Int32)) (ge : (Nat → Int32)) (gw : (Nat → Int32)) (gh : (Nat → Int32)) (gt : (Nat → Int32)) (gn : (Nat → Int32)) (gp : (Nat → Int32)) (p8 : Int32) (p9 : Int32) : Option (VS × VV × (Nat → Int32) × (Nat → Int32) × (Nat → Int32) × (Nat → Int32) × (Nat → Int32) × (Nat → Int32) × (Nat → Int32) × Bool) := ck 8 9 ((((if (gn (Int32.toNatClampNeg 8)) = (0 : Int32) then some (-1) else ck 8 9 (((fL_low N p9 (gn (Int32.toNatClampNeg 8))).bind fun r2 => some r2))) : Option (Int32)).bind fun r1 => ((fL_low N (p9 >>> (5 &&& 31)) 3).bind fun r3 => (if p8 = 0 then ((fL_adds N v tx z gl ge gw gh gt gn p9).bind fun r4 => some (r4.1, r4.2.1, r4.2.2.1, r4.2.2.2.1, r4.2.2.2.2.1, r4.2.2.2.2.2.1, r4.2.2.2.2.2.2.1, r4.2.2.2.2.2.2.2.1, gp, r4.2.2.2.2.2.2.2.2)) else (if p8 = 1 then ((fL_low N p9 10).bind fun r5 => ((fL_discards N v tx z gl ge gw gh gt gn gp r5).bind fun r6 => some (r6.1, r6.2.1, r6.2.2.1, r6.2.2.2.1, r6.2.2.2.2.1, r6.2.2.2.2.2.1, r6.2.2.2.2.2.2.1, r6.2.2.2.2.2.2.2.1, r6.2.2.2.2.2.2.2.2.1, r6.2.2.2.2.2.2.2.2.2))) else (if p8 = 2 then (if r1 = ((-1) : Int32) then some (v, z, gl, ge, gw, gh, gt, gn, gp, true) else ((fL_where N gp r1).bind fun r7 => (if r7 = ((-1) : Int32) then ck r1 10 (ck r1 10 ((((if ((-900) : Int32) ≤ ((ge (Int32.toNatClampNeg r1)) - (gw (Int32.toNatClampNeg r1))) then ck r1 10 (ck r1 10 (some ((ge (Int32.toNatClampNeg r1)) - (gw (Int32.toNatClampNeg r1))))) else some (-900)) : Option (Int32)).bind fun r8 => ck r1 10 (ck r1 10 (((fX4_calibrate N v z r1).bind fun r9 => ((fL_grade N (upd ge (Int32.toNatClampNeg r1) r8) (upd gw (Int32.toNatClampNeg r1) 0) r1).bind fun r10 => (if r9.2.2 = r10 then some (r9.1, r9.2.1, gl, (upd ge (Int32.toNatClampNeg r1) r8), (upd gw (Int32.toNatClampNeg r1) 0), gh, gt, gn, gp, true) else none)))))))) else some (v, z, gl, ge, gw, gh, gt, gn, gp, true)))) else (if p8 = 3 then (if r1 = ((-1) : Int32) then some (v, z, gl, ge, gw, gh, gt, gn, gp, true) else ((fL_low N (p9 >>> (7 &&& 31)) 60).bind fun r11 => ck r1 10 ((((if ((gh (Int32.toNatClampNeg r1)) + (5 * (1 + r11))) ≤ (1000 : Int32) then ck r1 10 (some ((gh (Int32.toNatClampNeg r1)) + (5 * (1 + r11)))) else some 1000) : Option (Int32)).bind fun r12 => ck r1 10 (((fX4_hold N v z r1 (1 + r11)).bind fun r13 => ck r1 10 ((if r13.2.2 = ((upd gh (Int32.toNatClampNeg r1) r12) (Int32.toNatClampNeg r1)) then some (r13.1, r13.2.1, gl, ge, gw, (upd gh (Int32.toNatClampNeg r1) r12), gt, gn, gp, true) else none)))))))) else (if p8 = 4 then ((fL_low N (p9 >>> (7 &&& 31)) 2).bind fun r14 => (((if r14 = (0 : Int32) then some 60 else some 6) : Option (Int32)).bind fun r15 => ((fL_low N p9 r15).bind fun r16 => ((lL_acts_322 N v tx z gl ge gw gt gn gp (1 + r16) N gh 0 0).bind fun r17 => ck 4 9 (ck 4 9 (((fX4_rest N v z (1 + r16)).bind fun r18 => (if r18.2.2 = r17.2 then some (r18.1, r18.2.1, gl, ge, gw, r17.1, gt, (upd gn (Int32.toNatClampNeg 4) ((gn (Int32.toNatClampNeg 4)) + (1 + r16))), gp, true) else none)))))))) else (if p8 = 5 then ((fL_low N p9 4).bind fun r19 => ck r19 9 ((((if r19 = (0 : Int32) then ((fL_low N (p9 >>> (2 &&& 31)) 61).bind fun r24 => some r24) else (if r19 = (1 : Int32) then ((fL_low N (p9 >>> (2 &&& 31)) 1001).bind fun r23 => some r23) else (if r19 = (2 : Int32) then ((fL_low N (p9 >>> (2 &&& 31)) 21).bind fun r22 => some r22) else ((fL_low N (p9 >>> (2 &&& 31)) 201).bind fun r21 => some r21)))) : Option (Int32)).bind fun r20 => ck r19 9 (ck r19 9 (((fX4_set N v z r19 ((upd gn (Int32.toNatClampNeg r19) r20) (Int32.toNatClampNeg r19))).bind fun r25 => (if r25.2.2 = (gn (Int32.toNatClampNeg r19)) then some (r25.1, r25.2.1, gl, ge, gw, gh, gt, (upd gn (Int32.toNatClampNeg r19) r20), gp, true) else none))))))) else (if p8 = 6 then ck (7 * r3) 21 ((if (gp (Int32.toNatClampNeg (7 * r3))) = (0 : Int32) then ((fX4_stackOf N v r3 4).bind fun r28 => (if r28 = ((-1) : Int32) then some (v, z, gl, ge, gw, gh, gt, gn, gp, true) else none)) else ck (7 * r3) 21 (ck ((7 * r3) + (gp (Int32.toNatClampNeg (7 * r3)))) 21 (((fL_rubs N gw gh gn gp r3).bind fun r26 => ck (7 * r3) 21 (ck (7 * r3) 21 (ck 6 9 (ck 6 9 (((fX4_takeOff N v z r3).bind fun r27 => (if r27.2.2 = (gp (Int32.toNatClampNeg ((7 * r3) + (gp (Int32.toNatClampNeg (7 * r3)))))) then some (r27.1, r27.2.1, gl, ge, r26.1, r26.2, gt, (upd gn (Int32.toNatClampNeg 6) ((gn (Int32.toNatClampNeg 6)) + 1)), (upd gp (Int32.toNatClampNeg (7 * r3)) ((gp (Int32.toNatClampNeg (7 * r3))) - 1)), true) else none))))))))))) else (if p8 = 7 then ck (7 * r3) 21 ((if (gp (Int32.toNatClampNeg (7 * r3))) = (0 : Int32) then ((fX4_stackOf N v r3 4).bind fun r31 => (if r31 = ((-1) : Int32) then some (v, z, gl, ge, gw, gh, gt, gn, gp, true) else none)) else ck (7 * r3) 21 (ck ((7 * r3) + (gp (Int32.toNatClampNeg (7 * r3)))) 21 (((fL_rubs N gw gh gn gp r3).bind fun r29 => ck (7 * r3) 21 (ck (7 * r3) 21 (ck 6 9 (ck 6 9 (((fX4_takeOff N v z r3).bind fun r30 => (if r30.2.2 = (gp (Int32.toNatClampNeg ((7 * r3) + (gp (Int32.toNatClampNeg (7 * r3)))))) then some (r30.1, r30.2.1, gl, ge, r29.1, r29.2, gt, (upd gn (Int32.toNatClampNeg 6) ((gn (Int32.toNatClampNeg 6)) + 1)), (upd gp (Int32.toNatClampNeg (7 * r3)) ((gp (Int32.toNatClampNeg (7 * r3))) - 1)), true) else none))))))))))) else (if p8 = 8 then ck 8 9 ((((if (gn (Int32.toNatClampNeg 8)) = (0 : Int32) then some 700 else ck r1 10 (ck 8 9 (((fL_low N (p9 >>> (7 &&& 31)) (gn (Int32.toNatClampNeg 8))).bind fun r33 => ck r33 10 (some ((gl (Int32.toNatClampNeg r1)) + (gl (Int32.toNatClampNeg r33)))))))) : Option (Int32)).bind fun r32 => ((fL_makes N v z gl ge gw gh gt gn gp r3 r32).bind fun r34 => some (r34.1, r34.2.1, gl, ge, r34.2.2.1, r34.2.2.2.1, r34.2.2.2.2.1, r34.2.2.2.2.2.1, r34.2.2.2.2.2.2.1, r34.2.2.2.2.2.2.2)))) else (if r1 = ((-1) : Int32) then some (v, z, gl, ge, gw, gh, gt, gn, gp, true) else ((fX4_refusal N v r3 r1).bind fun r35 => ((fL_reason N ge gw gh gn gp r3 r1).bind fun r36 => (if r35 = r36 then ((fX4_wring N v z r3 r1).bind fun r37 => ((fL_wrings N ge gw gh gt gn gp r3 r1).bind fun r38 => (if r37.2.2 = r38.2.2.2.2.2 then some (r37.1, r37.2.1, gl, ge, r38.1, r38.2.1, r38.2.2.1, r38.2.2.2.1, r38.2.2.2.2.1, true) else none))) else none))))))))))))))))
set_option maxRecDepth 100000 in
set_option maxHeartbeats 4000000 in
theorem wkL_acts {k : Kt} (C : gC k cL_acts 19 RL wsL_acts rmL_acts "acts") (N : Nat) (rG : Nat) (rN : Nat) (aS : Nat → Nat) (aT : Nat → Nat) (rV : Nat) (aV : Nat → Nat) (ql : Nat) (qe : Nat) (qw : Nat) (qh : Nat) (qt : Nat) (qn : Nat) (qp : Nat) (v : VS) (tx : VT) (z : VV) (gl : (Nat → Int32)) (ge : (Nat → Int32)) (gw : (Nat → Int32)) (gh : (Nat → Int32)) (gt : (Nat → Int32)) (gn : (Nat → Int32)) (gp : (Nat → Int32)) (p8 : Int32) (p9 : Int32) (r : VS × VV × (Nat → Int32) × (Nat → Int32) × (Nat → Int32) × (Nat → Int32) × (Nat → Int32) × (Nat → Int32) × (Nat → Int32) × Bool) (hf : fL_acts N v tx z gl ge gw gh gt gn gp p8 p9 = some r) (E : gE k (wG (kD k) rG (aS 0) rV rN (aT 0) ++ (wS (kD k) aS v ++ (wT (kD k) aT tx ++ (wV (kD k) rV aV z ++ (wA10 (kD k) ql gl ++ (wA10 (kD k) qe ge ++ (wA10 (kD k) qw gw ++ (wA10 (kD k) qh gh ++ (wA10 (kD k) qt gt ++ (wA9 (kD k) qn gn ++ (wA21 (kD k) qp gp))))))))))) (fun rv w => rv = some (.int (b2i r.2.2.2.2.2.2.2.2.2)) ∧ ∃ a : Nat → Nat, w = (wG (kD k) rG (aS 0) rV rN (aT 0) ++ (wS (kD k) aS r.1 ++ (wT (kD k) aT tx ++ (wV (kD k) rV a r.2.1 ++ (wA10 (kD k) ql r.2.2.1 ++ (wA10 (kD k) qe r.2.2.2.1 ++ (wA10 (kD k) qw r.2.2.2.2.1 ++ (wA10 (kD k) qh r.2.2.2.2.2.1 ++ (wA10 (kD k) qt r.2.2.2.2.2.2.1 ++ (wA9 (kD k) qn r.2.2.2.2.2.2.2.1 ++ (wA21 (kD k) qp r.2.2.2.2.2.2.2.2.1)))))))))))) (fun _ _ => False) 0 0 (some .boolean) []) : gG k (wG (kD k) rG (aS 0) rV rN (aT 0) ++ (wS (kD k) aS v ++ (wT (kD k) aT tx ++ (wV (kD k) rV aV z ++ (wA10 (kD k) ql gl ++ (wA10 (kD k) qe ge ++ (wA10 (kD k) qw gw ++ (wA10 (kD k) qh gh ++ (wA10 (kD k) qt gt ++ (wA9 (kD k) qn gn ++ (wA21 (kD k) qp gp))))))))))) [(0, .ref rG), (1, .ref ql), (2, .ref qe), (3, .ref qw), (4, .ref qh), (5, .ref qt), (6, .ref qn), (7, .ref qp), (8, .int p8), (9, .int p9)] 0 0 0 [] := by
  unfold fL_acts at hf
  refine g_aload (pc := 0) (x := qn) C dL_acts_0 rfl ?_
  refine g_bipush (pc := 2) (v := 8) C dL_acts_2 (by decide) ?_
  refine g_iald (pc := 4) (i := 8) hf C 73 rfl dL_acts_4 (fun hf => ?_)
  refine g_join (Q := fun (u : Int32) => gG k (wG (kD k) rG (aS 0) rV rN (aT 0)  ++ (wS (kD k) aS v ++ (wT (kD k) aT tx ++ (wV (kD k) rV aV z ++ (wA10 (kD k) ql gl ++ (wA10 (kD k) qe ge ++ (wA10 (kD k) qw gw ++ (wA10 (kD k) qh gh ++ (wA10 (kD k) qt gt ++ (wA9 (kD k) qn gn ++ (wA21 (kD k) qp gp))))))))))) [(0, .ref rG), (1, .ref ql), (2, .ref qe), (3, .ref qw), (4, .ref qh), (5, .ref qt), (6, .ref qn), (7, .ref qp), (8, .int p8), (9, .int p9)] 0 0 22 [.int u]) hf (fun r1 hf => ?_) (fun r1 hf K1 => ?_)
  · refine g_istore (pc := 22) (lv' := [(10, .int r1), (0, .ref rG), (1, .ref ql), (2, .ref qe), (3, .ref qw), (4, .ref qh), (5, .ref qt), (6, .ref qn), (7, .ref qp), (8, .int p8), (9, .int p9)]) C dL_acts_22 (by decide) rfl ?_
    refine g_iload (pc := 24) (x := p9) C dL_acts_24 rfl ?_
    refine g_iconst (pc := 26) (v := 5) C dL_acts_26 (by decide) ?_
    refine g_ishr (pc := 27) (x := p9) (y := 5) C dL_acts_27 ?_
    refine g_iconst (pc := 28) (v := 3) C dL_acts_28 (by decide) ?_
    refine g_callR (pc' := 32) (cs' := 0) (sl' := 0) hf C (fun u => some (.int u)) (fun u hu => gr_S (rest := []) C (cL_low_ (kL k) C.tr (kD k) N (p9 >>> (5 &&& 31)) 3 u hu) (fun ht => va_cwS 2 ht gL_acts_L_low rfl rfl rfl hsL_low ⟨(Nat.le_of_ble_eq_true rfl), (Nat.le_of_ble_eq_true rfl)⟩) [] rfl (by decide) rfl rfl (Nat.le_of_ble_eq_true rfl) dL_acts_29 ⟨(Nat.le_of_ble_eq_true rfl), (Nat.le_of_ble_eq_true rfl)⟩) [] rfl rfl rfl rfl (fun u => [.int u]) (fun u => rfl) (fun r3 hf => ?_)
    refine g_istore (pc := 32) (lv' := [(11, .int r3), (10, .int r1), (0, .ref rG), (1, .ref ql), (2, .ref qe), (3, .ref qw), (4, .ref qh), (5, .ref qt), (6, .ref qn), (7, .ref qp), (8, .int p8), (9, .int p9)]) C dL_acts_32 (by decide) rfl ?_
    refine g_iload (pc := 34) (x := p8) C dL_acts_34 rfl ?_
    refine g_split hf (fun e hf => ?_) (fun n36_0 hf => ?_)
    · refine g_tsw (pc := 36) (tgt := 88) C dL_acts_36 e (by decide) (by decide) rfl (by decide) ?_
      refine g_aload_n (pc := 88) (x := rG) C dL_acts_88 rfl ?_
      refine g_aload_n (pc := 89) (x := ql) C dL_acts_89 rfl ?_
      refine g_aload_n (pc := 90) (x := qe) C dL_acts_90 rfl ?_
      refine g_aload_n (pc := 91) (x := qw) C dL_acts_91 rfl ?_
      refine g_aload (pc := 92) (x := qh) C dL_acts_92 rfl ?_
      refine g_aload (pc := 94) (x := qt) C dL_acts_94 rfl ?_
      refine g_aload (pc := 96) (x := qn) C dL_acts_96 rfl ?_
      refine g_iload (pc := 98) (x := p9) C dL_acts_98 rfl ?_
      refine g_callPA (wr := wA21 (kD k) qp gp) (pc' := 103) (cs' := 0) (sl' := 0) hf C (fun u => some (.int (b2i u.2.2.2.2.2.2.2.2))) (fun u a => (wG (kD k) rG (aS 0) rV rN (aT 0) ++ (wS (kD k) aS u.1 ++ (wT (kD k) aT tx ++ (wV (kD k) rV a u.2.1 ++ (wA10 (kD k) ql u.2.2.1 ++ (wA10 (kD k) qe u.2.2.2.1 ++ (wA10 (kD k) qw u.2.2.2.2.1 ++ (wA10 (kD k) qh u.2.2.2.2.2.1 ++ (wA10 (kD k) qt u.2.2.2.2.2.2.1 ++ (wA9 (kD k) qn u.2.2.2.2.2.2.2.1))))))))))) ((List.Perm.refl _).trans as10) (fun u hu => gr_S (rest := []) C (cL_adds_ (kL k) C.tr (kD k) N rG rN aS aT rV aV ql qe qw qh qt qn v tx z gl ge gw gh gt gn p9 u hu) (fun ht => va_cwS 8 ht gL_acts_L_adds rfl rfl rfl hsL_adds ⟨(Nat.le_of_ble_eq_true rfl), (Nat.le_of_ble_eq_true rfl)⟩) _ (rg_map _ _) (rg_nd _) rfl rfl (Nat.le_of_ble_eq_true rfl) dL_acts_100 ⟨(Nat.le_of_ble_eq_true rfl), (Nat.le_of_ble_eq_true rfl)⟩) (ws' := fun u a => (wG (kD k) rG (aS 0) rV rN (aT 0)  ++ (wS (kD k) aS u.1 ++ (wT (kD k) aT tx ++ (wV (kD k) rV a u.2.1 ++ (wA10 (kD k) ql u.2.2.1 ++ (wA10 (kD k) qe u.2.2.2.1 ++ (wA10 (kD k) qw u.2.2.2.2.1 ++ (wA10 (kD k) qh u.2.2.2.2.2.1 ++ (wA10 (kD k) qt u.2.2.2.2.2.2.1 ++ (wA9 (kD k) qn u.2.2.2.2.2.2.2.1 ++ (wA21 (kD k) qp gp)))))))))))) (fun u a => (as10.symm.trans (List.Perm.refl _))) rfl rfl rfl (fun u => [.int (b2i u.2.2.2.2.2.2.2.2)]) (fun u => rfl) (fun r4 aV4 hf => ?_)
      obtain rfl := Option.some.inj hf
      exact g_bret (b := r4.2.2.2.2.2.2.2.2) C E dL_acts_103 (Nat.le_of_ble_eq_true rfl) (Nat.le_of_ble_eq_true rfl) ⟨rfl, _, rfl⟩
    refine g_split hf (fun e hf => ?_) (fun n36_1 hf => ?_)
    · refine g_tsw (pc := 36) (tgt := 104) C dL_acts_36 e (by decide) (by decide) rfl (by decide) ?_
      refine g_aload_n (pc := 104) (x := rG) C dL_acts_104 rfl ?_
      refine g_aload_n (pc := 105) (x := ql) C dL_acts_105 rfl ?_
      refine g_aload_n (pc := 106) (x := qe) C dL_acts_106 rfl ?_
      refine g_aload_n (pc := 107) (x := qw) C dL_acts_107 rfl ?_
      refine g_aload (pc := 108) (x := qh) C dL_acts_108 rfl ?_
      refine g_aload (pc := 110) (x := qt) C dL_acts_110 rfl ?_
      refine g_aload (pc := 112) (x := qn) C dL_acts_112 rfl ?_
      refine g_aload (pc := 114) (x := qp) C dL_acts_114 rfl ?_
      refine g_iload (pc := 116) (x := p9) C dL_acts_116 rfl ?_
      refine g_bipush (pc := 118) (v := 10) C dL_acts_118 (by decide) ?_
      refine g_callR (pc' := 123) (cs' := 0) (sl' := 0) hf C (fun u => some (.int u)) (fun u hu => gr_S (rest := [.ref qp, .ref qn, .ref qt, .ref qh, .ref qw, .ref qe, .ref ql, .ref rG]) C (cL_low_ (kL k) C.tr (kD k) N p9 10 u hu) (fun ht => va_cwS 2 ht gL_acts_L_low rfl rfl rfl hsL_low ⟨(Nat.le_of_ble_eq_true rfl), (Nat.le_of_ble_eq_true rfl)⟩) [] rfl (by decide) rfl rfl (Nat.le_of_ble_eq_true rfl) dL_acts_120 ⟨(Nat.le_of_ble_eq_true rfl), (Nat.le_of_ble_eq_true rfl)⟩) [] rfl rfl rfl rfl (fun u => [.int u, .ref qp, .ref qn, .ref qt, .ref qh, .ref qw, .ref qe, .ref ql, .ref rG]) (fun u => rfl) (fun r5 hf => ?_)
      refine g_callPA (wr := ([] : va_W)) (pc' := 126) (cs' := 0) (sl' := 0) hf C (fun u => some (.int (b2i u.2.2.2.2.2.2.2.2.2))) (fun u a => (wG (kD k) rG (aS 0) rV rN (aT 0) ++ (wS (kD k) aS u.1 ++ (wT (kD k) aT tx ++ (wV (kD k) rV a u.2.1 ++ (wA10 (kD k) ql u.2.2.1 ++ (wA10 (kD k) qe u.2.2.2.1 ++ (wA10 (kD k) qw u.2.2.2.2.1 ++ (wA10 (kD k) qh u.2.2.2.2.2.1 ++ (wA10 (kD k) qt u.2.2.2.2.2.2.1 ++ (wA9 (kD k) qn u.2.2.2.2.2.2.2.1 ++ (wA21 (kD k) qp u.2.2.2.2.2.2.2.2.1)))))))))))) ((List.Perm.refl _).trans (List.Perm.of_eq (List.append_nil _).symm)) (fun u hu => gr_S (rest := []) C (cL_discards_ (kL k) C.tr (kD k) N rG rN aS aT rV aV ql qe qw qh qt qn qp v tx z gl ge gw gh gt gn gp r5 u hu) (fun ht => va_cwS 9 ht gL_acts_L_discards rfl rfl rfl hsL_discards ⟨(Nat.le_of_ble_eq_true rfl), (Nat.le_of_ble_eq_true rfl)⟩) _ (rg_map _ _) (rg_nd _) rfl rfl (Nat.le_of_ble_eq_true rfl) dL_acts_123 ⟨(Nat.le_of_ble_eq_true rfl), (Nat.le_of_ble_eq_true rfl)⟩) (ws' := fun u a => (wG (kD k) rG (aS 0) rV rN (aT 0)  ++ (wS (kD k) aS u.1 ++ (wT (kD k) aT tx ++ (wV (kD k) rV a u.2.1 ++ (wA10 (kD k) ql u.2.2.1 ++ (wA10 (kD k) qe u.2.2.2.1 ++ (wA10 (kD k) qw u.2.2.2.2.1 ++ (wA10 (kD k) qh u.2.2.2.2.2.1 ++ (wA10 (kD k) qt u.2.2.2.2.2.2.1 ++ (wA9 (kD k) qn u.2.2.2.2.2.2.2.1 ++ (wA21 (kD k) qp u.2.2.2.2.2.2.2.2.1)))))))))))) (fun u a => ((List.Perm.of_eq (List.append_nil _)).trans (List.Perm.refl _))) rfl rfl rfl (fun u => [.int (b2i u.2.2.2.2.2.2.2.2.2)]) (fun u => rfl) (fun r6 aV6 hf => ?_)
      obtain rfl := Option.some.inj hf
      exact g_bret (b := r6.2.2.2.2.2.2.2.2.2) C E dL_acts_126 (Nat.le_of_ble_eq_true rfl) (Nat.le_of_ble_eq_true rfl) ⟨rfl, _, rfl⟩
    refine g_split hf (fun e hf => ?_) (fun n36_2 hf => ?_)
    · refine g_tsw (pc := 36) (tgt := 127) C dL_acts_36 e (by decide) (by decide) rfl (by decide) ?_
      refine g_iload (pc := 127) (x := r1) C dL_acts_127 rfl ?_
      refine g_iconst (pc := 129) (v := (-1)) C dL_acts_129 (by decide) ?_
      refine g_icmp_eq (pc := 130) (tgt := 144) (x := r1) (y := (-1)) hf C dL_acts_130 (by decide) (fun hf => ?_) (fun hf => ?_)
      · refine g_iconst (pc := 144) (v := 1) C dL_acts_144 (by decide) ?_
        obtain rfl := Option.some.inj hf
        exact g_bret (b := true) C E dL_acts_145 (Nat.le_of_ble_eq_true rfl) (Nat.le_of_ble_eq_true rfl) ⟨rfl, _, rfl⟩
      · refine g_aload (pc := 133) (x := qp) C dL_acts_133 rfl ?_
        refine g_iload (pc := 135) (x := r1) C dL_acts_135 rfl ?_
        refine g_callWA (wr := wG (kD k) rG (aS 0) rV rN (aT 0)  ++ (wS (kD k) aS v ++ (wT (kD k) aT tx ++ (wV (kD k) rV aV z ++ (wA10 (kD k) ql gl ++ (wA10 (kD k) qe ge ++ (wA10 (kD k) qw gw ++ (wA10 (kD k) qh gh ++ (wA10 (kD k) qt gt ++ (wA9 (kD k) qn gn)))))))))) (pc' := 140) (cs' := 0) (sl' := 0) hf C (fun u => some (.int u)) (fun u => (wA21 (kD k) qp gp)) (pm0 (pm0 (pm0 (pm0 (pm0 (pm0 (pm0 (pm0 (pm0 pmL))))))))) (fun u hu => gr_S (rest := []) C (cL_where_ (kL k) C.tr (kD k) N qp gp r1 u hu) (fun ht => va_cwS 2 ht gL_acts_L_where rfl rfl rfl hsL_where ⟨(Nat.le_of_ble_eq_true rfl), (Nat.le_of_ble_eq_true rfl)⟩) _ (rg_map _ _) (rg_nd _) rfl rfl (Nat.le_of_ble_eq_true rfl) dL_acts_137 ⟨(Nat.le_of_ble_eq_true rfl), (Nat.le_of_ble_eq_true rfl)⟩) (ws' := fun u => (wG (kD k) rG (aS 0) rV rN (aT 0)  ++ (wS (kD k) aS v ++ (wT (kD k) aT tx ++ (wV (kD k) rV aV z ++ (wA10 (kD k) ql gl ++ (wA10 (kD k) qe ge ++ (wA10 (kD k) qw gw ++ (wA10 (kD k) qh gh ++ (wA10 (kD k) qt gt ++ (wA9 (kD k) qn gn ++ (wA21 (kD k) qp gp)))))))))))) (fun u => ((pm0 (List.Perm.refl _)).trans (pmc ((pm0 (List.Perm.refl _)).trans (pmc ((pm0 (List.Perm.refl _)).trans (pmc ((pm0 (List.Perm.refl _)).trans (pmc ((pm0 (List.Perm.refl _)).trans (pmc ((pm0 (List.Perm.refl _)).trans (pmc ((pm0 (List.Perm.refl _)).trans (pmc ((pm0 (List.Perm.refl _)).trans (pmc ((pm0 (List.Perm.refl _)).trans (pmc pmL))))))))))))))))))) rfl rfl rfl (fun u => [.int u]) (fun u => rfl) (fun r7 hf => ?_)
        refine g_iconst (pc := 140) (v := (-1)) C dL_acts_140 (by decide) ?_
        refine g_icmp_eq (pc := 141) (tgt := 146) (x := r7) (y := (-1)) hf C dL_acts_141 (by decide) (fun hf => ?_) (fun hf => ?_)
        · refine g_aload_n (pc := 146) (x := qe) C dL_acts_146 rfl ?_
          refine g_iload (pc := 147) (x := r1) C dL_acts_147 rfl ?_
          refine g_aload_n (pc := 149) (x := qe) C dL_acts_149 rfl ?_
          refine g_iload (pc := 150) (x := r1) C dL_acts_150 rfl ?_
          refine g_iald (pc := 152) (i := r1) hf C 69 rfl dL_acts_152 (fun hf => ?_)
          refine g_aload_n (pc := 153) (x := qw) C dL_acts_153 rfl ?_
          refine g_iload (pc := 154) (x := r1) C dL_acts_154 rfl ?_
          refine g_iald (pc := 156) (i := r1) hf C 70 rfl dL_acts_156 (fun hf => ?_)
          refine g_isub (pc := 157) (x := (ge (Int32.toNatClampNeg r1))) (y := (gw (Int32.toNatClampNeg r1))) C dL_acts_157 ?_
          refine g_sipush (pc := 158) (v := (-900)) C dL_acts_158 (by decide) ?_
          refine g_join (Q := fun (u : Int32) => gG k (wG (kD k) rG (aS 0) rV rN (aT 0)  ++ (wS (kD k) aS v ++ (wT (kD k) aT tx ++ (wV (kD k) rV aV z ++ (wA10 (kD k) ql gl ++ (wA10 (kD k) qe ge ++ (wA10 (kD k) qw gw ++ (wA10 (kD k) qh gh ++ (wA10 (kD k) qt gt ++ (wA9 (kD k) qn gn ++ (wA21 (kD k) qp gp))))))))))) [(0, .ref rG), (2, .ref qe), (3, .ref qw), (10, .int r1)] 0 0 179 [.int u, .int r1, .ref qe]) hf (fun r8 hf => ?_) (fun r8 hf K8 => ?_)
          · refine g_iast (pc := 179) (i := r1) (x := r8) hf C 69 rfl dL_acts_179 (ws' := (wG (kD k) rG (aS 0) rV rN (aT 0)  ++ (wS (kD k) aS v ++ (wT (kD k) aT tx ++ (wV (kD k) rV aV z ++ (wA10 (kD k) ql gl ++ (wA10 (kD k) qe (upd ge (Int32.toNatClampNeg r1) r8) ++ (wA10 (kD k) qw gw ++ (wA10 (kD k) qh gh ++ (wA10 (kD k) qt gt ++ (wA9 (kD k) qn gn ++ (wA21 (kD k) qp gp)))))))))))) rfl (fun hf => ?_)
            refine g_aload_n (pc := 180) (x := qw) C dL_acts_180 rfl ?_
            refine g_iload (pc := 181) (x := r1) C dL_acts_181 rfl ?_
            refine g_iconst (pc := 183) (v := 0) C dL_acts_183 (by decide) ?_
            refine g_iast (pc := 184) (i := r1) (x := 0) hf C 70 rfl dL_acts_184 (ws' := (wG (kD k) rG (aS 0) rV rN (aT 0)  ++ (wS (kD k) aS v ++ (wT (kD k) aT tx ++ (wV (kD k) rV aV z ++ (wA10 (kD k) ql gl ++ (wA10 (kD k) qe (upd ge (Int32.toNatClampNeg r1) r8) ++ (wA10 (kD k) qw (upd gw (Int32.toNatClampNeg r1) 0) ++ (wA10 (kD k) qh gh ++ (wA10 (kD k) qt gt ++ (wA9 (kD k) qn gn ++ (wA21 (kD k) qp gp)))))))))))) rfl (fun hf => ?_)
            refine g_aload_n (pc := 185) (x := rG) C dL_acts_185 rfl ?_
            refine g_iload (pc := 186) (x := r1) C dL_acts_186 rfl ?_
            refine g_callPA (wr := wT (kD k) aT tx ++ (wA10 (kD k) ql gl ++ (wA10 (kD k) qe (upd ge (Int32.toNatClampNeg r1) r8) ++ (wA10 (kD k) qw (upd gw (Int32.toNatClampNeg r1) 0) ++ (wA10 (kD k) qh gh ++ (wA10 (kD k) qt gt ++ (wA9 (kD k) qn gn ++ (wA21 (kD k) qp gp)))))))) (pc' := 191) (cs' := 0) (sl' := 0) hf C (fun u => some (.int u.2.2)) (fun u a => (wG (kD k) rG (aS 0) rV rN (aT 0) ++ (wS (kD k) aS u.1 ++ (wV (kD k) rV a u.2.1)))) ((pmc (pmc (pm0 (List.Perm.refl _)))).trans as3) (fun u hu => gr_V (rest := []) C (cX4_calibrate_ (kL k) C.tr (kD k) N rG rN (aT 0) aS rV aV v z r1 u hu) (fun ht => cwV 1 ht gL_acts_X4_calibrate rfl rfl rfl hdX4_calibrate ⟨(Nat.le_of_ble_eq_true rfl), (Nat.le_of_ble_eq_true rfl)⟩) 0 rfl rfl _ (rg_map _ _) (rg_nd _) rfl rfl (Nat.le_of_ble_eq_true rfl) dL_acts_188 ⟨(Nat.le_of_ble_eq_true rfl), (Nat.le_of_ble_eq_true rfl)⟩) (ws' := fun u a => (wG (kD k) rG (aS 0) rV rN (aT 0)  ++ (wS (kD k) aS u.1 ++ (wT (kD k) aT tx ++ (wV (kD k) rV a u.2.1 ++ (wA10 (kD k) ql gl ++ (wA10 (kD k) qe (upd ge (Int32.toNatClampNeg r1) r8) ++ (wA10 (kD k) qw (upd gw (Int32.toNatClampNeg r1) 0) ++ (wA10 (kD k) qh gh ++ (wA10 (kD k) qt gt ++ (wA9 (kD k) qn gn ++ (wA21 (kD k) qp gp)))))))))))) (fun u a => (as3.symm.trans (pmc (pmc (pm0 (List.Perm.refl _)))))) rfl rfl rfl (fun u => [.int u.2.2]) (fun u => rfl) (fun r9 aV9 hf => ?_)
            refine g_aload_n (pc := 191) (x := qe) C dL_acts_191 rfl ?_
            refine g_aload_n (pc := 192) (x := qw) C dL_acts_192 rfl ?_
            refine g_iload (pc := 193) (x := r1) C dL_acts_193 rfl ?_
            refine g_callWA (wr := wG (kD k) rG (aS 0) rV rN (aT 0)  ++ (wS (kD k) aS r9.1 ++ (wT (kD k) aT tx ++ (wV (kD k) rV aV9 r9.2.1 ++ (wA10 (kD k) ql gl ++ (wA10 (kD k) qh gh ++ (wA10 (kD k) qt gt ++ (wA9 (kD k) qn gn ++ (wA21 (kD k) qp gp))))))))) (pc' := 198) (cs' := 0) (sl' := 0) hf C (fun u => some (.int u)) (fun u => (wA10 (kD k) qe (upd ge (Int32.toNatClampNeg r1) r8) ++ (wA10 (kD k) qw (upd gw (Int32.toNatClampNeg r1) 0)))) (((pm0 (pm0 (pm0 (pm0 (pm0 (List.Perm.refl _)))))).trans (pmc (pm0 (pm0 (pm0 (pm0 (pm0 (List.Perm.refl _)))))))).trans as2) (fun u hu => gr_S (rest := [.int r9.2.2]) C (cL_grade_ (kL k) C.tr (kD k) N qe qw (upd ge (Int32.toNatClampNeg r1) r8) (upd gw (Int32.toNatClampNeg r1) 0) r1 u hu) (fun ht => va_cwS 3 ht gL_acts_L_grade rfl rfl rfl hsL_grade ⟨(Nat.le_of_ble_eq_true rfl), (Nat.le_of_ble_eq_true rfl)⟩) _ (rg_map _ _) (rg_nd _) rfl rfl (Nat.le_of_ble_eq_true rfl) dL_acts_195 ⟨(Nat.le_of_ble_eq_true rfl), (Nat.le_of_ble_eq_true rfl)⟩) (ws' := fun u => (wG (kD k) rG (aS 0) rV rN (aT 0)  ++ (wS (kD k) aS r9.1 ++ (wT (kD k) aT tx ++ (wV (kD k) rV aV9 r9.2.1 ++ (wA10 (kD k) ql gl ++ (wA10 (kD k) qe (upd ge (Int32.toNatClampNeg r1) r8) ++ (wA10 (kD k) qw (upd gw (Int32.toNatClampNeg r1) 0) ++ (wA10 (kD k) qh gh ++ (wA10 (kD k) qt gt ++ (wA9 (kD k) qn gn ++ (wA21 (kD k) qp gp)))))))))))) (fun u => (as2.symm.trans ((pm0 (pm0 (List.Perm.refl _))).trans (pmc ((pm0 (pm0 (List.Perm.refl _))).trans (pmc ((pm0 (pm0 (List.Perm.refl _))).trans (pmc ((pm0 (pm0 (List.Perm.refl _))).trans (pmc (pm0 (pm0 (List.Perm.refl _))))))))))))) rfl rfl rfl (fun u => [.int u, .int r9.2.2]) (fun u => rfl) (fun r10 hf => ?_)
            refine g_icmp_ne (pc := 198) (tgt := 205) (x := r9.2.2) (y := r10) hf C dL_acts_198 (by decide) (fun hf => ?_) (fun hf => ?_)
            · cases hf
            · refine g_iconst (pc := 201) (v := 1) C dL_acts_201 (by decide) ?_
              refine g_goto (pc := 202) (tgt := 206) C dL_acts_202 (by decide) ?_
              obtain rfl := Option.some.inj hf
              exact g_bret (b := true) C E dL_acts_206 (Nat.le_of_ble_eq_true rfl) (Nat.le_of_ble_eq_true rfl) ⟨rfl, _, rfl⟩
          · refine g_icmp_ge (pc := 161) (tgt := 170) (x := ((ge (Int32.toNatClampNeg r1)) - (gw (Int32.toNatClampNeg r1)))) (y := (-900)) hf C dL_acts_161 (by decide) (fun hf => ?_) (fun hf => ?_)
            · refine g_aload_n (pc := 170) (x := qe) C dL_acts_170 rfl ?_
              refine g_iload (pc := 171) (x := r1) C dL_acts_171 rfl ?_
              refine g_iald (pc := 173) (i := r1) hf C 69 rfl dL_acts_173 (fun hf => ?_)
              refine g_aload_n (pc := 174) (x := qw) C dL_acts_174 rfl ?_
              refine g_iload (pc := 175) (x := r1) C dL_acts_175 rfl ?_
              refine g_iald (pc := 177) (i := r1) hf C 70 rfl dL_acts_177 (fun hf => ?_)
              refine g_isub (pc := 178) (x := (ge (Int32.toNatClampNeg r1))) (y := (gw (Int32.toNatClampNeg r1))) C dL_acts_178 ?_
              obtain rfl := Option.some.inj hf
              refine g_lv [2, 4, 5, 1] (lv' := [(0, .ref rG), (2, .ref qe), (3, .ref qw), (10, .int r1)]) rfl ?_
              exact K8
            · refine g_sipush (pc := 164) (v := (-900)) C dL_acts_164 (by decide) ?_
              refine g_goto (pc := 167) (tgt := 179) C dL_acts_167 (by decide) ?_
              obtain rfl := Option.some.inj hf
              refine g_lv [2, 4, 5, 1] (lv' := [(0, .ref rG), (2, .ref qe), (3, .ref qw), (10, .int r1)]) rfl ?_
              exact K8
        · refine g_iconst (pc := 144) (v := 1) C dL_acts_144 (by decide) ?_
          obtain rfl := Option.some.inj hf
          exact g_bret (b := true) C E dL_acts_145 (Nat.le_of_ble_eq_true rfl) (Nat.le_of_ble_eq_true rfl) ⟨rfl, _, rfl⟩
    refine g_split hf (fun e hf => ?_) (fun n36_3 hf => ?_)
    · refine g_tsw (pc := 36) (tgt := 207) C dL_acts_36 e (by decide) (by decide) rfl (by decide) ?_
      refine g_iload (pc := 207) (x := r1) C dL_acts_207 rfl ?_
      refine g_iconst (pc := 209) (v := (-1)) C dL_acts_209 (by decide) ?_
      refine g_icmp_ne (pc := 210) (tgt := 215) (x := r1) (y := (-1)) hf C dL_acts_210 (by decide) (fun hf => ?_) (fun hf => ?_)
      · refine g_iconst (pc := 215) (v := 1) C dL_acts_215 (by decide) ?_
        refine g_iload (pc := 216) (x := p9) C dL_acts_216 rfl ?_
        refine g_bipush (pc := 218) (v := 7) C dL_acts_218 (by decide) ?_
        refine g_ishr (pc := 220) (x := p9) (y := 7) C dL_acts_220 ?_
        refine g_bipush (pc := 221) (v := 60) C dL_acts_221 (by decide) ?_
        refine g_callR (pc' := 226) (cs' := 0) (sl' := 0) hf C (fun u => some (.int u)) (fun u hu => gr_S (rest := [.int 1]) C (cL_low_ (kL k) C.tr (kD k) N (p9 >>> (7 &&& 31)) 60 u hu) (fun ht => va_cwS 2 ht gL_acts_L_low rfl rfl rfl hsL_low ⟨(Nat.le_of_ble_eq_true rfl), (Nat.le_of_ble_eq_true rfl)⟩) [] rfl (by decide) rfl rfl (Nat.le_of_ble_eq_true rfl) dL_acts_223 ⟨(Nat.le_of_ble_eq_true rfl), (Nat.le_of_ble_eq_true rfl)⟩) [] rfl rfl rfl rfl (fun u => [.int u, .int 1]) (fun u => rfl) (fun r11 hf => ?_)
        refine g_iadd (pc := 226) (x := 1) (y := r11) C dL_acts_226 ?_
        refine g_istore (pc := 227) (lv' := [(12, .int (1 + r11)), (11, .int r3), (10, .int r1), (0, .ref rG), (1, .ref ql), (2, .ref qe), (3, .ref qw), (4, .ref qh), (5, .ref qt), (6, .ref qn), (7, .ref qp), (8, .int p8), (9, .int p9)]) C dL_acts_227 (by decide) rfl ?_
        refine g_aload (pc := 229) (x := qh) C dL_acts_229 rfl ?_
        refine g_iload (pc := 231) (x := r1) C dL_acts_231 rfl ?_
        refine g_aload (pc := 233) (x := qh) C dL_acts_233 rfl ?_
        refine g_iload (pc := 235) (x := r1) C dL_acts_235 rfl ?_
        refine g_iald (pc := 237) (i := r1) hf C 71 rfl dL_acts_237 (fun hf => ?_)
        refine g_iconst (pc := 238) (v := 5) C dL_acts_238 (by decide) ?_
        refine g_iload (pc := 239) (x := (1 + r11)) C dL_acts_239 rfl ?_
        refine g_imul (pc := 241) (x := 5) (y := (1 + r11)) C dL_acts_241 ?_
        refine g_iadd (pc := 242) (x := (gh (Int32.toNatClampNeg r1))) (y := (5 * (1 + r11))) C dL_acts_242 ?_
        refine g_sipush (pc := 243) (v := 1000) C dL_acts_243 (by decide) ?_
        refine g_join (Q := fun (u : Int32) => gG k (wG (kD k) rG (aS 0) rV rN (aT 0)  ++ (wS (kD k) aS v ++ (wT (kD k) aT tx ++ (wV (kD k) rV aV z ++ (wA10 (kD k) ql gl ++ (wA10 (kD k) qe ge ++ (wA10 (kD k) qw gw ++ (wA10 (kD k) qh gh ++ (wA10 (kD k) qt gt ++ (wA9 (kD k) qn gn ++ (wA21 (kD k) qp gp))))))))))) [(0, .ref rG), (4, .ref qh), (10, .int r1), (12, .int (1 + r11))] 0 0 265 [.int u, .int r1, .ref qh]) hf (fun r12 hf => ?_) (fun r12 hf K12 => ?_)
        · refine g_iast (pc := 265) (i := r1) (x := r12) hf C 71 rfl dL_acts_265 (ws' := (wG (kD k) rG (aS 0) rV rN (aT 0)  ++ (wS (kD k) aS v ++ (wT (kD k) aT tx ++ (wV (kD k) rV aV z ++ (wA10 (kD k) ql gl ++ (wA10 (kD k) qe ge ++ (wA10 (kD k) qw gw ++ (wA10 (kD k) qh (upd gh (Int32.toNatClampNeg r1) r12) ++ (wA10 (kD k) qt gt ++ (wA9 (kD k) qn gn ++ (wA21 (kD k) qp gp)))))))))))) rfl (fun hf => ?_)
          refine g_aload_n (pc := 266) (x := rG) C dL_acts_266 rfl ?_
          refine g_iload (pc := 267) (x := r1) C dL_acts_267 rfl ?_
          refine g_iload (pc := 269) (x := (1 + r11)) C dL_acts_269 rfl ?_
          refine g_callPA (wr := wT (kD k) aT tx ++ (wA10 (kD k) ql gl ++ (wA10 (kD k) qe ge ++ (wA10 (kD k) qw gw ++ (wA10 (kD k) qh (upd gh (Int32.toNatClampNeg r1) r12) ++ (wA10 (kD k) qt gt ++ (wA9 (kD k) qn gn ++ (wA21 (kD k) qp gp)))))))) (pc' := 274) (cs' := 0) (sl' := 0) hf C (fun u => some (.int u.2.2)) (fun u a => (wG (kD k) rG (aS 0) rV rN (aT 0) ++ (wS (kD k) aS u.1 ++ (wV (kD k) rV a u.2.1)))) ((pmc (pmc (pm0 (List.Perm.refl _)))).trans as3) (fun u hu => gr_V (rest := []) C (cX4_hold_ (kL k) C.tr (kD k) N rG rN (aT 0) aS rV aV v z r1 (1 + r11) u hu) (fun ht => cwV 2 ht gL_acts_X4_hold rfl rfl rfl hdX4_hold ⟨(Nat.le_of_ble_eq_true rfl), (Nat.le_of_ble_eq_true rfl)⟩) 0 rfl rfl _ (rg_map _ _) (rg_nd _) rfl rfl (Nat.le_of_ble_eq_true rfl) dL_acts_271 ⟨(Nat.le_of_ble_eq_true rfl), (Nat.le_of_ble_eq_true rfl)⟩) (ws' := fun u a => (wG (kD k) rG (aS 0) rV rN (aT 0)  ++ (wS (kD k) aS u.1 ++ (wT (kD k) aT tx ++ (wV (kD k) rV a u.2.1 ++ (wA10 (kD k) ql gl ++ (wA10 (kD k) qe ge ++ (wA10 (kD k) qw gw ++ (wA10 (kD k) qh (upd gh (Int32.toNatClampNeg r1) r12) ++ (wA10 (kD k) qt gt ++ (wA9 (kD k) qn gn ++ (wA21 (kD k) qp gp)))))))))))) (fun u a => (as3.symm.trans (pmc (pmc (pm0 (List.Perm.refl _)))))) rfl rfl rfl (fun u => [.int u.2.2]) (fun u => rfl) (fun r13 aV13 hf => ?_)
          refine g_aload (pc := 274) (x := qh) C dL_acts_274 rfl ?_
          refine g_iload (pc := 276) (x := r1) C dL_acts_276 rfl ?_
          refine g_iald (pc := 278) (i := r1) hf C 71 rfl dL_acts_278 (fun hf => ?_)
          refine g_icmp_ne (pc := 279) (tgt := 286) (x := r13.2.2) (y := ((upd gh (Int32.toNatClampNeg r1) r12) (Int32.toNatClampNeg r1))) hf C dL_acts_279 (by decide) (fun hf => ?_) (fun hf => ?_)
          · cases hf
          · refine g_iconst (pc := 282) (v := 1) C dL_acts_282 (by decide) ?_
            refine g_goto (pc := 283) (tgt := 287) C dL_acts_283 (by decide) ?_
            obtain rfl := Option.some.inj hf
            exact g_bret (b := true) C E dL_acts_287 (Nat.le_of_ble_eq_true rfl) (Nat.le_of_ble_eq_true rfl) ⟨rfl, _, rfl⟩
        · refine g_icmp_le (pc := 246) (tgt := 255) (x := ((gh (Int32.toNatClampNeg r1)) + (5 * (1 + r11)))) (y := 1000) hf C dL_acts_246 (by decide) (fun hf => ?_) (fun hf => ?_)
          · refine g_aload (pc := 255) (x := qh) C dL_acts_255 rfl ?_
            refine g_iload (pc := 257) (x := r1) C dL_acts_257 rfl ?_
            refine g_iald (pc := 259) (i := r1) hf C 71 rfl dL_acts_259 (fun hf => ?_)
            refine g_iconst (pc := 260) (v := 5) C dL_acts_260 (by decide) ?_
            refine g_iload (pc := 261) (x := (1 + r11)) C dL_acts_261 rfl ?_
            refine g_imul (pc := 263) (x := 5) (y := (1 + r11)) C dL_acts_263 ?_
            refine g_iadd (pc := 264) (x := (gh (Int32.toNatClampNeg r1))) (y := (5 * (1 + r11))) C dL_acts_264 ?_
            obtain rfl := Option.some.inj hf
            refine g_lv [3, 7, 2, 0] (lv' := [(0, .ref rG), (4, .ref qh), (10, .int r1), (12, .int (1 + r11))]) rfl ?_
            exact K12
          · refine g_sipush (pc := 249) (v := 1000) C dL_acts_249 (by decide) ?_
            refine g_goto (pc := 252) (tgt := 265) C dL_acts_252 (by decide) ?_
            obtain rfl := Option.some.inj hf
            refine g_lv [3, 7, 2, 0] (lv' := [(0, .ref rG), (4, .ref qh), (10, .int r1), (12, .int (1 + r11))]) rfl ?_
            exact K12
      · refine g_iconst (pc := 213) (v := 1) C dL_acts_213 (by decide) ?_
        obtain rfl := Option.some.inj hf
        exact g_bret (b := true) C E dL_acts_214 (Nat.le_of_ble_eq_true rfl) (Nat.le_of_ble_eq_true rfl) ⟨rfl, _, rfl⟩
    refine g_split hf (fun e hf => ?_) (fun n36_4 hf => ?_)
    · refine g_tsw (pc := 36) (tgt := 288) C dL_acts_36 e (by decide) (by decide) rfl (by decide) ?_
      refine g_iconst (pc := 288) (v := 1) C dL_acts_288 (by decide) ?_
      refine g_iload (pc := 289) (x := p9) C dL_acts_289 rfl ?_
      refine g_iload (pc := 291) (x := p9) C dL_acts_291 rfl ?_
      refine g_bipush (pc := 293) (v := 7) C dL_acts_293 (by decide) ?_
      refine g_ishr (pc := 295) (x := p9) (y := 7) C dL_acts_295 ?_
      refine g_iconst (pc := 296) (v := 2) C dL_acts_296 (by decide) ?_
      refine g_callR (pc' := 300) (cs' := 0) (sl' := 0) hf C (fun u => some (.int u)) (fun u hu => gr_S (rest := [.int p9, .int 1]) C (cL_low_ (kL k) C.tr (kD k) N (p9 >>> (7 &&& 31)) 2 u hu) (fun ht => va_cwS 2 ht gL_acts_L_low rfl rfl rfl hsL_low ⟨(Nat.le_of_ble_eq_true rfl), (Nat.le_of_ble_eq_true rfl)⟩) [] rfl (by decide) rfl rfl (Nat.le_of_ble_eq_true rfl) dL_acts_297 ⟨(Nat.le_of_ble_eq_true rfl), (Nat.le_of_ble_eq_true rfl)⟩) [] rfl rfl rfl rfl (fun u => [.int u, .int p9, .int 1]) (fun u => rfl) (fun r14 hf => ?_)
      refine g_join (Q := fun (u : Int32) => gG k (wG (kD k) rG (aS 0) rV rN (aT 0)  ++ (wS (kD k) aS v ++ (wT (kD k) aT tx ++ (wV (kD k) rV aV z ++ (wA10 (kD k) ql gl ++ (wA10 (kD k) qe ge ++ (wA10 (kD k) qw gw ++ (wA10 (kD k) qh gh ++ (wA10 (kD k) qt gt ++ (wA9 (kD k) qn gn ++ (wA21 (kD k) qp gp))))))))))) [(0, .ref rG), (4, .ref qh), (6, .ref qn)] 0 0 310 [.int u, .int p9, .int 1]) hf (fun r15 hf => ?_) (fun r15 hf K15 => ?_)
      · refine g_callR (pc' := 313) (cs' := 0) (sl' := 0) hf C (fun u => some (.int u)) (fun u hu => gr_S (rest := [.int 1]) C (cL_low_ (kL k) C.tr (kD k) N p9 r15 u hu) (fun ht => va_cwS 2 ht gL_acts_L_low rfl rfl rfl hsL_low ⟨(Nat.le_of_ble_eq_true rfl), (Nat.le_of_ble_eq_true rfl)⟩) [] rfl (by decide) rfl rfl (Nat.le_of_ble_eq_true rfl) dL_acts_310 ⟨(Nat.le_of_ble_eq_true rfl), (Nat.le_of_ble_eq_true rfl)⟩) [] rfl rfl rfl rfl (fun u => [.int u, .int 1]) (fun u => rfl) (fun r16 hf => ?_)
        refine g_iadd (pc := 313) (x := 1) (y := r16) C dL_acts_313 ?_
        refine g_istore (pc := 314) (lv' := [(13, .int (1 + r16)), (0, .ref rG), (4, .ref qh), (6, .ref qn)]) C dL_acts_314 (by decide) rfl ?_
        refine g_iconst (pc := 316) (v := 0) C dL_acts_316 (by decide) ?_
        refine g_istore (pc := 317) (lv' := [(14, .int 0), (13, .int (1 + r16)), (0, .ref rG), (4, .ref qh), (6, .ref qn)]) C dL_acts_317 (by decide) rfl ?_
        refine g_iconst (pc := 319) (v := 0) C dL_acts_319 (by decide) ?_
        refine g_istore (pc := 320) (lv' := [(15, .int 0), (14, .int 0), (13, .int (1 + r16)), (0, .ref rG), (4, .ref qh), (6, .ref qn)]) C dL_acts_320 (by decide) rfl ?_
        obtain ⟨r17, h17, hf⟩ := bd_e hf
        refine g_lv [3, 4, 5, 2, 1, 0] (lv' := [(0, .ref rG), (4, .ref qh), (6, .ref qn), (13, .int (1 + r16)), (14, .int 0), (15, .int 0)]) rfl ?_
        refine wlL_acts_322 C N rG rN aS aT rV aV ql qe qw qh qt qn qp v tx z gl ge gw gt gn gp (1 + r16) N gh 0 0 r17 h17 ?_
        refine g_aload (pc := 375) (x := qn) C dL_acts_375 rfl ?_
        refine g_iconst (pc := 377) (v := 4) C dL_acts_377 (by decide) ?_
        refine g_dup2 (pc := 378) C dL_acts_378 rfl rfl ?_
        refine g_iald (pc := 379) (i := 4) hf C 73 rfl dL_acts_379 (fun hf => ?_)
        refine g_iload (pc := 380) (x := (1 + r16)) C dL_acts_380 rfl ?_
        refine g_iadd (pc := 382) (x := (gn (Int32.toNatClampNeg 4))) (y := (1 + r16)) C dL_acts_382 ?_
        refine g_iast (pc := 383) (i := 4) (x := ((gn (Int32.toNatClampNeg 4)) + (1 + r16))) hf C 73 rfl dL_acts_383 (ws' := (wG (kD k) rG (aS 0) rV rN (aT 0)  ++ (wS (kD k) aS v ++ (wT (kD k) aT tx ++ (wV (kD k) rV aV z ++ (wA10 (kD k) ql gl ++ (wA10 (kD k) qe ge ++ (wA10 (kD k) qw gw ++ (wA10 (kD k) qh r17.1 ++ (wA10 (kD k) qt gt ++ (wA9 (kD k) qn (upd gn (Int32.toNatClampNeg 4) ((gn (Int32.toNatClampNeg 4)) + (1 + r16))) ++ (wA21 (kD k) qp gp)))))))))))) rfl (fun hf => ?_)
        refine g_aload_n (pc := 384) (x := rG) C dL_acts_384 rfl ?_
        refine g_iload (pc := 385) (x := (1 + r16)) C dL_acts_385 rfl ?_
        refine g_callPA (wr := wT (kD k) aT tx ++ (wA10 (kD k) ql gl ++ (wA10 (kD k) qe ge ++ (wA10 (kD k) qw gw ++ (wA10 (kD k) qh r17.1 ++ (wA10 (kD k) qt gt ++ (wA9 (kD k) qn (upd gn (Int32.toNatClampNeg 4) ((gn (Int32.toNatClampNeg 4)) + (1 + r16))) ++ (wA21 (kD k) qp gp)))))))) (pc' := 390) (cs' := 0) (sl' := 0) hf C (fun u => some (.int u.2.2)) (fun u a => (wG (kD k) rG (aS 0) rV rN (aT 0) ++ (wS (kD k) aS u.1 ++ (wV (kD k) rV a u.2.1)))) ((pmc (pmc (pm0 (List.Perm.refl _)))).trans as3) (fun u hu => gr_V (rest := []) C (cX4_rest_ (kL k) C.tr (kD k) N rG rN (aT 0) aS rV aV v z (1 + r16) u hu) (fun ht => cwV 1 ht gL_acts_X4_rest rfl rfl rfl hdX4_rest ⟨(Nat.le_of_ble_eq_true rfl), (Nat.le_of_ble_eq_true rfl)⟩) 0 rfl rfl _ (rg_map _ _) (rg_nd _) rfl rfl (Nat.le_of_ble_eq_true rfl) dL_acts_387 ⟨(Nat.le_of_ble_eq_true rfl), (Nat.le_of_ble_eq_true rfl)⟩) (ws' := fun u a => (wG (kD k) rG (aS 0) rV rN (aT 0)  ++ (wS (kD k) aS u.1 ++ (wT (kD k) aT tx ++ (wV (kD k) rV a u.2.1 ++ (wA10 (kD k) ql gl ++ (wA10 (kD k) qe ge ++ (wA10 (kD k) qw gw ++ (wA10 (kD k) qh r17.1 ++ (wA10 (kD k) qt gt ++ (wA9 (kD k) qn (upd gn (Int32.toNatClampNeg 4) ((gn (Int32.toNatClampNeg 4)) + (1 + r16))) ++ (wA21 (kD k) qp gp)))))))))))) (fun u a => (as3.symm.trans (pmc (pmc (pm0 (List.Perm.refl _)))))) rfl rfl rfl (fun u => [.int u.2.2]) (fun u => rfl) (fun r18 aV18 hf => ?_)
        refine g_iload (pc := 390) (x := r17.2) C dL_acts_390 rfl ?_
        refine g_icmp_ne (pc := 392) (tgt := 399) (x := r18.2.2) (y := r17.2) hf C dL_acts_392 (by decide) (fun hf => ?_) (fun hf => ?_)
        · cases hf
        · refine g_iconst (pc := 395) (v := 1) C dL_acts_395 (by decide) ?_
          refine g_goto (pc := 396) (tgt := 400) C dL_acts_396 (by decide) ?_
          obtain rfl := Option.some.inj hf
          exact g_bret (b := true) C E dL_acts_400 (Nat.le_of_ble_eq_true rfl) (Nat.le_of_ble_eq_true rfl) ⟨rfl, _, rfl⟩
      · refine g_if_ne (pc := 300) (tgt := 308) (x := r14) hf C dL_acts_300 (by decide) (fun hf => ?_) (fun hf => ?_)
        · refine g_bipush (pc := 308) (v := 6) C dL_acts_308 (by decide) ?_
          obtain rfl := Option.some.inj hf
          refine g_lv [2, 6, 8] (lv' := [(0, .ref rG), (4, .ref qh), (6, .ref qn)]) rfl ?_
          exact K15
        · refine g_bipush (pc := 303) (v := 60) C dL_acts_303 (by decide) ?_
          refine g_goto (pc := 305) (tgt := 310) C dL_acts_305 (by decide) ?_
          obtain rfl := Option.some.inj hf
          refine g_lv [2, 6, 8] (lv' := [(0, .ref rG), (4, .ref qh), (6, .ref qn)]) rfl ?_
          exact K15
    refine g_split hf (fun e hf => ?_) (fun n36_5 hf => ?_)
    · refine g_tsw (pc := 36) (tgt := 401) C dL_acts_36 e (by decide) (by decide) rfl (by decide) ?_
      refine g_iload (pc := 401) (x := p9) C dL_acts_401 rfl ?_
      refine g_iconst (pc := 403) (v := 4) C dL_acts_403 (by decide) ?_
      refine g_callR (pc' := 407) (cs' := 0) (sl' := 0) hf C (fun u => some (.int u)) (fun u hu => gr_S (rest := []) C (cL_low_ (kL k) C.tr (kD k) N p9 4 u hu) (fun ht => va_cwS 2 ht gL_acts_L_low rfl rfl rfl hsL_low ⟨(Nat.le_of_ble_eq_true rfl), (Nat.le_of_ble_eq_true rfl)⟩) [] rfl (by decide) rfl rfl (Nat.le_of_ble_eq_true rfl) dL_acts_404 ⟨(Nat.le_of_ble_eq_true rfl), (Nat.le_of_ble_eq_true rfl)⟩) [] rfl rfl rfl rfl (fun u => [.int u]) (fun u => rfl) (fun r19 hf => ?_)
      refine g_istore (pc := 407) (lv' := [(15, .int r19), (11, .int r3), (10, .int r1), (0, .ref rG), (1, .ref ql), (2, .ref qe), (3, .ref qw), (4, .ref qh), (5, .ref qt), (6, .ref qn), (7, .ref qp), (8, .int p8), (9, .int p9)]) C dL_acts_407 (by decide) rfl ?_
      refine g_aload (pc := 409) (x := qn) C dL_acts_409 rfl ?_
      refine g_iload (pc := 411) (x := r19) C dL_acts_411 rfl ?_
      refine g_iald (pc := 413) (i := r19) hf C 73 rfl dL_acts_413 (fun hf => ?_)
      refine g_istore (pc := 414) (lv' := [(16, .int (gn (Int32.toNatClampNeg r19))), (15, .int r19), (11, .int r3), (10, .int r1), (0, .ref rG), (1, .ref ql), (2, .ref qe), (3, .ref qw), (4, .ref qh), (5, .ref qt), (6, .ref qn), (7, .ref qp), (8, .int p8), (9, .int p9)]) C dL_acts_414 (by decide) rfl ?_
      refine g_aload (pc := 416) (x := qn) C dL_acts_416 rfl ?_
      refine g_iload (pc := 418) (x := r19) C dL_acts_418 rfl ?_
      refine g_iload (pc := 420) (x := r19) C dL_acts_420 rfl ?_
      refine g_join (Q := fun (u : Int32) => gG k (wG (kD k) rG (aS 0) rV rN (aT 0)  ++ (wS (kD k) aS v ++ (wT (kD k) aT tx ++ (wV (kD k) rV aV z ++ (wA10 (kD k) ql gl ++ (wA10 (kD k) qe ge ++ (wA10 (kD k) qw gw ++ (wA10 (kD k) qh gh ++ (wA10 (kD k) qt gt ++ (wA9 (kD k) qn gn ++ (wA21 (kD k) qp gp))))))))))) [(0, .ref rG), (6, .ref qn), (15, .int r19), (16, .int (gn (Int32.toNatClampNeg r19)))] 0 0 484 [.int u, .int r19, .ref qn]) hf (fun r20 hf => ?_) (fun r20 hf K20 => ?_)
      · refine g_iast (pc := 484) (i := r19) (x := r20) hf C 73 rfl dL_acts_484 (ws' := (wG (kD k) rG (aS 0) rV rN (aT 0)  ++ (wS (kD k) aS v ++ (wT (kD k) aT tx ++ (wV (kD k) rV aV z ++ (wA10 (kD k) ql gl ++ (wA10 (kD k) qe ge ++ (wA10 (kD k) qw gw ++ (wA10 (kD k) qh gh ++ (wA10 (kD k) qt gt ++ (wA9 (kD k) qn (upd gn (Int32.toNatClampNeg r19) r20) ++ (wA21 (kD k) qp gp)))))))))))) rfl (fun hf => ?_)
        refine g_aload_n (pc := 485) (x := rG) C dL_acts_485 rfl ?_
        refine g_iload (pc := 486) (x := r19) C dL_acts_486 rfl ?_
        refine g_aload (pc := 488) (x := qn) C dL_acts_488 rfl ?_
        refine g_iload (pc := 490) (x := r19) C dL_acts_490 rfl ?_
        refine g_iald (pc := 492) (i := r19) hf C 73 rfl dL_acts_492 (fun hf => ?_)
        refine g_callPA (wr := wT (kD k) aT tx ++ (wA10 (kD k) ql gl ++ (wA10 (kD k) qe ge ++ (wA10 (kD k) qw gw ++ (wA10 (kD k) qh gh ++ (wA10 (kD k) qt gt ++ (wA9 (kD k) qn (upd gn (Int32.toNatClampNeg r19) r20) ++ (wA21 (kD k) qp gp)))))))) (pc' := 496) (cs' := 0) (sl' := 0) hf C (fun u => some (.int u.2.2)) (fun u a => (wG (kD k) rG (aS 0) rV rN (aT 0) ++ (wS (kD k) aS u.1 ++ (wV (kD k) rV a u.2.1)))) ((pmc (pmc (pm0 (List.Perm.refl _)))).trans as3) (fun u hu => gr_V (rest := []) C (cX4_set_ (kL k) C.tr (kD k) N rG rN (aT 0) aS rV aV v z r19 ((upd gn (Int32.toNatClampNeg r19) r20) (Int32.toNatClampNeg r19)) u hu) (fun ht => cwV 2 ht gL_acts_X4_set rfl rfl rfl hdX4_set ⟨(Nat.le_of_ble_eq_true rfl), (Nat.le_of_ble_eq_true rfl)⟩) 0 rfl rfl _ (rg_map _ _) (rg_nd _) rfl rfl (Nat.le_of_ble_eq_true rfl) dL_acts_493 ⟨(Nat.le_of_ble_eq_true rfl), (Nat.le_of_ble_eq_true rfl)⟩) (ws' := fun u a => (wG (kD k) rG (aS 0) rV rN (aT 0)  ++ (wS (kD k) aS u.1 ++ (wT (kD k) aT tx ++ (wV (kD k) rV a u.2.1 ++ (wA10 (kD k) ql gl ++ (wA10 (kD k) qe ge ++ (wA10 (kD k) qw gw ++ (wA10 (kD k) qh gh ++ (wA10 (kD k) qt gt ++ (wA9 (kD k) qn (upd gn (Int32.toNatClampNeg r19) r20) ++ (wA21 (kD k) qp gp)))))))))))) (fun u a => (as3.symm.trans (pmc (pmc (pm0 (List.Perm.refl _)))))) rfl rfl rfl (fun u => [.int u.2.2]) (fun u => rfl) (fun r25 aV25 hf => ?_)
        refine g_iload (pc := 496) (x := (gn (Int32.toNatClampNeg r19))) C dL_acts_496 rfl ?_
        refine g_icmp_ne (pc := 498) (tgt := 505) (x := r25.2.2) (y := (gn (Int32.toNatClampNeg r19))) hf C dL_acts_498 (by decide) (fun hf => ?_) (fun hf => ?_)
        · cases hf
        · refine g_iconst (pc := 501) (v := 1) C dL_acts_501 (by decide) ?_
          refine g_goto (pc := 502) (tgt := 506) C dL_acts_502 (by decide) ?_
          obtain rfl := Option.some.inj hf
          exact g_bret (b := true) C E dL_acts_506 (Nat.le_of_ble_eq_true rfl) (Nat.le_of_ble_eq_true rfl) ⟨rfl, _, rfl⟩
      · refine g_if_ne (pc := 422) (tgt := 437) (x := r19) hf C dL_acts_422 (by decide) (fun hf => ?_) (fun hf => ?_)
        · refine g_iload (pc := 437) (x := r19) C dL_acts_437 rfl ?_
          refine g_iconst (pc := 439) (v := 1) C dL_acts_439 (by decide) ?_
          refine g_icmp_ne (pc := 440) (tgt := 456) (x := r19) (y := 1) hf C dL_acts_440 (by decide) (fun hf => ?_) (fun hf => ?_)
          · refine g_iload (pc := 456) (x := r19) C dL_acts_456 rfl ?_
            refine g_iconst (pc := 458) (v := 2) C dL_acts_458 (by decide) ?_
            refine g_icmp_ne (pc := 459) (tgt := 474) (x := r19) (y := 2) hf C dL_acts_459 (by decide) (fun hf => ?_) (fun hf => ?_)
            · refine g_iload (pc := 474) (x := p9) C dL_acts_474 rfl ?_
              refine g_iconst (pc := 476) (v := 2) C dL_acts_476 (by decide) ?_
              refine g_ishr (pc := 477) (x := p9) (y := 2) C dL_acts_477 ?_
              refine g_sipush (pc := 478) (v := 201) C dL_acts_478 (by decide) ?_
              refine g_callR (pc' := 484) (cs' := 0) (sl' := 0) hf C (fun u => some (.int u)) (fun u hu => gr_S (rest := [.int r19, .ref qn]) C (cL_low_ (kL k) C.tr (kD k) N (p9 >>> (2 &&& 31)) 201 u hu) (fun ht => va_cwS 2 ht gL_acts_L_low rfl rfl rfl hsL_low ⟨(Nat.le_of_ble_eq_true rfl), (Nat.le_of_ble_eq_true rfl)⟩) [] rfl (by decide) rfl rfl (Nat.le_of_ble_eq_true rfl) dL_acts_481 ⟨(Nat.le_of_ble_eq_true rfl), (Nat.le_of_ble_eq_true rfl)⟩) [] rfl rfl rfl rfl (fun u => [.int u, .int r19, .ref qn]) (fun u => rfl) (fun r21 hf => ?_)
              obtain rfl := Option.some.inj hf
              refine g_lv [4, 10, 1, 0] (lv' := [(0, .ref rG), (6, .ref qn), (15, .int r19), (16, .int (gn (Int32.toNatClampNeg r19)))]) rfl ?_
              exact K20
            · refine g_iload (pc := 462) (x := p9) C dL_acts_462 rfl ?_
              refine g_iconst (pc := 464) (v := 2) C dL_acts_464 (by decide) ?_
              refine g_ishr (pc := 465) (x := p9) (y := 2) C dL_acts_465 ?_
              refine g_bipush (pc := 466) (v := 21) C dL_acts_466 (by decide) ?_
              refine g_callR (pc' := 471) (cs' := 0) (sl' := 0) hf C (fun u => some (.int u)) (fun u hu => gr_S (rest := [.int r19, .ref qn]) C (cL_low_ (kL k) C.tr (kD k) N (p9 >>> (2 &&& 31)) 21 u hu) (fun ht => va_cwS 2 ht gL_acts_L_low rfl rfl rfl hsL_low ⟨(Nat.le_of_ble_eq_true rfl), (Nat.le_of_ble_eq_true rfl)⟩) [] rfl (by decide) rfl rfl (Nat.le_of_ble_eq_true rfl) dL_acts_468 ⟨(Nat.le_of_ble_eq_true rfl), (Nat.le_of_ble_eq_true rfl)⟩) [] rfl rfl rfl rfl (fun u => [.int u, .int r19, .ref qn]) (fun u => rfl) (fun r22 hf => ?_)
              refine g_goto (pc := 471) (tgt := 484) C dL_acts_471 (by decide) ?_
              obtain rfl := Option.some.inj hf
              refine g_lv [4, 10, 1, 0] (lv' := [(0, .ref rG), (6, .ref qn), (15, .int r19), (16, .int (gn (Int32.toNatClampNeg r19)))]) rfl ?_
              exact K20
          · refine g_iload (pc := 443) (x := p9) C dL_acts_443 rfl ?_
            refine g_iconst (pc := 445) (v := 2) C dL_acts_445 (by decide) ?_
            refine g_ishr (pc := 446) (x := p9) (y := 2) C dL_acts_446 ?_
            refine g_sipush (pc := 447) (v := 1001) C dL_acts_447 (by decide) ?_
            refine g_callR (pc' := 453) (cs' := 0) (sl' := 0) hf C (fun u => some (.int u)) (fun u hu => gr_S (rest := [.int r19, .ref qn]) C (cL_low_ (kL k) C.tr (kD k) N (p9 >>> (2 &&& 31)) 1001 u hu) (fun ht => va_cwS 2 ht gL_acts_L_low rfl rfl rfl hsL_low ⟨(Nat.le_of_ble_eq_true rfl), (Nat.le_of_ble_eq_true rfl)⟩) [] rfl (by decide) rfl rfl (Nat.le_of_ble_eq_true rfl) dL_acts_450 ⟨(Nat.le_of_ble_eq_true rfl), (Nat.le_of_ble_eq_true rfl)⟩) [] rfl rfl rfl rfl (fun u => [.int u, .int r19, .ref qn]) (fun u => rfl) (fun r23 hf => ?_)
            refine g_goto (pc := 453) (tgt := 484) C dL_acts_453 (by decide) ?_
            obtain rfl := Option.some.inj hf
            refine g_lv [4, 10, 1, 0] (lv' := [(0, .ref rG), (6, .ref qn), (15, .int r19), (16, .int (gn (Int32.toNatClampNeg r19)))]) rfl ?_
            exact K20
        · refine g_iload (pc := 425) (x := p9) C dL_acts_425 rfl ?_
          refine g_iconst (pc := 427) (v := 2) C dL_acts_427 (by decide) ?_
          refine g_ishr (pc := 428) (x := p9) (y := 2) C dL_acts_428 ?_
          refine g_bipush (pc := 429) (v := 61) C dL_acts_429 (by decide) ?_
          refine g_callR (pc' := 434) (cs' := 0) (sl' := 0) hf C (fun u => some (.int u)) (fun u hu => gr_S (rest := [.int r19, .ref qn]) C (cL_low_ (kL k) C.tr (kD k) N (p9 >>> (2 &&& 31)) 61 u hu) (fun ht => va_cwS 2 ht gL_acts_L_low rfl rfl rfl hsL_low ⟨(Nat.le_of_ble_eq_true rfl), (Nat.le_of_ble_eq_true rfl)⟩) [] rfl (by decide) rfl rfl (Nat.le_of_ble_eq_true rfl) dL_acts_431 ⟨(Nat.le_of_ble_eq_true rfl), (Nat.le_of_ble_eq_true rfl)⟩) [] rfl rfl rfl rfl (fun u => [.int u, .int r19, .ref qn]) (fun u => rfl) (fun r24 hf => ?_)
          refine g_goto (pc := 434) (tgt := 484) C dL_acts_434 (by decide) ?_
          obtain rfl := Option.some.inj hf
          refine g_lv [4, 10, 1, 0] (lv' := [(0, .ref rG), (6, .ref qn), (15, .int r19), (16, .int (gn (Int32.toNatClampNeg r19)))]) rfl ?_
          exact K20
    refine g_split hf (fun e hf => ?_) (fun n36_6 hf => ?_)
    · refine g_tsw (pc := 36) (tgt := 507) C dL_acts_36 e (by decide) (by decide) rfl (by decide) ?_
      refine g_aload (pc := 507) (x := qp) C dL_acts_507 rfl ?_
      refine g_bipush (pc := 509) (v := 7) C dL_acts_509 (by decide) ?_
      refine g_iload (pc := 511) (x := r3) C dL_acts_511 rfl ?_
      refine g_imul (pc := 513) (x := 7) (y := r3) C dL_acts_513 ?_
      refine g_iald (pc := 514) (i := (7 * r3)) hf C 74 rfl dL_acts_514 (fun hf => ?_)
      refine g_if_ne (pc := 515) (tgt := 535) (x := (gp (Int32.toNatClampNeg (7 * r3)))) hf C dL_acts_515 (by decide) (fun hf => ?_) (fun hf => ?_)
      · refine g_aload (pc := 535) (x := qp) C dL_acts_535 rfl ?_
        refine g_bipush (pc := 537) (v := 7) C dL_acts_537 (by decide) ?_
        refine g_iload (pc := 539) (x := r3) C dL_acts_539 rfl ?_
        refine g_imul (pc := 541) (x := 7) (y := r3) C dL_acts_541 ?_
        refine g_aload (pc := 542) (x := qp) C dL_acts_542 rfl ?_
        refine g_bipush (pc := 544) (v := 7) C dL_acts_544 (by decide) ?_
        refine g_iload (pc := 546) (x := r3) C dL_acts_546 rfl ?_
        refine g_imul (pc := 548) (x := 7) (y := r3) C dL_acts_548 ?_
        refine g_iald (pc := 549) (i := (7 * r3)) hf C 74 rfl dL_acts_549 (fun hf => ?_)
        refine g_iadd (pc := 550) (x := (7 * r3)) (y := (gp (Int32.toNatClampNeg (7 * r3)))) C dL_acts_550 ?_
        refine g_iald (pc := 551) (i := ((7 * r3) + (gp (Int32.toNatClampNeg (7 * r3))))) hf C 74 rfl dL_acts_551 (fun hf => ?_)
        refine g_istore (pc := 552) (lv' := [(17, .int (gp (Int32.toNatClampNeg ((7 * r3) + (gp (Int32.toNatClampNeg (7 * r3))))))), (11, .int r3), (10, .int r1), (0, .ref rG), (1, .ref ql), (2, .ref qe), (3, .ref qw), (4, .ref qh), (5, .ref qt), (6, .ref qn), (7, .ref qp), (8, .int p8), (9, .int p9)]) C dL_acts_552 (by decide) rfl ?_
        refine g_aload_n (pc := 554) (x := qw) C dL_acts_554 rfl ?_
        refine g_aload (pc := 555) (x := qh) C dL_acts_555 rfl ?_
        refine g_aload (pc := 557) (x := qn) C dL_acts_557 rfl ?_
        refine g_aload (pc := 559) (x := qp) C dL_acts_559 rfl ?_
        refine g_iload (pc := 561) (x := r3) C dL_acts_561 rfl ?_
        refine g_callWA (wr := wG (kD k) rG (aS 0) rV rN (aT 0)  ++ (wS (kD k) aS v ++ (wT (kD k) aT tx ++ (wV (kD k) rV aV z ++ (wA10 (kD k) ql gl ++ (wA10 (kD k) qe ge ++ (wA10 (kD k) qt gt))))))) (pc' := 566) (cs' := 0) (sl' := 0) hf C (fun u => none) (fun u => (wA10 (kD k) qw u.1 ++ (wA10 (kD k) qh u.2 ++ (wA9 (kD k) qn gn ++ (wA21 (kD k) qp gp))))) (((pm0 (pm0 (pm0 (pm0 (pm0 (pm0 (List.Perm.refl _))))))).trans (pmc ((pm0 (pm0 (pm0 (pm0 (pm0 (pm0 (List.Perm.refl _))))))).trans (pmc ((pm0 (pm0 (pm0 (pm0 (pm0 (pm0 (pm0 (List.Perm.refl _)))))))).trans (pmc (pm0 (pm0 (pm0 (pm0 (pm0 (pm0 pmL)))))))))))).trans as4) (fun u hu => gr_S (rest := []) C (cL_rubs_ (kL k) C.tr (kD k) N qw qh qn qp gw gh gn gp r3 u hu) (fun ht => va_cwS 5 ht gL_acts_L_rubs rfl rfl rfl hsL_rubs ⟨(Nat.le_of_ble_eq_true rfl), (Nat.le_of_ble_eq_true rfl)⟩) _ (rg_map _ _) (rg_nd _) rfl rfl (Nat.le_of_ble_eq_true rfl) dL_acts_563 ⟨(Nat.le_of_ble_eq_true rfl), (Nat.le_of_ble_eq_true rfl)⟩) (ws' := fun u => (wG (kD k) rG (aS 0) rV rN (aT 0)  ++ (wS (kD k) aS v ++ (wT (kD k) aT tx ++ (wV (kD k) rV aV z ++ (wA10 (kD k) ql gl ++ (wA10 (kD k) qe ge ++ (wA10 (kD k) qw u.1 ++ (wA10 (kD k) qh u.2 ++ (wA10 (kD k) qt gt ++ (wA9 (kD k) qn gn ++ (wA21 (kD k) qp gp)))))))))))) (fun u => (as4.symm.trans ((pm0 (pm0 (pm0 (pm0 (List.Perm.refl _))))).trans (pmc ((pm0 (pm0 (pm0 (pm0 (List.Perm.refl _))))).trans (pmc ((pm0 (pm0 (pm0 (pm0 (List.Perm.refl _))))).trans (pmc ((pm0 (pm0 (pm0 (pm0 (List.Perm.refl _))))).trans (pmc ((pm0 (pm0 (pm0 (pm0 (List.Perm.refl _))))).trans (pmc ((pm0 (pm0 (pm0 (pm0 (List.Perm.refl _))))).trans (pmc (pmc (pmc (pm0 pmL))))))))))))))))) rfl rfl rfl (fun u => []) (fun u => rfl) (fun r26 hf => ?_)
        refine g_aload (pc := 566) (x := qp) C dL_acts_566 rfl ?_
        refine g_bipush (pc := 568) (v := 7) C dL_acts_568 (by decide) ?_
        refine g_iload (pc := 570) (x := r3) C dL_acts_570 rfl ?_
        refine g_imul (pc := 572) (x := 7) (y := r3) C dL_acts_572 ?_
        refine g_dup2 (pc := 573) C dL_acts_573 rfl rfl ?_
        refine g_iald (pc := 574) (i := (7 * r3)) hf C 74 rfl dL_acts_574 (fun hf => ?_)
        refine g_iconst (pc := 575) (v := 1) C dL_acts_575 (by decide) ?_
        refine g_isub (pc := 576) (x := (gp (Int32.toNatClampNeg (7 * r3)))) (y := 1) C dL_acts_576 ?_
        refine g_iast (pc := 577) (i := (7 * r3)) (x := ((gp (Int32.toNatClampNeg (7 * r3))) - 1)) hf C 74 rfl dL_acts_577 (ws' := (wG (kD k) rG (aS 0) rV rN (aT 0)  ++ (wS (kD k) aS v ++ (wT (kD k) aT tx ++ (wV (kD k) rV aV z ++ (wA10 (kD k) ql gl ++ (wA10 (kD k) qe ge ++ (wA10 (kD k) qw r26.1 ++ (wA10 (kD k) qh r26.2 ++ (wA10 (kD k) qt gt ++ (wA9 (kD k) qn gn ++ (wA21 (kD k) qp (upd gp (Int32.toNatClampNeg (7 * r3)) ((gp (Int32.toNatClampNeg (7 * r3))) - 1)))))))))))))) rfl (fun hf => ?_)
        refine g_aload (pc := 578) (x := qn) C dL_acts_578 rfl ?_
        refine g_bipush (pc := 580) (v := 6) C dL_acts_580 (by decide) ?_
        refine g_dup2 (pc := 582) C dL_acts_582 rfl rfl ?_
        refine g_iald (pc := 583) (i := 6) hf C 73 rfl dL_acts_583 (fun hf => ?_)
        refine g_iconst (pc := 584) (v := 1) C dL_acts_584 (by decide) ?_
        refine g_iadd (pc := 585) (x := (gn (Int32.toNatClampNeg 6))) (y := 1) C dL_acts_585 ?_
        refine g_iast (pc := 586) (i := 6) (x := ((gn (Int32.toNatClampNeg 6)) + 1)) hf C 73 rfl dL_acts_586 (ws' := (wG (kD k) rG (aS 0) rV rN (aT 0)  ++ (wS (kD k) aS v ++ (wT (kD k) aT tx ++ (wV (kD k) rV aV z ++ (wA10 (kD k) ql gl ++ (wA10 (kD k) qe ge ++ (wA10 (kD k) qw r26.1 ++ (wA10 (kD k) qh r26.2 ++ (wA10 (kD k) qt gt ++ (wA9 (kD k) qn (upd gn (Int32.toNatClampNeg 6) ((gn (Int32.toNatClampNeg 6)) + 1)) ++ (wA21 (kD k) qp (upd gp (Int32.toNatClampNeg (7 * r3)) ((gp (Int32.toNatClampNeg (7 * r3))) - 1)))))))))))))) rfl (fun hf => ?_)
        refine g_aload_n (pc := 587) (x := rG) C dL_acts_587 rfl ?_
        refine g_iload (pc := 588) (x := r3) C dL_acts_588 rfl ?_
        refine g_callPA (wr := wT (kD k) aT tx ++ (wA10 (kD k) ql gl ++ (wA10 (kD k) qe ge ++ (wA10 (kD k) qw r26.1 ++ (wA10 (kD k) qh r26.2 ++ (wA10 (kD k) qt gt ++ (wA9 (kD k) qn (upd gn (Int32.toNatClampNeg 6) ((gn (Int32.toNatClampNeg 6)) + 1)) ++ (wA21 (kD k) qp (upd gp (Int32.toNatClampNeg (7 * r3)) ((gp (Int32.toNatClampNeg (7 * r3))) - 1)))))))))) (pc' := 593) (cs' := 0) (sl' := 0) hf C (fun u => some (.int u.2.2)) (fun u a => (wG (kD k) rG (aS 0) rV rN (aT 0) ++ (wS (kD k) aS u.1 ++ (wV (kD k) rV a u.2.1)))) ((pmc (pmc (pm0 (List.Perm.refl _)))).trans as3) (fun u hu => gr_V (rest := []) C (cX4_takeOff_ (kL k) C.tr (kD k) N rG rN (aT 0) aS rV aV v z r3 u hu) (fun ht => cwV 1 ht gL_acts_X4_takeOff rfl rfl rfl hdX4_takeOff ⟨(Nat.le_of_ble_eq_true rfl), (Nat.le_of_ble_eq_true rfl)⟩) 0 rfl rfl _ (rg_map _ _) (rg_nd _) rfl rfl (Nat.le_of_ble_eq_true rfl) dL_acts_590 ⟨(Nat.le_of_ble_eq_true rfl), (Nat.le_of_ble_eq_true rfl)⟩) (ws' := fun u a => (wG (kD k) rG (aS 0) rV rN (aT 0)  ++ (wS (kD k) aS u.1 ++ (wT (kD k) aT tx ++ (wV (kD k) rV a u.2.1 ++ (wA10 (kD k) ql gl ++ (wA10 (kD k) qe ge ++ (wA10 (kD k) qw r26.1 ++ (wA10 (kD k) qh r26.2 ++ (wA10 (kD k) qt gt ++ (wA9 (kD k) qn (upd gn (Int32.toNatClampNeg 6) ((gn (Int32.toNatClampNeg 6)) + 1)) ++ (wA21 (kD k) qp (upd gp (Int32.toNatClampNeg (7 * r3)) ((gp (Int32.toNatClampNeg (7 * r3))) - 1)))))))))))))) (fun u a => (as3.symm.trans (pmc (pmc (pm0 (List.Perm.refl _)))))) rfl rfl rfl (fun u => [.int u.2.2]) (fun u => rfl) (fun r27 aV27 hf => ?_)
        refine g_iload (pc := 593) (x := (gp (Int32.toNatClampNeg ((7 * r3) + (gp (Int32.toNatClampNeg (7 * r3))))))) C dL_acts_593 rfl ?_
        refine g_icmp_ne (pc := 595) (tgt := 602) (x := r27.2.2) (y := (gp (Int32.toNatClampNeg ((7 * r3) + (gp (Int32.toNatClampNeg (7 * r3))))))) hf C dL_acts_595 (by decide) (fun hf => ?_) (fun hf => ?_)
        · cases hf
        · refine g_iconst (pc := 598) (v := 1) C dL_acts_598 (by decide) ?_
          refine g_goto (pc := 599) (tgt := 603) C dL_acts_599 (by decide) ?_
          obtain rfl := Option.some.inj hf
          exact g_bret (b := true) C E dL_acts_603 (Nat.le_of_ble_eq_true rfl) (Nat.le_of_ble_eq_true rfl) ⟨rfl, _, rfl⟩
      · refine g_aload_n (pc := 518) (x := rG) C dL_acts_518 rfl ?_
        refine g_iload (pc := 519) (x := r3) C dL_acts_519 rfl ?_
        refine g_iconst (pc := 521) (v := 4) C dL_acts_521 (by decide) ?_
        refine g_callWA (wr := wT (kD k) aT tx ++ (wV (kD k) rV aV z ++ (wA10 (kD k) ql gl ++ (wA10 (kD k) qe ge ++ (wA10 (kD k) qw gw ++ (wA10 (kD k) qh gh ++ (wA10 (kD k) qt gt ++ (wA9 (kD k) qn gn ++ (wA21 (kD k) qp gp))))))))) (pc' := 525) (cs' := 0) (sl' := 0) hf C (fun u => some (.int u)) (fun u => (wG (kD k) rG (aS 0) rV rN (aT 0) ++ (wS (kD k) aS v))) ((List.Perm.refl _).trans as2) (fun u hu => gr_V (rest := []) C (cX4_stackOf_ (kL k) C.tr (kD k) N rG rV rN (aT 0) aS v r3 4 u hu) (fun ht => cwV 2 ht gL_acts_X4_stackOf rfl rfl rfl hdX4_stackOf ⟨(Nat.le_of_ble_eq_true rfl), (Nat.le_of_ble_eq_true rfl)⟩) 0 rfl rfl _ (rg_map _ _) (rg_nd _) rfl rfl (Nat.le_of_ble_eq_true rfl) dL_acts_522 ⟨(Nat.le_of_ble_eq_true rfl), (Nat.le_of_ble_eq_true rfl)⟩) (ws' := fun u => (wG (kD k) rG (aS 0) rV rN (aT 0)  ++ (wS (kD k) aS v ++ (wT (kD k) aT tx ++ (wV (kD k) rV aV z ++ (wA10 (kD k) ql gl ++ (wA10 (kD k) qe ge ++ (wA10 (kD k) qw gw ++ (wA10 (kD k) qh gh ++ (wA10 (kD k) qt gt ++ (wA9 (kD k) qn gn ++ (wA21 (kD k) qp gp)))))))))))) (fun u => (as2.symm.trans (List.Perm.refl _))) rfl rfl rfl (fun u => [.int u]) (fun u => rfl) (fun r28 hf => ?_)
        refine g_iconst (pc := 525) (v := (-1)) C dL_acts_525 (by decide) ?_
        refine g_icmp_ne (pc := 526) (tgt := 533) (x := r28) (y := (-1)) hf C dL_acts_526 (by decide) (fun hf => ?_) (fun hf => ?_)
        · cases hf
        · refine g_iconst (pc := 529) (v := 1) C dL_acts_529 (by decide) ?_
          refine g_goto (pc := 530) (tgt := 534) C dL_acts_530 (by decide) ?_
          obtain rfl := Option.some.inj hf
          exact g_bret (b := true) C E dL_acts_534 (Nat.le_of_ble_eq_true rfl) (Nat.le_of_ble_eq_true rfl) ⟨rfl, _, rfl⟩
    refine g_split hf (fun e hf => ?_) (fun n36_7 hf => ?_)
    · refine g_tsw (pc := 36) (tgt := 507) C dL_acts_36 e (by decide) (by decide) rfl (by decide) ?_
      refine g_aload (pc := 507) (x := qp) C dL_acts_507 rfl ?_
      refine g_bipush (pc := 509) (v := 7) C dL_acts_509 (by decide) ?_
      refine g_iload (pc := 511) (x := r3) C dL_acts_511 rfl ?_
      refine g_imul (pc := 513) (x := 7) (y := r3) C dL_acts_513 ?_
      refine g_iald (pc := 514) (i := (7 * r3)) hf C 74 rfl dL_acts_514 (fun hf => ?_)
      refine g_if_ne (pc := 515) (tgt := 535) (x := (gp (Int32.toNatClampNeg (7 * r3)))) hf C dL_acts_515 (by decide) (fun hf => ?_) (fun hf => ?_)
      · refine g_aload (pc := 535) (x := qp) C dL_acts_535 rfl ?_
        refine g_bipush (pc := 537) (v := 7) C dL_acts_537 (by decide) ?_
        refine g_iload (pc := 539) (x := r3) C dL_acts_539 rfl ?_
        refine g_imul (pc := 541) (x := 7) (y := r3) C dL_acts_541 ?_
        refine g_aload (pc := 542) (x := qp) C dL_acts_542 rfl ?_
        refine g_bipush (pc := 544) (v := 7) C dL_acts_544 (by decide) ?_
        refine g_iload (pc := 546) (x := r3) C dL_acts_546 rfl ?_
        refine g_imul (pc := 548) (x := 7) (y := r3) C dL_acts_548 ?_
        refine g_iald (pc := 549) (i := (7 * r3)) hf C 74 rfl dL_acts_549 (fun hf => ?_)
        refine g_iadd (pc := 550) (x := (7 * r3)) (y := (gp (Int32.toNatClampNeg (7 * r3)))) C dL_acts_550 ?_
        refine g_iald (pc := 551) (i := ((7 * r3) + (gp (Int32.toNatClampNeg (7 * r3))))) hf C 74 rfl dL_acts_551 (fun hf => ?_)
        refine g_istore (pc := 552) (lv' := [(17, .int (gp (Int32.toNatClampNeg ((7 * r3) + (gp (Int32.toNatClampNeg (7 * r3))))))), (11, .int r3), (10, .int r1), (0, .ref rG), (1, .ref ql), (2, .ref qe), (3, .ref qw), (4, .ref qh), (5, .ref qt), (6, .ref qn), (7, .ref qp), (8, .int p8), (9, .int p9)]) C dL_acts_552 (by decide) rfl ?_
        refine g_aload_n (pc := 554) (x := qw) C dL_acts_554 rfl ?_
        refine g_aload (pc := 555) (x := qh) C dL_acts_555 rfl ?_
        refine g_aload (pc := 557) (x := qn) C dL_acts_557 rfl ?_
        refine g_aload (pc := 559) (x := qp) C dL_acts_559 rfl ?_
        refine g_iload (pc := 561) (x := r3) C dL_acts_561 rfl ?_
        refine g_callWA (wr := wG (kD k) rG (aS 0) rV rN (aT 0)  ++ (wS (kD k) aS v ++ (wT (kD k) aT tx ++ (wV (kD k) rV aV z ++ (wA10 (kD k) ql gl ++ (wA10 (kD k) qe ge ++ (wA10 (kD k) qt gt))))))) (pc' := 566) (cs' := 0) (sl' := 0) hf C (fun u => none) (fun u => (wA10 (kD k) qw u.1 ++ (wA10 (kD k) qh u.2 ++ (wA9 (kD k) qn gn ++ (wA21 (kD k) qp gp))))) (((pm0 (pm0 (pm0 (pm0 (pm0 (pm0 (List.Perm.refl _))))))).trans (pmc ((pm0 (pm0 (pm0 (pm0 (pm0 (pm0 (List.Perm.refl _))))))).trans (pmc ((pm0 (pm0 (pm0 (pm0 (pm0 (pm0 (pm0 (List.Perm.refl _)))))))).trans (pmc (pm0 (pm0 (pm0 (pm0 (pm0 (pm0 pmL)))))))))))).trans as4) (fun u hu => gr_S (rest := []) C (cL_rubs_ (kL k) C.tr (kD k) N qw qh qn qp gw gh gn gp r3 u hu) (fun ht => va_cwS 5 ht gL_acts_L_rubs rfl rfl rfl hsL_rubs ⟨(Nat.le_of_ble_eq_true rfl), (Nat.le_of_ble_eq_true rfl)⟩) _ (rg_map _ _) (rg_nd _) rfl rfl (Nat.le_of_ble_eq_true rfl) dL_acts_563 ⟨(Nat.le_of_ble_eq_true rfl), (Nat.le_of_ble_eq_true rfl)⟩) (ws' := fun u => (wG (kD k) rG (aS 0) rV rN (aT 0)  ++ (wS (kD k) aS v ++ (wT (kD k) aT tx ++ (wV (kD k) rV aV z ++ (wA10 (kD k) ql gl ++ (wA10 (kD k) qe ge ++ (wA10 (kD k) qw u.1 ++ (wA10 (kD k) qh u.2 ++ (wA10 (kD k) qt gt ++ (wA9 (kD k) qn gn ++ (wA21 (kD k) qp gp)))))))))))) (fun u => (as4.symm.trans ((pm0 (pm0 (pm0 (pm0 (List.Perm.refl _))))).trans (pmc ((pm0 (pm0 (pm0 (pm0 (List.Perm.refl _))))).trans (pmc ((pm0 (pm0 (pm0 (pm0 (List.Perm.refl _))))).trans (pmc ((pm0 (pm0 (pm0 (pm0 (List.Perm.refl _))))).trans (pmc ((pm0 (pm0 (pm0 (pm0 (List.Perm.refl _))))).trans (pmc ((pm0 (pm0 (pm0 (pm0 (List.Perm.refl _))))).trans (pmc (pmc (pmc (pm0 pmL))))))))))))))))) rfl rfl rfl (fun u => []) (fun u => rfl) (fun r29 hf => ?_)
        refine g_aload (pc := 566) (x := qp) C dL_acts_566 rfl ?_
        refine g_bipush (pc := 568) (v := 7) C dL_acts_568 (by decide) ?_
        refine g_iload (pc := 570) (x := r3) C dL_acts_570 rfl ?_
        refine g_imul (pc := 572) (x := 7) (y := r3) C dL_acts_572 ?_
        refine g_dup2 (pc := 573) C dL_acts_573 rfl rfl ?_
        refine g_iald (pc := 574) (i := (7 * r3)) hf C 74 rfl dL_acts_574 (fun hf => ?_)
        refine g_iconst (pc := 575) (v := 1) C dL_acts_575 (by decide) ?_
        refine g_isub (pc := 576) (x := (gp (Int32.toNatClampNeg (7 * r3)))) (y := 1) C dL_acts_576 ?_
        refine g_iast (pc := 577) (i := (7 * r3)) (x := ((gp (Int32.toNatClampNeg (7 * r3))) - 1)) hf C 74 rfl dL_acts_577 (ws' := (wG (kD k) rG (aS 0) rV rN (aT 0)  ++ (wS (kD k) aS v ++ (wT (kD k) aT tx ++ (wV (kD k) rV aV z ++ (wA10 (kD k) ql gl ++ (wA10 (kD k) qe ge ++ (wA10 (kD k) qw r29.1 ++ (wA10 (kD k) qh r29.2 ++ (wA10 (kD k) qt gt ++ (wA9 (kD k) qn gn ++ (wA21 (kD k) qp (upd gp (Int32.toNatClampNeg (7 * r3)) ((gp (Int32.toNatClampNeg (7 * r3))) - 1)))))))))))))) rfl (fun hf => ?_)
        refine g_aload (pc := 578) (x := qn) C dL_acts_578 rfl ?_
        refine g_bipush (pc := 580) (v := 6) C dL_acts_580 (by decide) ?_
        refine g_dup2 (pc := 582) C dL_acts_582 rfl rfl ?_
        refine g_iald (pc := 583) (i := 6) hf C 73 rfl dL_acts_583 (fun hf => ?_)
        refine g_iconst (pc := 584) (v := 1) C dL_acts_584 (by decide) ?_
        refine g_iadd (pc := 585) (x := (gn (Int32.toNatClampNeg 6))) (y := 1) C dL_acts_585 ?_
        refine g_iast (pc := 586) (i := 6) (x := ((gn (Int32.toNatClampNeg 6)) + 1)) hf C 73 rfl dL_acts_586 (ws' := (wG (kD k) rG (aS 0) rV rN (aT 0)  ++ (wS (kD k) aS v ++ (wT (kD k) aT tx ++ (wV (kD k) rV aV z ++ (wA10 (kD k) ql gl ++ (wA10 (kD k) qe ge ++ (wA10 (kD k) qw r29.1 ++ (wA10 (kD k) qh r29.2 ++ (wA10 (kD k) qt gt ++ (wA9 (kD k) qn (upd gn (Int32.toNatClampNeg 6) ((gn (Int32.toNatClampNeg 6)) + 1)) ++ (wA21 (kD k) qp (upd gp (Int32.toNatClampNeg (7 * r3)) ((gp (Int32.toNatClampNeg (7 * r3))) - 1)))))))))))))) rfl (fun hf => ?_)
        refine g_aload_n (pc := 587) (x := rG) C dL_acts_587 rfl ?_
        refine g_iload (pc := 588) (x := r3) C dL_acts_588 rfl ?_
        refine g_callPA (wr := wT (kD k) aT tx ++ (wA10 (kD k) ql gl ++ (wA10 (kD k) qe ge ++ (wA10 (kD k) qw r29.1 ++ (wA10 (kD k) qh r29.2 ++ (wA10 (kD k) qt gt ++ (wA9 (kD k) qn (upd gn (Int32.toNatClampNeg 6) ((gn (Int32.toNatClampNeg 6)) + 1)) ++ (wA21 (kD k) qp (upd gp (Int32.toNatClampNeg (7 * r3)) ((gp (Int32.toNatClampNeg (7 * r3))) - 1)))))))))) (pc' := 593) (cs' := 0) (sl' := 0) hf C (fun u => some (.int u.2.2)) (fun u a => (wG (kD k) rG (aS 0) rV rN (aT 0) ++ (wS (kD k) aS u.1 ++ (wV (kD k) rV a u.2.1)))) ((pmc (pmc (pm0 (List.Perm.refl _)))).trans as3) (fun u hu => gr_V (rest := []) C (cX4_takeOff_ (kL k) C.tr (kD k) N rG rN (aT 0) aS rV aV v z r3 u hu) (fun ht => cwV 1 ht gL_acts_X4_takeOff rfl rfl rfl hdX4_takeOff ⟨(Nat.le_of_ble_eq_true rfl), (Nat.le_of_ble_eq_true rfl)⟩) 0 rfl rfl _ (rg_map _ _) (rg_nd _) rfl rfl (Nat.le_of_ble_eq_true rfl) dL_acts_590 ⟨(Nat.le_of_ble_eq_true rfl), (Nat.le_of_ble_eq_true rfl)⟩) (ws' := fun u a => (wG (kD k) rG (aS 0) rV rN (aT 0)  ++ (wS (kD k) aS u.1 ++ (wT (kD k) aT tx ++ (wV (kD k) rV a u.2.1 ++ (wA10 (kD k) ql gl ++ (wA10 (kD k) qe ge ++ (wA10 (kD k) qw r29.1 ++ (wA10 (kD k) qh r29.2 ++ (wA10 (kD k) qt gt ++ (wA9 (kD k) qn (upd gn (Int32.toNatClampNeg 6) ((gn (Int32.toNatClampNeg 6)) + 1)) ++ (wA21 (kD k) qp (upd gp (Int32.toNatClampNeg (7 * r3)) ((gp (Int32.toNatClampNeg (7 * r3))) - 1)))))))))))))) (fun u a => (as3.symm.trans (pmc (pmc (pm0 (List.Perm.refl _)))))) rfl rfl rfl (fun u => [.int u.2.2]) (fun u => rfl) (fun r30 aV30 hf => ?_)
        refine g_iload (pc := 593) (x := (gp (Int32.toNatClampNeg ((7 * r3) + (gp (Int32.toNatClampNeg (7 * r3))))))) C dL_acts_593 rfl ?_
        refine g_icmp_ne (pc := 595) (tgt := 602) (x := r30.2.2) (y := (gp (Int32.toNatClampNeg ((7 * r3) + (gp (Int32.toNatClampNeg (7 * r3))))))) hf C dL_acts_595 (by decide) (fun hf => ?_) (fun hf => ?_)
        · cases hf
        · refine g_iconst (pc := 598) (v := 1) C dL_acts_598 (by decide) ?_
          refine g_goto (pc := 599) (tgt := 603) C dL_acts_599 (by decide) ?_
          obtain rfl := Option.some.inj hf
          exact g_bret (b := true) C E dL_acts_603 (Nat.le_of_ble_eq_true rfl) (Nat.le_of_ble_eq_true rfl) ⟨rfl, _, rfl⟩
      · refine g_aload_n (pc := 518) (x := rG) C dL_acts_518 rfl ?_
        refine g_iload (pc := 519) (x := r3) C dL_acts_519 rfl ?_
        refine g_iconst (pc := 521) (v := 4) C dL_acts_521 (by decide) ?_
        refine g_callWA (wr := wT (kD k) aT tx ++ (wV (kD k) rV aV z ++ (wA10 (kD k) ql gl ++ (wA10 (kD k) qe ge ++ (wA10 (kD k) qw gw ++ (wA10 (kD k) qh gh ++ (wA10 (kD k) qt gt ++ (wA9 (kD k) qn gn ++ (wA21 (kD k) qp gp))))))))) (pc' := 525) (cs' := 0) (sl' := 0) hf C (fun u => some (.int u)) (fun u => (wG (kD k) rG (aS 0) rV rN (aT 0) ++ (wS (kD k) aS v))) ((List.Perm.refl _).trans as2) (fun u hu => gr_V (rest := []) C (cX4_stackOf_ (kL k) C.tr (kD k) N rG rV rN (aT 0) aS v r3 4 u hu) (fun ht => cwV 2 ht gL_acts_X4_stackOf rfl rfl rfl hdX4_stackOf ⟨(Nat.le_of_ble_eq_true rfl), (Nat.le_of_ble_eq_true rfl)⟩) 0 rfl rfl _ (rg_map _ _) (rg_nd _) rfl rfl (Nat.le_of_ble_eq_true rfl) dL_acts_522 ⟨(Nat.le_of_ble_eq_true rfl), (Nat.le_of_ble_eq_true rfl)⟩) (ws' := fun u => (wG (kD k) rG (aS 0) rV rN (aT 0)  ++ (wS (kD k) aS v ++ (wT (kD k) aT tx ++ (wV (kD k) rV aV z ++ (wA10 (kD k) ql gl ++ (wA10 (kD k) qe ge ++ (wA10 (kD k) qw gw ++ (wA10 (kD k) qh gh ++ (wA10 (kD k) qt gt ++ (wA9 (kD k) qn gn ++ (wA21 (kD k) qp gp)))))))))))) (fun u => (as2.symm.trans (List.Perm.refl _))) rfl rfl rfl (fun u => [.int u]) (fun u => rfl) (fun r31 hf => ?_)
        refine g_iconst (pc := 525) (v := (-1)) C dL_acts_525 (by decide) ?_
        refine g_icmp_ne (pc := 526) (tgt := 533) (x := r31) (y := (-1)) hf C dL_acts_526 (by decide) (fun hf => ?_) (fun hf => ?_)
        · cases hf
        · refine g_iconst (pc := 529) (v := 1) C dL_acts_529 (by decide) ?_
          refine g_goto (pc := 530) (tgt := 534) C dL_acts_530 (by decide) ?_
          obtain rfl := Option.some.inj hf
          exact g_bret (b := true) C E dL_acts_534 (Nat.le_of_ble_eq_true rfl) (Nat.le_of_ble_eq_true rfl) ⟨rfl, _, rfl⟩
    refine g_split hf (fun e hf => ?_) (fun n36_8 hf => ?_)
    · refine g_tsw (pc := 36) (tgt := 604) C dL_acts_36 e (by decide) (by decide) rfl (by decide) ?_
      refine g_aload (pc := 604) (x := qn) C dL_acts_604 rfl ?_
      refine g_bipush (pc := 606) (v := 8) C dL_acts_606 (by decide) ?_
      refine g_iald (pc := 608) (i := 8) hf C 73 rfl dL_acts_608 (fun hf => ?_)
      refine g_join (Q := fun (u : Int32) => gG k (wG (kD k) rG (aS 0) rV rN (aT 0)  ++ (wS (kD k) aS v ++ (wT (kD k) aT tx ++ (wV (kD k) rV aV z ++ (wA10 (kD k) ql gl ++ (wA10 (kD k) qe ge ++ (wA10 (kD k) qw gw ++ (wA10 (kD k) qh gh ++ (wA10 (kD k) qt gt ++ (wA9 (kD k) qn gn ++ (wA21 (kD k) qp gp))))))))))) [(0, .ref rG), (1, .ref ql), (2, .ref qe), (3, .ref qw), (4, .ref qh), (5, .ref qt), (6, .ref qn), (7, .ref qp), (11, .int r3)] 0 0 638 [.int u]) hf (fun r32 hf => ?_) (fun r32 hf K32 => ?_)
      · refine g_istore (pc := 638) (lv' := [(18, .int r32), (0, .ref rG), (1, .ref ql), (2, .ref qe), (3, .ref qw), (4, .ref qh), (5, .ref qt), (6, .ref qn), (7, .ref qp), (11, .int r3)]) C dL_acts_638 (by decide) rfl ?_
        refine g_aload_n (pc := 640) (x := rG) C dL_acts_640 rfl ?_
        refine g_aload_n (pc := 641) (x := ql) C dL_acts_641 rfl ?_
        refine g_aload_n (pc := 642) (x := qe) C dL_acts_642 rfl ?_
        refine g_aload_n (pc := 643) (x := qw) C dL_acts_643 rfl ?_
        refine g_aload (pc := 644) (x := qh) C dL_acts_644 rfl ?_
        refine g_aload (pc := 646) (x := qt) C dL_acts_646 rfl ?_
        refine g_aload (pc := 648) (x := qn) C dL_acts_648 rfl ?_
        refine g_aload (pc := 650) (x := qp) C dL_acts_650 rfl ?_
        refine g_iload (pc := 652) (x := r3) C dL_acts_652 rfl ?_
        refine g_iload (pc := 654) (x := r32) C dL_acts_654 rfl ?_
        refine g_callPA (wr := wT (kD k) aT tx) (pc' := 659) (cs' := 0) (sl' := 0) hf C (fun u => some (.int (b2i u.2.2.2.2.2.2.2))) (fun u a => (wG (kD k) rG (aS 0) rV rN (aT 0) ++ (wS (kD k) aS u.1 ++ (wV (kD k) rV a u.2.1 ++ (wA10 (kD k) ql gl ++ (wA10 (kD k) qe ge ++ (wA10 (kD k) qw u.2.2.1 ++ (wA10 (kD k) qh u.2.2.2.1 ++ (wA10 (kD k) qt u.2.2.2.2.1 ++ (wA9 (kD k) qn u.2.2.2.2.2.1 ++ (wA21 (kD k) qp u.2.2.2.2.2.2.1))))))))))) ((pmc (pmc ((pm0 (List.Perm.refl _)).trans (pmc ((pm0 (List.Perm.refl _)).trans (pmc ((pm0 (List.Perm.refl _)).trans (pmc ((pm0 (List.Perm.refl _)).trans (pmc ((pm0 (List.Perm.refl _)).trans (pmc ((pm0 (List.Perm.refl _)).trans (pmc ((pm0 (List.Perm.refl _)).trans (pmc pmL)))))))))))))))).trans as10) (fun u hu => gr_S (rest := []) C (cL_makes_ (kL k) C.tr (kD k) N rG rN (aT 0) aS rV aV ql qe qw qh qt qn qp v z gl ge gw gh gt gn gp r3 r32 u hu) (fun ht => va_cwS 10 ht gL_acts_L_makes rfl rfl rfl hsL_makes ⟨(Nat.le_of_ble_eq_true rfl), (Nat.le_of_ble_eq_true rfl)⟩) _ (rg_map _ _) (rg_nd _) rfl rfl (Nat.le_of_ble_eq_true rfl) dL_acts_656 ⟨(Nat.le_of_ble_eq_true rfl), (Nat.le_of_ble_eq_true rfl)⟩) (ws' := fun u a => (wG (kD k) rG (aS 0) rV rN (aT 0)  ++ (wS (kD k) aS u.1 ++ (wT (kD k) aT tx ++ (wV (kD k) rV a u.2.1 ++ (wA10 (kD k) ql gl ++ (wA10 (kD k) qe ge ++ (wA10 (kD k) qw u.2.2.1 ++ (wA10 (kD k) qh u.2.2.2.1 ++ (wA10 (kD k) qt u.2.2.2.2.1 ++ (wA9 (kD k) qn u.2.2.2.2.2.1 ++ (wA21 (kD k) qp u.2.2.2.2.2.2.1)))))))))))) (fun u a => (as10.symm.trans (pmc (pmc (pm0 (pm0 (pm0 (pm0 (pm0 (pm0 (pm0 pmL))))))))))) rfl rfl rfl (fun u => [.int (b2i u.2.2.2.2.2.2.2)]) (fun u => rfl) (fun r34 aV34 hf => ?_)
        obtain rfl := Option.some.inj hf
        exact g_bret (b := r34.2.2.2.2.2.2.2) C E dL_acts_659 (Nat.le_of_ble_eq_true rfl) (Nat.le_of_ble_eq_true rfl) ⟨rfl, _, rfl⟩
      · refine g_if_ne (pc := 609) (tgt := 618) (x := (gn (Int32.toNatClampNeg 8))) hf C dL_acts_609 (by decide) (fun hf => ?_) (fun hf => ?_)
        · refine g_aload_n (pc := 618) (x := ql) C dL_acts_618 rfl ?_
          refine g_iload (pc := 619) (x := r1) C dL_acts_619 rfl ?_
          refine g_iald (pc := 621) (i := r1) hf C 68 rfl dL_acts_621 (fun hf => ?_)
          refine g_aload_n (pc := 622) (x := ql) C dL_acts_622 rfl ?_
          refine g_iload (pc := 623) (x := p9) C dL_acts_623 rfl ?_
          refine g_bipush (pc := 625) (v := 7) C dL_acts_625 (by decide) ?_
          refine g_ishr (pc := 627) (x := p9) (y := 7) C dL_acts_627 ?_
          refine g_aload (pc := 628) (x := qn) C dL_acts_628 rfl ?_
          refine g_bipush (pc := 630) (v := 8) C dL_acts_630 (by decide) ?_
          refine g_iald (pc := 632) (i := 8) hf C 73 rfl dL_acts_632 (fun hf => ?_)
          refine g_callR (pc' := 636) (cs' := 0) (sl' := 0) hf C (fun u => some (.int u)) (fun u hu => gr_S (rest := [.ref ql, .int (gl (Int32.toNatClampNeg r1))]) C (cL_low_ (kL k) C.tr (kD k) N (p9 >>> (7 &&& 31)) (gn (Int32.toNatClampNeg 8)) u hu) (fun ht => va_cwS 2 ht gL_acts_L_low rfl rfl rfl hsL_low ⟨(Nat.le_of_ble_eq_true rfl), (Nat.le_of_ble_eq_true rfl)⟩) [] rfl (by decide) rfl rfl (Nat.le_of_ble_eq_true rfl) dL_acts_633 ⟨(Nat.le_of_ble_eq_true rfl), (Nat.le_of_ble_eq_true rfl)⟩) [] rfl rfl rfl rfl (fun u => [.int u, .ref ql, .int (gl (Int32.toNatClampNeg r1))]) (fun u => rfl) (fun r33 hf => ?_)
          refine g_iald (pc := 636) (i := r33) hf C 68 rfl dL_acts_636 (fun hf => ?_)
          refine g_iadd (pc := 637) (x := (gl (Int32.toNatClampNeg r1))) (y := (gl (Int32.toNatClampNeg r33))) C dL_acts_637 ?_
          obtain rfl := Option.some.inj hf
          refine g_lv [2, 3, 4, 5, 6, 7, 8, 9, 0] (lv' := [(0, .ref rG), (1, .ref ql), (2, .ref qe), (3, .ref qw), (4, .ref qh), (5, .ref qt), (6, .ref qn), (7, .ref qp), (11, .int r3)]) rfl ?_
          exact K32
        · refine g_sipush (pc := 612) (v := 700) C dL_acts_612 (by decide) ?_
          refine g_goto (pc := 615) (tgt := 638) C dL_acts_615 (by decide) ?_
          obtain rfl := Option.some.inj hf
          refine g_lv [2, 3, 4, 5, 6, 7, 8, 9, 0] (lv' := [(0, .ref rG), (1, .ref ql), (2, .ref qe), (3, .ref qw), (4, .ref qh), (5, .ref qt), (6, .ref qn), (7, .ref qp), (11, .int r3)]) rfl ?_
          exact K32
    refine g_tswd (pc := 36) (x := p8) (tgt := 660) C dL_acts_36 (by have e36_0 : (p8).toInt ≠ 0 := fun h => n36_0 (Int32.toInt_inj.mp (h.trans (by decide))); have e36_1 : (p8).toInt ≠ 1 := fun h => n36_1 (Int32.toInt_inj.mp (h.trans (by decide))); have e36_2 : (p8).toInt ≠ 2 := fun h => n36_2 (Int32.toInt_inj.mp (h.trans (by decide))); have e36_3 : (p8).toInt ≠ 3 := fun h => n36_3 (Int32.toInt_inj.mp (h.trans (by decide))); have e36_4 : (p8).toInt ≠ 4 := fun h => n36_4 (Int32.toInt_inj.mp (h.trans (by decide))); have e36_5 : (p8).toInt ≠ 5 := fun h => n36_5 (Int32.toInt_inj.mp (h.trans (by decide))); have e36_6 : (p8).toInt ≠ 6 := fun h => n36_6 (Int32.toInt_inj.mp (h.trans (by decide))); have e36_7 : (p8).toInt ≠ 7 := fun h => n36_7 (Int32.toInt_inj.mp (h.trans (by decide))); have e36_8 : (p8).toInt ≠ 8 := fun h => n36_8 (Int32.toInt_inj.mp (h.trans (by decide))); omega) (by decide) ?_
    refine g_iload (pc := 660) (x := r1) C dL_acts_660 rfl ?_
    refine g_iconst (pc := 662) (v := (-1)) C dL_acts_662 (by decide) ?_
    refine g_icmp_eq (pc := 663) (tgt := 720) (x := r1) (y := (-1)) hf C dL_acts_663 (by decide) (fun hf => ?_) (fun hf => ?_)
    · refine g_iconst (pc := 720) (v := 1) C dL_acts_720 (by decide) ?_
      refine g_goto (pc := 721) (tgt := 725) C dL_acts_721 (by decide) ?_
      obtain rfl := Option.some.inj hf
      exact g_bret (b := true) C E dL_acts_725 (Nat.le_of_ble_eq_true rfl) (Nat.le_of_ble_eq_true rfl) ⟨rfl, _, rfl⟩
    · refine g_aload_n (pc := 666) (x := rG) C dL_acts_666 rfl ?_
      refine g_iload (pc := 667) (x := r3) C dL_acts_667 rfl ?_
      refine g_iload (pc := 669) (x := r1) C dL_acts_669 rfl ?_
      refine g_callWA (wr := wT (kD k) aT tx ++ (wV (kD k) rV aV z ++ (wA10 (kD k) ql gl ++ (wA10 (kD k) qe ge ++ (wA10 (kD k) qw gw ++ (wA10 (kD k) qh gh ++ (wA10 (kD k) qt gt ++ (wA9 (kD k) qn gn ++ (wA21 (kD k) qp gp))))))))) (pc' := 674) (cs' := 0) (sl' := 0) hf C (fun u => some (.int u)) (fun u => (wG (kD k) rG (aS 0) rV rN (aT 0) ++ (wS (kD k) aS v))) ((List.Perm.refl _).trans as2) (fun u hu => gr_V (rest := []) C (cX4_refusal_ (kL k) C.tr (kD k) N rG rV rN (aT 0) aS v r3 r1 u hu) (fun ht => cwV 2 ht gL_acts_X4_refusal rfl rfl rfl hdX4_refusal ⟨(Nat.le_of_ble_eq_true rfl), (Nat.le_of_ble_eq_true rfl)⟩) 0 rfl rfl _ (rg_map _ _) (rg_nd _) rfl rfl (Nat.le_of_ble_eq_true rfl) dL_acts_671 ⟨(Nat.le_of_ble_eq_true rfl), (Nat.le_of_ble_eq_true rfl)⟩) (ws' := fun u => (wG (kD k) rG (aS 0) rV rN (aT 0)  ++ (wS (kD k) aS v ++ (wT (kD k) aT tx ++ (wV (kD k) rV aV z ++ (wA10 (kD k) ql gl ++ (wA10 (kD k) qe ge ++ (wA10 (kD k) qw gw ++ (wA10 (kD k) qh gh ++ (wA10 (kD k) qt gt ++ (wA9 (kD k) qn gn ++ (wA21 (kD k) qp gp)))))))))))) (fun u => (as2.symm.trans (List.Perm.refl _))) rfl rfl rfl (fun u => [.int u]) (fun u => rfl) (fun r35 hf => ?_)
      refine g_aload_n (pc := 674) (x := qe) C dL_acts_674 rfl ?_
      refine g_aload_n (pc := 675) (x := qw) C dL_acts_675 rfl ?_
      refine g_aload (pc := 676) (x := qh) C dL_acts_676 rfl ?_
      refine g_aload (pc := 678) (x := qn) C dL_acts_678 rfl ?_
      refine g_aload (pc := 680) (x := qp) C dL_acts_680 rfl ?_
      refine g_iload (pc := 682) (x := r3) C dL_acts_682 rfl ?_
      refine g_iload (pc := 684) (x := r1) C dL_acts_684 rfl ?_
      refine g_callWA (wr := wG (kD k) rG (aS 0) rV rN (aT 0)  ++ (wS (kD k) aS v ++ (wT (kD k) aT tx ++ (wV (kD k) rV aV z ++ (wA10 (kD k) ql gl ++ (wA10 (kD k) qt gt)))))) (pc' := 689) (cs' := 0) (sl' := 0) hf C (fun u => some (.int u)) (fun u => (wA10 (kD k) qe ge ++ (wA10 (kD k) qw gw ++ (wA10 (kD k) qh gh ++ (wA9 (kD k) qn gn ++ (wA21 (kD k) qp gp)))))) (((pm0 (pm0 (pm0 (pm0 (pm0 (List.Perm.refl _)))))).trans (pmc ((pm0 (pm0 (pm0 (pm0 (pm0 (List.Perm.refl _)))))).trans (pmc ((pm0 (pm0 (pm0 (pm0 (pm0 (List.Perm.refl _)))))).trans (pmc ((pm0 (pm0 (pm0 (pm0 (pm0 (pm0 (List.Perm.refl _))))))).trans (pmc (pm0 (pm0 (pm0 (pm0 (pm0 pmL))))))))))))).trans as5) (fun u hu => gr_S (rest := [.int r35]) C (cL_reason_ (kL k) C.tr (kD k) N qe qw qh qn qp ge gw gh gn gp r3 r1 u hu) (fun ht => va_cwS 7 ht gL_acts_L_reason rfl rfl rfl hsL_reason ⟨(Nat.le_of_ble_eq_true rfl), (Nat.le_of_ble_eq_true rfl)⟩) _ (rg_map _ _) (rg_nd _) rfl rfl (Nat.le_of_ble_eq_true rfl) dL_acts_686 ⟨(Nat.le_of_ble_eq_true rfl), (Nat.le_of_ble_eq_true rfl)⟩) (ws' := fun u => (wG (kD k) rG (aS 0) rV rN (aT 0)  ++ (wS (kD k) aS v ++ (wT (kD k) aT tx ++ (wV (kD k) rV aV z ++ (wA10 (kD k) ql gl ++ (wA10 (kD k) qe ge ++ (wA10 (kD k) qw gw ++ (wA10 (kD k) qh gh ++ (wA10 (kD k) qt gt ++ (wA9 (kD k) qn gn ++ (wA21 (kD k) qp gp)))))))))))) (fun u => (as5.symm.trans ((pm0 (pm0 (pm0 (pm0 (pm0 (List.Perm.refl _)))))).trans (pmc ((pm0 (pm0 (pm0 (pm0 (pm0 (List.Perm.refl _)))))).trans (pmc ((pm0 (pm0 (pm0 (pm0 (pm0 (List.Perm.refl _)))))).trans (pmc ((pm0 (pm0 (pm0 (pm0 (pm0 (List.Perm.refl _)))))).trans (pmc ((pm0 (pm0 (pm0 (pm0 (pm0 (List.Perm.refl _)))))).trans (pmc (pmc (pmc (pmc (pm0 pmL)))))))))))))))) rfl rfl rfl (fun u => [.int u, .int r35]) (fun u => rfl) (fun r36 hf => ?_)
      refine g_icmp_ne (pc := 689) (tgt := 724) (x := r35) (y := r36) hf C dL_acts_689 (by decide) (fun hf => ?_) (fun hf => ?_)
      · cases hf
      · refine g_aload_n (pc := 692) (x := rG) C dL_acts_692 rfl ?_
        refine g_iload (pc := 693) (x := r3) C dL_acts_693 rfl ?_
        refine g_iload (pc := 695) (x := r1) C dL_acts_695 rfl ?_
        refine g_callPA (wr := wT (kD k) aT tx ++ (wA10 (kD k) ql gl ++ (wA10 (kD k) qe ge ++ (wA10 (kD k) qw gw ++ (wA10 (kD k) qh gh ++ (wA10 (kD k) qt gt ++ (wA9 (kD k) qn gn ++ (wA21 (kD k) qp gp)))))))) (pc' := 700) (cs' := 0) (sl' := 0) hf C (fun u => some (.int u.2.2)) (fun u a => (wG (kD k) rG (aS 0) rV rN (aT 0) ++ (wS (kD k) aS u.1 ++ (wV (kD k) rV a u.2.1)))) ((pmc (pmc (pm0 (List.Perm.refl _)))).trans as3) (fun u hu => gr_V (rest := []) C (cX4_wring_ (kL k) C.tr (kD k) N rG rN (aT 0) aS rV aV v z r3 r1 u hu) (fun ht => cwV 2 ht gL_acts_X4_wring rfl rfl rfl hdX4_wring ⟨(Nat.le_of_ble_eq_true rfl), (Nat.le_of_ble_eq_true rfl)⟩) 0 rfl rfl _ (rg_map _ _) (rg_nd _) rfl rfl (Nat.le_of_ble_eq_true rfl) dL_acts_697 ⟨(Nat.le_of_ble_eq_true rfl), (Nat.le_of_ble_eq_true rfl)⟩) (ws' := fun u a => (wG (kD k) rG (aS 0) rV rN (aT 0)  ++ (wS (kD k) aS u.1 ++ (wT (kD k) aT tx ++ (wV (kD k) rV a u.2.1 ++ (wA10 (kD k) ql gl ++ (wA10 (kD k) qe ge ++ (wA10 (kD k) qw gw ++ (wA10 (kD k) qh gh ++ (wA10 (kD k) qt gt ++ (wA9 (kD k) qn gn ++ (wA21 (kD k) qp gp)))))))))))) (fun u a => (as3.symm.trans (pmc (pmc (pm0 (List.Perm.refl _)))))) rfl rfl rfl (fun u => [.int u.2.2]) (fun u => rfl) (fun r37 aV37 hf => ?_)
        refine g_aload_n (pc := 700) (x := qe) C dL_acts_700 rfl ?_
        refine g_aload_n (pc := 701) (x := qw) C dL_acts_701 rfl ?_
        refine g_aload (pc := 702) (x := qh) C dL_acts_702 rfl ?_
        refine g_aload (pc := 704) (x := qt) C dL_acts_704 rfl ?_
        refine g_aload (pc := 706) (x := qn) C dL_acts_706 rfl ?_
        refine g_aload (pc := 708) (x := qp) C dL_acts_708 rfl ?_
        refine g_iload (pc := 710) (x := r3) C dL_acts_710 rfl ?_
        refine g_iload (pc := 712) (x := r1) C dL_acts_712 rfl ?_
        refine g_callWA (wr := wG (kD k) rG (aS 0) rV rN (aT 0)  ++ (wS (kD k) aS r37.1 ++ (wT (kD k) aT tx ++ (wV (kD k) rV aV37 r37.2.1 ++ (wA10 (kD k) ql gl))))) (pc' := 717) (cs' := 0) (sl' := 0) hf C (fun u => some (.int u.2.2.2.2.2)) (fun u => (wA10 (kD k) qe ge ++ (wA10 (kD k) qw u.1 ++ (wA10 (kD k) qh u.2.1 ++ (wA10 (kD k) qt u.2.2.1 ++ (wA9 (kD k) qn u.2.2.2.1 ++ (wA21 (kD k) qp u.2.2.2.2.1))))))) (((pm0 (pm0 (pm0 (pm0 (pm0 (List.Perm.refl _)))))).trans (pmc ((pm0 (pm0 (pm0 (pm0 (pm0 (List.Perm.refl _)))))).trans (pmc ((pm0 (pm0 (pm0 (pm0 (pm0 (List.Perm.refl _)))))).trans (pmc ((pm0 (pm0 (pm0 (pm0 (pm0 (List.Perm.refl _)))))).trans (pmc ((pm0 (pm0 (pm0 (pm0 (pm0 (List.Perm.refl _)))))).trans (pmc (pm0 (pm0 (pm0 (pm0 pmL)))))))))))))).trans as6) (fun u hu => gr_S (rest := [.int r37.2.2]) C (cL_wrings_ (kL k) C.tr (kD k) N qe qw qh qt qn qp ge gw gh gt gn gp r3 r1 u hu) (fun ht => va_cwS 8 ht gL_acts_L_wrings rfl rfl rfl hsL_wrings ⟨(Nat.le_of_ble_eq_true rfl), (Nat.le_of_ble_eq_true rfl)⟩) _ (rg_map _ _) (rg_nd _) rfl rfl (Nat.le_of_ble_eq_true rfl) dL_acts_714 ⟨(Nat.le_of_ble_eq_true rfl), (Nat.le_of_ble_eq_true rfl)⟩) (ws' := fun u => (wG (kD k) rG (aS 0) rV rN (aT 0)  ++ (wS (kD k) aS r37.1 ++ (wT (kD k) aT tx ++ (wV (kD k) rV aV37 r37.2.1 ++ (wA10 (kD k) ql gl ++ (wA10 (kD k) qe ge ++ (wA10 (kD k) qw u.1 ++ (wA10 (kD k) qh u.2.1 ++ (wA10 (kD k) qt u.2.2.1 ++ (wA9 (kD k) qn u.2.2.2.1 ++ (wA21 (kD k) qp u.2.2.2.2.1)))))))))))) (fun u => (as6.symm.trans ((pm0 (pm0 (pm0 (pm0 (pm0 (pm0 (List.Perm.refl _))))))).trans (pmc ((pm0 (pm0 (pm0 (pm0 (pm0 (pm0 (List.Perm.refl _))))))).trans (pmc ((pm0 (pm0 (pm0 (pm0 (pm0 (pm0 (List.Perm.refl _))))))).trans (pmc ((pm0 (pm0 (pm0 (pm0 (pm0 (pm0 (List.Perm.refl _))))))).trans (pmc (pm0 (pm0 (pm0 (pm0 (pm0 pmL))))))))))))))) rfl rfl rfl (fun u => [.int u.2.2.2.2.2, .int r37.2.2]) (fun u => rfl) (fun r38 hf => ?_)
        refine g_icmp_ne (pc := 717) (tgt := 724) (x := r37.2.2) (y := r38.2.2.2.2.2) hf C dL_acts_717 (by decide) (fun hf => ?_) (fun hf => ?_)
        · cases hf
        · refine g_iconst (pc := 720) (v := 1) C dL_acts_720 (by decide) ?_
          refine g_goto (pc := 721) (tgt := 725) C dL_acts_721 (by decide) ?_
          obtain rfl := Option.some.inj hf
          exact g_bret (b := true) C E dL_acts_725 (Nat.le_of_ble_eq_true rfl) (Nat.le_of_ble_eq_true rfl) ⟨rfl, _, rfl⟩
  · refine g_if_ne (pc := 5) (tgt := 12) (x := (gn (Int32.toNatClampNeg 8))) hf C dL_acts_5 (by decide) (fun hf => ?_) (fun hf => ?_)
    · refine g_iload (pc := 12) (x := p9) C dL_acts_12 rfl ?_
      refine g_aload (pc := 14) (x := qn) C dL_acts_14 rfl ?_
      refine g_bipush (pc := 16) (v := 8) C dL_acts_16 (by decide) ?_
      refine g_iald (pc := 18) (i := 8) hf C 73 rfl dL_acts_18 (fun hf => ?_)
      refine g_callR (pc' := 22) (cs' := 0) (sl' := 0) hf C (fun u => some (.int u)) (fun u hu => gr_S (rest := []) C (cL_low_ (kL k) C.tr (kD k) N p9 (gn (Int32.toNatClampNeg 8)) u hu) (fun ht => va_cwS 2 ht gL_acts_L_low rfl rfl rfl hsL_low ⟨(Nat.le_of_ble_eq_true rfl), (Nat.le_of_ble_eq_true rfl)⟩) [] rfl (by decide) rfl rfl (Nat.le_of_ble_eq_true rfl) dL_acts_19 ⟨(Nat.le_of_ble_eq_true rfl), (Nat.le_of_ble_eq_true rfl)⟩) [] rfl rfl rfl rfl (fun u => [.int u]) (fun u => rfl) (fun r2 hf => ?_)
      obtain rfl := Option.some.inj hf
      exact K1
    · refine g_iconst (pc := 8) (v := (-1)) C dL_acts_8 (by decide) ?_
      refine g_goto (pc := 9) (tgt := 22) C dL_acts_9 (by decide) ?_
      obtain rfl := Option.some.inj hf
      exact K1
set_option maxRecDepth 100000 in
set_option maxHeartbeats 4000000 in
theorem cL_acts_ (l : Launch) (htr : l.stackTraces = false) (D : va_G) (N : Nat) (rG : Nat) (rN : Nat) (aS : Nat → Nat) (aT : Nat → Nat) (rV : Nat) (aV : Nat → Nat) (ql : Nat) (qe : Nat) (qw : Nat) (qh : Nat) (qt : Nat) (qn : Nat) (qp : Nat) (v : VS) (tx : VT) (z : VV) (gl : (Nat → Int32)) (ge : (Nat → Int32)) (gw : (Nat → Int32)) (gh : (Nat → Int32)) (gt : (Nat → Int32)) (gn : (Nat → Int32)) (gp : (Nat → Int32)) (p8 : Int32) (p9 : Int32) (r : VS × VV × (Nat → Int32) × (Nat → Int32) × (Nat → Int32) × (Nat → Int32) × (Nat → Int32) × (Nat → Int32) × (Nat → Int32) × Bool) (hf : fL_acts N v tx z gl ge gw gh gt gn gp p8 p9 = some r) : Tc l D yL_acts wsL_acts rmL_acts [.ref rG, .ref ql, .ref qe, .ref qw, .ref qh, .ref qt, .ref qn, .ref qp, .int p8, .int p9] (wG D rG (aS 0) rV rN (aT 0) ++ (wS D aS v ++ (wT D aT tx ++ (wV D rV aV z ++ (wA10 D ql gl ++ (wA10 D qe ge ++ (wA10 D qw gw ++ (wA10 D qh gh ++ (wA10 D qt gt ++ (wA9 D qn gn ++ (wA21 D qp gp))))))))))) (fun rv w => rv = some (.int (b2i r.2.2.2.2.2.2.2.2.2)) ∧ ∃ a : Nat → Nat, w = (wG D rG (aS 0) rV rN (aT 0) ++ (wS D aS r.1 ++ (wT D aT tx ++ (wV D rV a r.2.1 ++ (wA10 D ql r.2.2.1 ++ (wA10 D qe r.2.2.2.1 ++ (wA10 D qw r.2.2.2.2.1 ++ (wA10 D qh r.2.2.2.2.2.1 ++ (wA10 D qt r.2.2.2.2.2.2.1 ++ (wA9 D qn r.2.2.2.2.2.2.2.1 ++ (wA21 D qp r.2.2.2.2.2.2.2.2.1)))))))))))) (fun _ _ => False) 0 0 := Tc_of htr (by decide +kernel) rfl (Nat.le_of_ble_eq_true rfl) (fun k C E hl hD => by subst hD; exact wkL_acts C N rG rN aS aT rV aV ql qe qw qh qt qn qp v tx z gl ge gw gh gt gn gp p8 p9 r hf E)
