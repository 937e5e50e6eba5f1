abbrev rmL_isOld : Room := { frames := 4, cells := 0, slots := 0, locals := 99 }
theorem hsL_isOld : yL_isOld.cls ≠ "java/lang/invoke/MethodHandle" ∧ yL_isOld.cls ≠ "java/lang/invoke/VarHandle" ∧ (parseMethodDescriptor yL_isOld.desc).map (fun d => d.parameters.length) = some 4 := by decide +kernel
def lL_isOld_22 (N : Nat) (v : VS) (gl : (Nat → Int32)) (l2 : Int32) (l3 : Int32) (l4 : Int32) (l5 : Int32) : Nat → Int32 → Option ((Int32))
  | 0, _ => none
  | n + 1, l7 => cz l7 ((if ((l5 / l7) - (l5 / l7) / 10 * 10) = (0 : Int32) then (lL_isOld_22 N v gl l2 l3 l4 l5 n (l7 * 10)) else some l7))
set_option maxRecDepth 100000 in
set_option maxHeartbeats 4000000 in
theorem wlL_isOld_22 {k : Kt} (C : gC k cL_isOld 11 RL wsL_isOld rmL_isOld "isOld") (N : Nat) (rG : Nat) (rV : Nat) (rN : Nat) (rT : Nat) (aS : Nat → Nat) (ql : Nat) (v : VS) (gl : (Nat → Int32)) (l2 : Int32) (l3 : Int32) (l4 : Int32) (l5 : Int32) : ∀ (n : Nat) (l7 : Int32) (u : (Int32)) (hf : lL_isOld_22 N v gl l2 l3 l4 l5 n l7 = some u) (hk0 : gG k (wG (kD k) rG (aS 0) rV rN rT ++ (wS (kD k) aS v ++ (wA10 (kD k) ql gl))) [(0, .ref rG), (1, .ref ql), (2, .int l2), (3, .int l3), (4, .int l4), (5, .int l5), (7, .int u)] 0 0 43 []), gG k (wG (kD k) rG (aS 0) rV rN rT ++ (wS (kD k) aS v ++ (wA10 (kD k) ql gl))) [(0, .ref rG), (1, .ref ql), (2, .int l2), (3, .int l3), (4, .int l4), (5, .int l5), (7, .int l7)] 0 0 22 [] := by
  intro n
  induction n with
  | zero => intro l7 u hf hk0; rw [lL_isOld_22] at hf; cases hf
  | succ n ih =>
    intro l7 u hf hk0
    rw [lL_isOld_22] at hf
    refine g_iload (pc := 22) (x := l5) C dL_isOld_22 rfl ?_
    refine g_iload (pc := 24) (x := l7) C dL_isOld_24 rfl ?_
    refine g_idivz (pc := 26) (x := l5) (y := l7) hf C dL_isOld_26 (fun hf => ?_)
    refine g_bipush (pc := 27) (v := 10) C dL_isOld_27 (by decide) ?_
    refine g_irem (pc := 29) (x := (l5 / l7)) (y := 10) C dL_isOld_29 (by decide) ?_
    refine g_if_ne (pc := 30) (tgt := 43) (x := ((l5 / l7) - (l5 / l7) / 10 * 10)) hf C dL_isOld_30 (by decide) (fun hf => ?_) (fun hf => ?_)
    · obtain rfl := Option.some.inj hf
      exact hk0
    · refine g_iload (pc := 33) (x := l7) C dL_isOld_33 rfl ?_
      refine g_bipush (pc := 35) (v := 10) C dL_isOld_35 (by decide) ?_
      refine g_imul (pc := 37) (x := l7) (y := 10) C dL_isOld_37 ?_
      refine g_istore (pc := 38) (lv' := [(7, .int (l7 * 10)), (0, .ref rG), (1, .ref ql), (2, .int l2), (3, .int l3), (4, .int l4), (5, .int l5)]) C dL_isOld_38 (by decide) rfl ?_
      refine g_goto (pc := 40) (tgt := 22) C dL_isOld_40 (by decide) ?_
      refine g_lv [1, 2, 3, 4, 5, 6, 0] (lv' := [(0, .ref rG), (1, .ref ql), (2, .int l2), (3, .int l3), (4, .int l4), (5, .int l5), (7, .int (l7 * 10))]) rfl ?_
      exact ih (l7 * 10) u hf hk0
def lL_isOld_50 (N : Nat) (v : VS) (gl : (Nat → Int32)) (l2 : Int32) (l3 : Int32) (l4 : Int32) (l5 : Int32) (l7 : Int32) : Nat → Int32 → Int32 → Option ((Int32))
  | 0, _, _ => none
  | n + 1, l8, l9 => (if l9 < (0 : Int32) then some l8 else (((if ((l2 >>> (l9 &&& 31)) &&& 1) = (1 : Int32) then (if ((l4 >>> (l9 &&& 31)) &&& 1) = (0 : Int32) then ck l9 10 ((if l5 < (gl (Int32.toNatClampNeg l9)) then some 0 else ck l9 10 (cz l7 (ck l9 10 ((if (((l5 - (gl (Int32.toNatClampNeg l9))) / l7) * l7) = (l5 - (gl (Int32.toNatClampNeg l9))) then ck l9 10 (cz l7 ((if (((l5 - (gl (Int32.toNatClampNeg l9))) / l7) - ((l5 - (gl (Int32.toNatClampNeg l9))) / l7) / 10 * 10) = (0 : Int32) then some 1 else some 0))) else some 0)))))) else some 0) else some 0) : Option (Int32)).bind fun r1 => (if r1 = (0 : Int32) then (lL_isOld_50 N v gl l2 l3 l4 l5 l7 n l8 (l9 + (-1))) else (if l8 = ((-1) : Int32) then (lL_isOld_50 N v gl l2 l3 l4 l5 l7 n l9 (l9 + (-1))) else ck l9 10 (ck l8 10 ((if (gl (Int32.toNatClampNeg l9)) < (gl (Int32.toNatClampNeg l8)) then (lL_isOld_50 N v gl l2 l3 l4 l5 l7 n l8 (l9 + (-1))) else (lL_isOld_50 N v gl l2 l3 l4 l5 l7 n l9 (l9 + (-1))))))))))
set_option maxRecDepth 100000 in
set_option maxHeartbeats 4000000 in
theorem wlL_isOld_50 {k : Kt} (C : gC k cL_isOld 11 RL wsL_isOld rmL_isOld "isOld") (N : Nat) (rG : Nat) (rV : Nat) (rN : Nat) (rT : Nat) (aS : Nat → Nat) (ql : Nat) (v : VS) (gl : (Nat → Int32)) (l2 : Int32) (l3 : Int32) (l4 : Int32) (l5 : Int32) (l7 : Int32) : ∀ (n : Nat) (l8 : Int32) (l9 : Int32) (u : (Int32)) (hf : lL_isOld_50 N v gl l2 l3 l4 l5 l7 n l8 l9 = some u) (hk0 : gG k (wG (kD k) rG (aS 0) rV rN rT ++ (wS (kD k) aS v ++ (wA10 (kD k) ql gl))) [(0, .ref rG), (1, .ref ql), (2, .int l2), (3, .int l3), (4, .int l4), (5, .int l5), (8, .int u)] 0 0 167 []), gG k (wG (kD k) rG (aS 0) rV rN rT ++ (wS (kD k) aS v ++ (wA10 (kD k) ql gl))) [(0, .ref rG), (1, .ref ql), (2, .int l2), (3, .int l3), (4, .int l4), (5, .int l5), (7, .int l7), (8, .int l8), (9, .int l9)] 0 0 50 [] := by
  intro n
  induction n with
  | zero => intro l8 l9 u hf hk0; rw [lL_isOld_50] at hf; cases hf
  | succ n ih =>
    intro l8 l9 u hf hk0
    rw [lL_isOld_50] at hf
    refine g_iload (pc := 50) (x := l9) C dL_isOld_50 rfl ?_
    refine g_if_lt (pc := 52) (tgt := 167) (x := l9) hf C dL_isOld_52 (by decide) (fun hf => ?_) (fun hf => ?_)
    · obtain rfl := Option.some.inj hf
      refine g_lv [0, 1, 2, 3, 4, 5, 7] (lv' := [(0, .ref rG), (1, .ref ql), (2, .int l2), (3, .int l3), (4, .int l4), (5, .int l5), (8, .int l8)]) rfl ?_
      exact hk0
    · refine g_iload_n (pc := 55) (x := l2) C dL_isOld_55 rfl ?_
      refine g_iload (pc := 56) (x := l9) C dL_isOld_56 rfl ?_
      refine g_ishr (pc := 58) (x := l2) (y := l9) C dL_isOld_58 ?_
      refine g_iconst (pc := 59) (v := 1) C dL_isOld_59 (by decide) ?_
      refine g_iand (pc := 60) (x := (l2 >>> (l9 &&& 31))) (y := 1) C dL_isOld_60 ?_
      refine g_iconst (pc := 61) (v := 1) C dL_isOld_61 (by decide) ?_
      refine g_join (Q := fun (u : Int32) => gG k (wG (kD k) rG (aS 0) rV rN rT  ++ (wS (kD k) aS v ++ (wA10 (kD k) ql gl))) [(0, .ref rG), (1, .ref ql), (2, .int l2), (3, .int l3), (4, .int l4), (5, .int l5), (7, .int l7), (8, .int l8), (9, .int l9)] 0 0 128 [.int u]) hf (fun r1 hf => ?_) (fun r1 hf K1 => ?_)
      · refine g_istore (pc := 128) (lv' := [(10, .int r1), (0, .ref rG), (1, .ref ql), (2, .int l2), (3, .int l3), (4, .int l4), (5, .int l5), (7, .int l7), (8, .int l8), (9, .int l9)]) C dL_isOld_128 (by decide) rfl ?_
        refine g_iload (pc := 130) (x := r1) C dL_isOld_130 rfl ?_
        refine g_if_eq (pc := 132) (tgt := 157) (x := r1) hf C dL_isOld_132 (by decide) (fun hf => ?_) (fun hf => ?_)
        · refine g_iload (pc := 157) (x := l8) C dL_isOld_157 rfl ?_
          refine g_istore (pc := 159) (lv' := [(8, .int l8), (10, .int r1), (0, .ref rG), (1, .ref ql), (2, .int l2), (3, .int l3), (4, .int l4), (5, .int l5), (7, .int l7), (9, .int l9)]) C dL_isOld_159 (by decide) rfl ?_
          refine g_iinc (pc := 161) (x := l9) (v := (l9 + (-1))) (lv' := [(9, .int (l9 + (-1))), (8, .int l8), (10, .int r1), (0, .ref rG), (1, .ref ql), (2, .int l2), (3, .int l3), (4, .int l4), (5, .int l5), (7, .int l7)]) C dL_isOld_161 rfl rfl (by decide) rfl ?_
          refine g_goto (pc := 164) (tgt := 50) C dL_isOld_164 (by decide) ?_
          refine g_lv [3, 4, 5, 6, 7, 8, 9, 1, 0] (lv' := [(0, .ref rG), (1, .ref ql), (2, .int l2), (3, .int l3), (4, .int l4), (5, .int l5), (7, .int l7), (8, .int l8), (9, .int (l9 + (-1)))]) rfl ?_
          exact ih l8 (l9 + (-1)) u hf hk0
        · refine g_iload (pc := 135) (x := l8) C dL_isOld_135 rfl ?_
          refine g_iconst (pc := 137) (v := (-1)) C dL_isOld_137 (by decide) ?_
          refine g_icmp_eq (pc := 138) (tgt := 152) (x := l8) (y := (-1)) hf C dL_isOld_138 (by decide) (fun hf => ?_) (fun hf => ?_)
          · refine g_iload (pc := 152) (x := l9) C dL_isOld_152 rfl ?_
            refine g_goto (pc := 154) (tgt := 159) C dL_isOld_154 (by decide) ?_
            refine g_istore (pc := 159) (lv' := [(8, .int l9), (10, .int r1), (0, .ref rG), (1, .ref ql), (2, .int l2), (3, .int l3), (4, .int l4), (5, .int l5), (7, .int l7), (9, .int l9)]) C dL_isOld_159 (by decide) rfl ?_
            refine g_iinc (pc := 161) (x := l9) (v := (l9 + (-1))) (lv' := [(9, .int (l9 + (-1))), (8, .int l9), (10, .int r1), (0, .ref rG), (1, .ref ql), (2, .int l2), (3, .int l3), (4, .int l4), (5, .int l5), (7, .int l7)]) C dL_isOld_161 rfl rfl (by decide) rfl ?_
            refine g_goto (pc := 164) (tgt := 50) C dL_isOld_164 (by decide) ?_
            refine g_lv [3, 4, 5, 6, 7, 8, 9, 1, 0] (lv' := [(0, .ref rG), (1, .ref ql), (2, .int l2), (3, .int l3), (4, .int l4), (5, .int l5), (7, .int l7), (8, .int l9), (9, .int (l9 + (-1)))]) rfl ?_
            exact ih l9 (l9 + (-1)) u hf hk0
          · refine g_aload_n (pc := 141) (x := ql) C dL_isOld_141 rfl ?_
            refine g_iload (pc := 142) (x := l9) C dL_isOld_142 rfl ?_
            refine g_iald (pc := 144) (i := l9) hf C 10 rfl dL_isOld_144 (fun hf => ?_)
            refine g_aload_n (pc := 145) (x := ql) C dL_isOld_145 rfl ?_
            refine g_iload (pc := 146) (x := l8) C dL_isOld_146 rfl ?_
            refine g_iald (pc := 148) (i := l8) hf C 10 rfl dL_isOld_148 (fun hf => ?_)
            refine g_icmp_lt (pc := 149) (tgt := 157) (x := (gl (Int32.toNatClampNeg l9))) (y := (gl (Int32.toNatClampNeg l8))) hf C dL_isOld_149 (by decide) (fun hf => ?_) (fun hf => ?_)
            · refine g_iload (pc := 157) (x := l8) C dL_isOld_157 rfl ?_
              refine g_istore (pc := 159) (lv' := [(8, .int l8), (10, .int r1), (0, .ref rG), (1, .ref ql), (2, .int l2), (3, .int l3), (4, .int l4), (5, .int l5), (7, .int l7), (9, .int l9)]) C dL_isOld_159 (by decide) rfl ?_
              refine g_iinc (pc := 161) (x := l9) (v := (l9 + (-1))) (lv' := [(9, .int (l9 + (-1))), (8, .int l8), (10, .int r1), (0, .ref rG), (1, .ref ql), (2, .int l2), (3, .int l3), (4, .int l4), (5, .int l5), (7, .int l7)]) C dL_isOld_161 rfl rfl (by decide) rfl ?_
              refine g_goto (pc := 164) (tgt := 50) C dL_isOld_164 (by decide) ?_
              refine g_lv [3, 4, 5, 6, 7, 8, 9, 1, 0] (lv' := [(0, .ref rG), (1, .ref ql), (2, .int l2), (3, .int l3), (4, .int l4), (5, .int l5), (7, .int l7), (8, .int l8), (9, .int (l9 + (-1)))]) rfl ?_
              exact ih l8 (l9 + (-1)) u hf hk0
            · refine g_iload (pc := 152) (x := l9) C dL_isOld_152 rfl ?_
              refine g_goto (pc := 154) (tgt := 159) C dL_isOld_154 (by decide) ?_
              refine g_istore (pc := 159) (lv' := [(8, .int l9), (10, .int r1), (0, .ref rG), (1, .ref ql), (2, .int l2), (3, .int l3), (4, .int l4), (5, .int l5), (7, .int l7), (9, .int l9)]) C dL_isOld_159 (by decide) rfl ?_
              refine g_iinc (pc := 161) (x := l9) (v := (l9 + (-1))) (lv' := [(9, .int (l9 + (-1))), (8, .int l9), (10, .int r1), (0, .ref rG), (1, .ref ql), (2, .int l2), (3, .int l3), (4, .int l4), (5, .int l5), (7, .int l7)]) C dL_isOld_161 rfl rfl (by decide) rfl ?_
              refine g_goto (pc := 164) (tgt := 50) C dL_isOld_164 (by decide) ?_
              refine g_lv [3, 4, 5, 6, 7, 8, 9, 1, 0] (lv' := [(0, .ref rG), (1, .ref ql), (2, .int l2), (3, .int l3), (4, .int l4), (5, .int l5), (7, .int l7), (8, .int l9), (9, .int (l9 + (-1)))]) rfl ?_
              exact ih l9 (l9 + (-1)) u hf hk0
      · refine g_icmp_ne (pc := 62) (tgt := 127) (x := ((l2 >>> (l9 &&& 31)) &&& 1)) (y := 1) hf C dL_isOld_62 (by decide) (fun hf => ?_) (fun hf => ?_)
        · refine g_iconst (pc := 127) (v := 0) C dL_isOld_127 (by decide) ?_
          obtain rfl := Option.some.inj hf
          exact K1
        · refine g_iload (pc := 65) (x := l4) C dL_isOld_65 rfl ?_
          refine g_iload (pc := 67) (x := l9) C dL_isOld_67 rfl ?_
          refine g_ishr (pc := 69) (x := l4) (y := l9) C dL_isOld_69 ?_
          refine g_iconst (pc := 70) (v := 1) C dL_isOld_70 (by decide) ?_
          refine g_iand (pc := 71) (x := (l4 >>> (l9 &&& 31))) (y := 1) C dL_isOld_71 ?_
          refine g_if_ne (pc := 72) (tgt := 127) (x := ((l4 >>> (l9 &&& 31)) &&& 1)) hf C dL_isOld_72 (by decide) (fun hf => ?_) (fun hf => ?_)
          · refine g_iconst (pc := 127) (v := 0) C dL_isOld_127 (by decide) ?_
            obtain rfl := Option.some.inj hf
            exact K1
          · refine g_aload_n (pc := 75) (x := ql) C dL_isOld_75 rfl ?_
            refine g_iload (pc := 76) (x := l9) C dL_isOld_76 rfl ?_
            refine g_iald (pc := 78) (i := l9) hf C 10 rfl dL_isOld_78 (fun hf => ?_)
            refine g_iload (pc := 79) (x := l5) C dL_isOld_79 rfl ?_
            refine g_icmp_gt (pc := 81) (tgt := 127) (x := (gl (Int32.toNatClampNeg l9))) (y := l5) hf C dL_isOld_81 (by decide) (fun hf => ?_) (fun hf => ?_)
            · refine g_iconst (pc := 127) (v := 0) C dL_isOld_127 (by decide) ?_
              obtain rfl := Option.some.inj hf
              exact K1
            · refine g_iload (pc := 84) (x := l5) C dL_isOld_84 rfl ?_
              refine g_aload_n (pc := 86) (x := ql) C dL_isOld_86 rfl ?_
              refine g_iload (pc := 87) (x := l9) C dL_isOld_87 rfl ?_
              refine g_iald (pc := 89) (i := l9) hf C 10 rfl dL_isOld_89 (fun hf => ?_)
              refine g_isub (pc := 90) (x := l5) (y := (gl (Int32.toNatClampNeg l9))) C dL_isOld_90 ?_
              refine g_iload (pc := 91) (x := l7) C dL_isOld_91 rfl ?_
              refine g_idivz (pc := 93) (x := (l5 - (gl (Int32.toNatClampNeg l9)))) (y := l7) hf C dL_isOld_93 (fun hf => ?_)
              refine g_iload (pc := 94) (x := l7) C dL_isOld_94 rfl ?_
              refine g_imul (pc := 96) (x := ((l5 - (gl (Int32.toNatClampNeg l9))) / l7)) (y := l7) C dL_isOld_96 ?_
              refine g_iload (pc := 97) (x := l5) C dL_isOld_97 rfl ?_
              refine g_aload_n (pc := 99) (x := ql) C dL_isOld_99 rfl ?_
              refine g_iload (pc := 100) (x := l9) C dL_isOld_100 rfl ?_
              refine g_iald (pc := 102) (i := l9) hf C 10 rfl dL_isOld_102 (fun hf => ?_)
              refine g_isub (pc := 103) (x := l5) (y := (gl (Int32.toNatClampNeg l9))) C dL_isOld_103 ?_
              refine g_icmp_ne (pc := 104) (tgt := 127) (x := (((l5 - (gl (Int32.toNatClampNeg l9))) / l7) * l7)) (y := (l5 - (gl (Int32.toNatClampNeg l9)))) hf C dL_isOld_104 (by decide) (fun hf => ?_) (fun hf => ?_)
              · refine g_iconst (pc := 127) (v := 0) C dL_isOld_127 (by decide) ?_
                obtain rfl := Option.some.inj hf
                exact K1
              · refine g_iload (pc := 107) (x := l5) C dL_isOld_107 rfl ?_
                refine g_aload_n (pc := 109) (x := ql) C dL_isOld_109 rfl ?_
                refine g_iload (pc := 110) (x := l9) C dL_isOld_110 rfl ?_
                refine g_iald (pc := 112) (i := l9) hf C 10 rfl dL_isOld_112 (fun hf => ?_)
                refine g_isub (pc := 113) (x := l5) (y := (gl (Int32.toNatClampNeg l9))) C dL_isOld_113 ?_
                refine g_iload (pc := 114) (x := l7) C dL_isOld_114 rfl ?_
                refine g_idivz (pc := 116) (x := (l5 - (gl (Int32.toNatClampNeg l9)))) (y := l7) hf C dL_isOld_116 (fun hf => ?_)
                refine g_bipush (pc := 117) (v := 10) C dL_isOld_117 (by decide) ?_
                refine g_irem (pc := 119) (x := ((l5 - (gl (Int32.toNatClampNeg l9))) / l7)) (y := 10) C dL_isOld_119 (by decide) ?_
                refine g_if_ne (pc := 120) (tgt := 127) (x := (((l5 - (gl (Int32.toNatClampNeg l9))) / l7) - ((l5 - (gl (Int32.toNatClampNeg l9))) / l7) / 10 * 10)) hf C dL_isOld_120 (by decide) (fun hf => ?_) (fun hf => ?_)
                · refine g_iconst (pc := 127) (v := 0) C dL_isOld_127 (by decide) ?_
                  obtain rfl := Option.some.inj hf
                  exact K1
                · refine g_iconst (pc := 123) (v := 1) C dL_isOld_123 (by decide) ?_
                  refine g_goto (pc := 124) (tgt := 128) C dL_isOld_124 (by decide) ?_
                  obtain rfl := Option.some.inj hf
                  exact K1
def lL_isOld_9 (N : Nat) (v : VS) (gl : (Nat → Int32)) (l2 : Int32) (l3 : Int32) : Nat → Int32 → Int32 → Int32 → Option ((Int32 × Int32 × Int32))
  | 0, _, _, _ => none
  | n + 1, l4, l5, l6 => (if l5 ≤ (0 : Int32) then some (l4, l5, l6) else (if l6 = (0 : Int32) then ((lL_isOld_22 N v gl l2 l3 l4 l5 N 1).bind fun r1 => ((lL_isOld_50 N v gl l2 l3 l4 l5 r1 N (-1) 9).bind fun r2 => (((if r2 = ((-1) : Int32) then some 1 else ((fL_ones N l4).bind fun r4 => (if r4 = (6 : Int32) then some 1 else some 0))) : Option (Int32)).bind fun r3 => (((if r3 = (0 : Int32) then some ((1 : Int32) <<< (r2 &&& 31)) else some 0) : Option (Int32)).bind fun r5 => (if r3 = (0 : Int32) then ck r2 10 ((lL_isOld_9 N v gl l2 l3 n (l4 ||| r5) (l5 - (gl (Int32.toNatClampNeg r2))) r3)) else (lL_isOld_9 N v gl l2 l3 n (l4 ||| r5) (l5 - 0) r3)))))) else some (l4, l5, l6)))
set_option maxRecDepth 100000 in
set_option maxHeartbeats 4000000 in
theorem wlL_isOld_9 {k : Kt} (C : gC k cL_isOld 11 RL wsL_isOld rmL_isOld "isOld") (N : Nat) (rG : Nat) (rV : Nat) (rN : Nat) (rT : Nat) (aS : Nat → Nat) (ql : Nat) (v : VS) (gl : (Nat → Int32)) (l2 : Int32) (l3 : Int32) : ∀ (n : Nat) (l4 : Int32) (l5 : Int32) (l6 : Int32) (u : (Int32 × Int32 × Int32)) (hf : lL_isOld_9 N v gl l2 l3 n l4 l5 l6 = some u) (hk0 : gG k (wG (kD k) rG (aS 0) rV rN rT ++ (wS (kD k) aS v ++ (wA10 (kD k) ql gl))) [(0, .ref rG), (3, .int l3), (4, .int u.1), (5, .int u.2.1), (6, .int u.2.2)] 0 0 229 []), gG k (wG (kD k) rG (aS 0) rV rN rT ++ (wS (kD k) aS v ++ (wA10 (kD k) ql gl))) [(0, .ref rG), (1, .ref ql), (2, .int l2), (3, .int l3), (4, .int l4), (5, .int l5), (6, .int l6)] 0 0 9 [] := by
  intro n
  induction n with
  | zero => intro l4 l5 l6 u hf hk0; rw [lL_isOld_9] at hf; cases hf
  | succ n ih =>
    intro l4 l5 l6 u hf hk0
    rw [lL_isOld_9] at hf
    refine g_iload (pc := 9) (x := l5) C dL_isOld_9 rfl ?_
    refine g_if_le (pc := 11) (tgt := 229) (x := l5) hf C dL_isOld_11 (by decide) (fun hf => ?_) (fun hf => ?_)
    · obtain rfl := Option.some.inj hf
      refine g_lv [0, 3, 4, 5, 6] (lv' := [(0, .ref rG), (3, .int l3), (4, .int l4), (5, .int l5), (6, .int l6)]) rfl ?_
      exact hk0
    · refine g_iload (pc := 14) (x := l6) C dL_isOld_14 rfl ?_
      refine g_if_ne (pc := 16) (tgt := 229) (x := l6) hf C dL_isOld_16 (by decide) (fun hf => ?_) (fun hf => ?_)
      · obtain rfl := Option.some.inj hf
        refine g_lv [0, 3, 4, 5, 6] (lv' := [(0, .ref rG), (3, .int l3), (4, .int l4), (5, .int l5), (6, .int l6)]) rfl ?_
        exact hk0
      · refine g_iconst (pc := 19) (v := 1) C dL_isOld_19 (by decide) ?_
        refine g_istore (pc := 20) (lv' := [(7, .int 1), (0, .ref rG), (1, .ref ql), (2, .int l2), (3, .int l3), (4, .int l4), (5, .int l5), (6, .int l6)]) C dL_isOld_20 (by decide) rfl ?_
        obtain ⟨r1, h1, hf⟩ := bd_e hf
        refine g_lv [1, 2, 3, 4, 5, 6, 0] (lv' := [(0, .ref rG), (1, .ref ql), (2, .int l2), (3, .int l3), (4, .int l4), (5, .int l5), (7, .int 1)]) rfl ?_
        refine wlL_isOld_22 C N rG rV rN rT aS ql v gl l2 l3 l4 l5 N 1 r1 h1 ?_
        refine g_iconst (pc := 43) (v := (-1)) C dL_isOld_43 (by decide) ?_
        refine g_istore (pc := 44) (lv' := [(8, .int (-1)), (0, .ref rG), (1, .ref ql), (2, .int l2), (3, .int l3), (4, .int l4), (5, .int l5), (7, .int r1)]) C dL_isOld_44 (by decide) rfl ?_
        refine g_bipush (pc := 46) (v := 9) C dL_isOld_46 (by decide) ?_
        refine g_istore (pc := 48) (lv' := [(9, .int 9), (8, .int (-1)), (0, .ref rG), (1, .ref ql), (2, .int l2), (3, .int l3), (4, .int l4), (5, .int l5), (7, .int r1)]) C dL_isOld_48 (by decide) rfl ?_
        obtain ⟨r2, h2, hf⟩ := bd_e hf
        refine g_lv [2, 3, 4, 5, 6, 7, 8, 1, 0] (lv' := [(0, .ref rG), (1, .ref ql), (2, .int l2), (3, .int l3), (4, .int l4), (5, .int l5), (7, .int r1), (8, .int (-1)), (9, .int 9)]) rfl ?_
        refine wlL_isOld_50 C N rG rV rN rT aS ql v gl l2 l3 l4 l5 r1 N (-1) 9 r2 h2 ?_
        refine g_iload (pc := 167) (x := r2) C dL_isOld_167 rfl ?_
        refine g_iconst (pc := 169) (v := (-1)) C dL_isOld_169 (by decide) ?_
        refine g_join (Q := fun (u : Int32) => gG k (wG (kD k) rG (aS 0) rV rN rT  ++ (wS (kD k) aS v ++ (wA10 (kD k) ql gl))) [(0, .ref rG), (1, .ref ql), (2, .int l2), (3, .int l3), (4, .int l4), (5, .int l5), (8, .int r2)] 0 0 188 [.int u]) hf (fun r3 hf => ?_) (fun r3 hf K3 => ?_)
        · refine g_istore (pc := 188) (lv' := [(6, .int r3), (0, .ref rG), (1, .ref ql), (2, .int l2), (3, .int l3), (4, .int l4), (5, .int l5), (8, .int r2)]) C dL_isOld_188 (by decide) rfl ?_
          refine g_iload (pc := 190) (x := l4) C dL_isOld_190 rfl ?_
          refine g_iload (pc := 192) (x := r3) C dL_isOld_192 rfl ?_
          refine g_join (Q := fun (u : Int32) => gG k (wG (kD k) rG (aS 0) rV rN rT  ++ (wS (kD k) aS v ++ (wA10 (kD k) ql gl))) [(0, .ref rG), (1, .ref ql), (2, .int l2), (3, .int l3), (5, .int l5), (6, .int r3), (8, .int r2)] 0 0 205 [.int u, .int l4]) hf (fun r5 hf => ?_) (fun r5 hf K5 => ?_)
          · refine g_ior (pc := 205) (x := l4) (y := r5) C dL_isOld_205 ?_
            refine g_istore (pc := 206) (lv' := [(4, .int (l4 ||| r5)), (0, .ref rG), (1, .ref ql), (2, .int l2), (3, .int l3), (5, .int l5), (6, .int r3), (8, .int r2)]) C dL_isOld_206 (by decide) rfl ?_
            refine g_iload (pc := 208) (x := l5) C dL_isOld_208 rfl ?_
            refine g_iload (pc := 210) (x := r3) C dL_isOld_210 rfl ?_
            refine g_if_eq (pc := 212) (tgt := 219) (x := r3) hf C dL_isOld_212 (by decide) (fun hf => ?_) (fun hf => ?_)
            · refine g_aload_n (pc := 219) (x := ql) C dL_isOld_219 rfl ?_
              refine g_iload (pc := 220) (x := r2) C dL_isOld_220 rfl ?_
              refine g_iald (pc := 222) (i := r2) hf C 10 rfl dL_isOld_222 (fun hf => ?_)
              refine g_isub (pc := 223) (x := l5) (y := (gl (Int32.toNatClampNeg r2))) C dL_isOld_223 ?_
              refine g_istore (pc := 224) (lv' := [(5, .int (l5 - (gl (Int32.toNatClampNeg r2)))), (4, .int (l4 ||| r5)), (0, .ref rG), (1, .ref ql), (2, .int l2), (3, .int l3), (6, .int r3), (8, .int r2)]) C dL_isOld_224 (by decide) rfl ?_
              refine g_goto (pc := 226) (tgt := 9) C dL_isOld_226 (by decide) ?_
              refine g_lv [2, 3, 4, 5, 1, 0, 6] (lv' := [(0, .ref rG), (1, .ref ql), (2, .int l2), (3, .int l3), (4, .int (l4 ||| r5)), (5, .int (l5 - (gl (Int32.toNatClampNeg r2)))), (6, .int r3)]) rfl ?_
              exact ih (l4 ||| r5) (l5 - (gl (Int32.toNatClampNeg r2))) r3 u hf hk0
            · refine g_iconst (pc := 215) (v := 0) C dL_isOld_215 (by decide) ?_
              refine g_goto (pc := 216) (tgt := 223) C dL_isOld_216 (by decide) ?_
              refine g_isub (pc := 223) (x := l5) (y := 0) C dL_isOld_223 ?_
              refine g_istore (pc := 224) (lv' := [(5, .int (l5 - 0)), (4, .int (l4 ||| r5)), (0, .ref rG), (1, .ref ql), (2, .int l2), (3, .int l3), (6, .int r3), (8, .int r2)]) C dL_isOld_224 (by decide) rfl ?_
              refine g_goto (pc := 226) (tgt := 9) C dL_isOld_226 (by decide) ?_
              refine g_lv [2, 3, 4, 5, 1, 0, 6] (lv' := [(0, .ref rG), (1, .ref ql), (2, .int l2), (3, .int l3), (4, .int (l4 ||| r5)), (5, .int (l5 - 0)), (6, .int r3)]) rfl ?_
              exact ih (l4 ||| r5) (l5 - 0) r3 u hf hk0
          · refine g_if_eq (pc := 194) (tgt := 201) (x := r3) hf C dL_isOld_194 (by decide) (fun hf => ?_) (fun hf => ?_)
            · refine g_iconst (pc := 201) (v := 1) C dL_isOld_201 (by decide) ?_
              refine g_iload (pc := 202) (x := r2) C dL_isOld_202 rfl ?_
              refine g_ishl (pc := 204) (x := (1 : Int32)) (y := r2) C dL_isOld_204 ?_
              obtain rfl := Option.some.inj hf
              refine g_lv [1, 2, 3, 4, 6, 0, 7] (lv' := [(0, .ref rG), (1, .ref ql), (2, .int l2), (3, .int l3), (5, .int l5), (6, .int r3), (8, .int r2)]) rfl ?_
              exact K5
            · refine g_iconst (pc := 197) (v := 0) C dL_isOld_197 (by decide) ?_
              refine g_goto (pc := 198) (tgt := 205) C dL_isOld_198 (by decide) ?_
              obtain rfl := Option.some.inj hf
              refine g_lv [1, 2, 3, 4, 6, 0, 7] (lv' := [(0, .ref rG), (1, .ref ql), (2, .int l2), (3, .int l3), (5, .int l5), (6, .int r3), (8, .int r2)]) rfl ?_
              exact K5
        · refine g_icmp_eq (pc := 170) (tgt := 183) (x := r2) (y := (-1)) hf C dL_isOld_170 (by decide) (fun hf => ?_) (fun hf => ?_)
          · refine g_iconst (pc := 183) (v := 1) C dL_isOld_183 (by decide) ?_
            refine g_goto (pc := 184) (tgt := 188) C dL_isOld_184 (by decide) ?_
            obtain rfl := Option.some.inj hf
            exact K3
          · refine g_iload (pc := 173) (x := l4) C dL_isOld_173 rfl ?_
            refine g_callR (pc' := 178) (cs' := 0) (sl' := 0) hf C (fun u => some (.int u)) (fun u hu => gr_S (rest := []) C (cL_ones_ (kL k) C.tr (kD k) N l4 u hu) (fun ht => va_cwS 1 ht gL_isOld_L_ones rfl rfl rfl hsL_ones ⟨(Nat.le_of_ble_eq_true rfl), (Nat.le_of_ble_eq_true rfl)⟩) [] rfl (by decide) rfl rfl (Nat.le_of_ble_eq_true rfl) dL_isOld_175 ⟨(Nat.le_of_ble_eq_true rfl), (Nat.le_of_ble_eq_true rfl)⟩) [] rfl rfl rfl rfl (fun u => [.int u]) (fun u => rfl) (fun r4 hf => ?_)
            refine g_bipush (pc := 178) (v := 6) C dL_isOld_178 (by decide) ?_
            refine g_icmp_ne (pc := 180) (tgt := 187) (x := r4) (y := 6) hf C dL_isOld_180 (by decide) (fun hf => ?_) (fun hf => ?_)
            · refine g_iconst (pc := 187) (v := 0) C dL_isOld_187 (by decide) ?_
              obtain rfl := Option.some.inj hf
              exact K3
            · refine g_iconst (pc := 183) (v := 1) C dL_isOld_183 (by decide) ?_
              refine g_goto (pc := 184) (tgt := 188) C dL_isOld_184 (by decide) ?_
              obtain rfl := Option.some.inj hf
              exact K3
def fL_isOld (N : Nat) (v : VS) (gl : (Nat → Int32)) (p2 : Int32) (p3 : Int32) : Option (Bool) := ((lL_isOld_9 N v gl p2 p3 N 0 p3 0).bind fun r1 => ((fX4_oldWay N v p3 0).bind fun r2 => (((if r1.2.2 = (0 : Int32) then ((fL_ones N r1.1).bind fun r4 => some r4) else some (-1)) : Option (Int32)).bind fun r3 => (if r2 = r3 then ((fX4_oldWay N v p3 1).bind fun r5 => (((if r1.2.2 = (0 : Int32) then some r1.1 else some (-1)) : Option (Int32)).bind fun r6 => (if r5 = r6 then ((fX4_oldWay N v p3 2).bind fun r7 => (if r7 = r1.2.1 then some true else none)) else none))) else none))))
set_option maxRecDepth 100000 in
set_option maxHeartbeats 4000000 in
theorem wkL_isOld {k : Kt} (C : gC k cL_isOld 11 RL wsL_isOld rmL_isOld "isOld") (N : Nat) (rG : Nat) (rV : Nat) (rN : Nat) (rT : Nat) (aS : Nat → Nat) (ql : Nat) (v : VS) (gl : (Nat → Int32)) (p2 : Int32) (p3 : Int32) (r : Bool) (hf : fL_isOld N v gl p2 p3 = some r) (E : gE k (wG (kD k) rG (aS 0) rV rN rT ++ (wS (kD k) aS v ++ (wA10 (kD k) ql gl))) (fun rv w => rv = some (.int (b2i r)) ∧ w = (wG (kD k) rG (aS 0) rV rN rT ++ (wS (kD k) aS v ++ (wA10 (kD k) ql gl)))) (fun _ _ => False) 0 0 (some .boolean) []) : gG k (wG (kD k) rG (aS 0) rV rN rT ++ (wS (kD k) aS v ++ (wA10 (kD k) ql gl))) [(0, .ref rG), (1, .ref ql), (2, .int p2), (3, .int p3)] 0 0 0 [] := by
  unfold fL_isOld at hf
  refine g_iconst (pc := 0) (v := 0) C dL_isOld_0 (by decide) ?_
  refine g_istore (pc := 1) (lv' := [(4, .int 0), (0, .ref rG), (1, .ref ql), (2, .int p2), (3, .int p3)]) C dL_isOld_1 (by decide) rfl ?_
  refine g_iload_n (pc := 3) (x := p3) C dL_isOld_3 rfl ?_
  refine g_istore (pc := 4) (lv' := [(5, .int p3), (4, .int 0), (0, .ref rG), (1, .ref ql), (2, .int p2), (3, .int p3)]) C dL_isOld_4 (by decide) rfl ?_
  refine g_iconst (pc := 6) (v := 0) C dL_isOld_6 (by decide) ?_
  refine g_istore (pc := 7) (lv' := [(6, .int 0), (5, .int p3), (4, .int 0), (0, .ref rG), (1, .ref ql), (2, .int p2), (3, .int p3)]) C dL_isOld_7 (by decide) rfl ?_
  obtain ⟨r1, h1, hf⟩ := bd_e hf
  refine g_lv [3, 4, 5, 6, 2, 1, 0] (lv' := [(0, .ref rG), (1, .ref ql), (2, .int p2), (3, .int p3), (4, .int 0), (5, .int p3), (6, .int 0)]) rfl ?_
  refine wlL_isOld_9 C N rG rV rN rT aS ql v gl p2 p3 N 0 p3 0 r1 h1 ?_
  refine g_aload_n (pc := 229) (x := rG) C dL_isOld_229 rfl ?_
  refine g_iload_n (pc := 230) (x := p3) C dL_isOld_230 rfl ?_
  refine g_iconst (pc := 231) (v := 0) C dL_isOld_231 (by decide) ?_
  refine g_callWA (wr := wA10 (kD k) ql gl) (pc' := 235) (cs' := 0) (sl' := 0) hf C (fun u => some (.int u)) (fun u => (wG (kD k) rG (aS 0) rV rN rT ++ (wS (kD k) aS v))) ((List.Perm.refl _).trans as2) (fun u hu => gr_V (rest := []) C (cX4_oldWay_ (kL k) C.tr (kD k) N rG rV rN rT aS v p3 0 u hu) (fun ht => cwV 2 ht gL_isOld_X4_oldWay rfl rfl rfl hdX4_oldWay ⟨(Nat.le_of_ble_eq_true rfl), (Nat.le_of_ble_eq_true rfl)⟩) 0 rfl rfl _ (rg_map _ _) (rg_nd _) rfl rfl (Nat.le_of_ble_eq_true rfl) dL_isOld_232 ⟨(Nat.le_of_ble_eq_true rfl), (Nat.le_of_ble_eq_true rfl)⟩) (ws' := fun u => (wG (kD k) rG (aS 0) rV rN rT  ++ (wS (kD k) aS v ++ (wA10 (kD k) ql gl)))) (fun u => (as2.symm.trans (List.Perm.refl _))) rfl rfl rfl (fun u => [.int u]) (fun u => rfl) (fun r2 hf => ?_)
  refine g_iload (pc := 235) (x := r1.2.2) C dL_isOld_235 rfl ?_
  refine g_join (Q := fun (u : Int32) => gG k (wG (kD k) rG (aS 0) rV rN rT  ++ (wS (kD k) aS v ++ (wA10 (kD k) ql gl))) [(0, .ref rG), (3, .int p3), (4, .int r1.1), (5, .int r1.2.1), (6, .int r1.2.2)] 0 0 249 [.int u, .int r2]) hf (fun r3 hf => ?_) (fun r3 hf K3 => ?_)
  · refine g_icmp_ne (pc := 249) (tgt := 287) (x := r2) (y := r3) hf C dL_isOld_249 (by decide) (fun hf => ?_) (fun hf => ?_)
    · cases hf
    · refine g_aload_n (pc := 252) (x := rG) C dL_isOld_252 rfl ?_
      refine g_iload_n (pc := 253) (x := p3) C dL_isOld_253 rfl ?_
      refine g_iconst (pc := 254) (v := 1) C dL_isOld_254 (by decide) ?_
      refine g_callWA (wr := wA10 (kD k) ql gl) (pc' := 258) (cs' := 0) (sl' := 0) hf C (fun u => some (.int u)) (fun u => (wG (kD k) rG (aS 0) rV rN rT ++ (wS (kD k) aS v))) ((List.Perm.refl _).trans as2) (fun u hu => gr_V (rest := []) C (cX4_oldWay_ (kL k) C.tr (kD k) N rG rV rN rT aS v p3 1 u hu) (fun ht => cwV 2 ht gL_isOld_X4_oldWay rfl rfl rfl hdX4_oldWay ⟨(Nat.le_of_ble_eq_true rfl), (Nat.le_of_ble_eq_true rfl)⟩) 0 rfl rfl _ (rg_map _ _) (rg_nd _) rfl rfl (Nat.le_of_ble_eq_true rfl) dL_isOld_255 ⟨(Nat.le_of_ble_eq_true rfl), (Nat.le_of_ble_eq_true rfl)⟩) (ws' := fun u => (wG (kD k) rG (aS 0) rV rN rT  ++ (wS (kD k) aS v ++ (wA10 (kD k) ql gl)))) (fun u => (as2.symm.trans (List.Perm.refl _))) rfl rfl rfl (fun u => [.int u]) (fun u => rfl) (fun r5 hf => ?_)
      refine g_iload (pc := 258) (x := r1.2.2) C dL_isOld_258 rfl ?_
      refine g_join (Q := fun (u : Int32) => gG k (wG (kD k) rG (aS 0) rV rN rT  ++ (wS (kD k) aS v ++ (wA10 (kD k) ql gl))) [(0, .ref rG), (3, .int p3), (5, .int r1.2.1)] 0 0 269 [.int u, .int r5]) hf (fun r6 hf => ?_) (fun r6 hf K6 => ?_)
      · refine g_icmp_ne (pc := 269) (tgt := 287) (x := r5) (y := r6) hf C dL_isOld_269 (by decide) (fun hf => ?_) (fun hf => ?_)
        · cases hf
        · refine g_aload_n (pc := 272) (x := rG) C dL_isOld_272 rfl ?_
          refine g_iload_n (pc := 273) (x := p3) C dL_isOld_273 rfl ?_
          refine g_iconst (pc := 274) (v := 2) C dL_isOld_274 (by decide) ?_
          refine g_callWA (wr := wA10 (kD k) ql gl) (pc' := 278) (cs' := 0) (sl' := 0) hf C (fun u => some (.int u)) (fun u => (wG (kD k) rG (aS 0) rV rN rT ++ (wS (kD k) aS v))) ((List.Perm.refl _).trans as2) (fun u hu => gr_V (rest := []) C (cX4_oldWay_ (kL k) C.tr (kD k) N rG rV rN rT aS v p3 2 u hu) (fun ht => cwV 2 ht gL_isOld_X4_oldWay rfl rfl rfl hdX4_oldWay ⟨(Nat.le_of_ble_eq_true rfl), (Nat.le_of_ble_eq_true rfl)⟩) 0 rfl rfl _ (rg_map _ _) (rg_nd _) rfl rfl (Nat.le_of_ble_eq_true rfl) dL_isOld_275 ⟨(Nat.le_of_ble_eq_true rfl), (Nat.le_of_ble_eq_true rfl)⟩) (ws' := fun u => (wG (kD k) rG (aS 0) rV rN rT  ++ (wS (kD k) aS v ++ (wA10 (kD k) ql gl)))) (fun u => (as2.symm.trans (List.Perm.refl _))) rfl rfl rfl (fun u => [.int u]) (fun u => rfl) (fun r7 hf => ?_)
          refine g_iload (pc := 278) (x := r1.2.1) C dL_isOld_278 rfl ?_
          refine g_icmp_ne (pc := 280) (tgt := 287) (x := r7) (y := r1.2.1) hf C dL_isOld_280 (by decide) (fun hf => ?_) (fun hf => ?_)
          · cases hf
          · refine g_iconst (pc := 283) (v := 1) C dL_isOld_283 (by decide) ?_
            refine g_goto (pc := 284) (tgt := 288) C dL_isOld_284 (by decide) ?_
            obtain rfl := Option.some.inj hf
            exact g_bret (b := true) C E dL_isOld_288 (Nat.le_of_ble_eq_true rfl) (Nat.le_of_ble_eq_true rfl) ⟨rfl, rfl⟩
      · refine g_if_eq (pc := 260) (tgt := 267) (x := r1.2.2) hf C dL_isOld_260 (by decide) (fun hf => ?_) (fun hf => ?_)
        · refine g_iload (pc := 267) (x := r1.1) C dL_isOld_267 rfl ?_
          obtain rfl := Option.some.inj hf
          refine g_lv [0, 1, 3] (lv' := [(0, .ref rG), (3, .int p3), (5, .int r1.2.1)]) rfl ?_
          exact K6
        · refine g_iconst (pc := 263) (v := (-1)) C dL_isOld_263 (by decide) ?_
          refine g_goto (pc := 264) (tgt := 269) C dL_isOld_264 (by decide) ?_
          obtain rfl := Option.some.inj hf
          refine g_lv [0, 1, 3] (lv' := [(0, .ref rG), (3, .int p3), (5, .int r1.2.1)]) rfl ?_
          exact K6
  · refine g_if_eq (pc := 237) (tgt := 244) (x := r1.2.2) hf C dL_isOld_237 (by decide) (fun hf => ?_) (fun hf => ?_)
    · refine g_iload (pc := 244) (x := r1.1) C dL_isOld_244 rfl ?_
      refine g_callR (pc' := 249) (cs' := 0) (sl' := 0) hf C (fun u => some (.int u)) (fun u hu => gr_S (rest := [.int r2]) C (cL_ones_ (kL k) C.tr (kD k) N r1.1 u hu) (fun ht => va_cwS 1 ht gL_isOld_L_ones rfl rfl rfl hsL_ones ⟨(Nat.le_of_ble_eq_true rfl), (Nat.le_of_ble_eq_true rfl)⟩) [] rfl (by decide) rfl rfl (Nat.le_of_ble_eq_true rfl) dL_isOld_246 ⟨(Nat.le_of_ble_eq_true rfl), (Nat.le_of_ble_eq_true rfl)⟩) [] rfl rfl rfl rfl (fun u => [.int u, .int r2]) (fun u => rfl) (fun r4 hf => ?_)
      obtain rfl := Option.some.inj hf
      exact K3
    · refine g_iconst (pc := 240) (v := (-1)) C dL_isOld_240 (by decide) ?_
      refine g_goto (pc := 241) (tgt := 249) C dL_isOld_241 (by decide) ?_
      obtain rfl := Option.some.inj hf
      exact K3
set_option maxRecDepth 100000 in
set_option maxHeartbeats 4000000 in
theorem cL_isOld_ (l : Launch) (htr : l.stackTraces = false) (D : va_G) (N : Nat) (rG : Nat) (rV : Nat) (rN : Nat) (rT : Nat) (aS : Nat → Nat) (ql : Nat) (v : VS) (gl : (Nat → Int32)) (p2 : Int32) (p3 : Int32) (r : Bool) (hf : fL_isOld N v gl p2 p3 = some r) : Tc l D yL_isOld wsL_isOld rmL_isOld [.ref rG, .ref ql, .int p2, .int p3] (wG D rG (aS 0) rV rN rT ++ (wS D aS v ++ (wA10 D ql gl))) (fun rv w => rv = some (.int (b2i r)) ∧ w = (wG D rG (aS 0) rV rN rT ++ (wS D aS v ++ (wA10 D ql gl)))) (fun _ _ => False) 0 0 := Tc_of htr (by decide +kernel) rfl (Nat.le_of_ble_eq_true rfl) (fun k C E hl hD => by subst hD; exact wkL_isOld C N rG rV rN rT aS ql v gl p2 p3 r hf E)
abbrev rmL_areStacks : Room := { frames := 5, cells := 0, slots := 0, locals := 114 }
theorem hsL_areStacks : yL_areStacks.cls ≠ "java/lang/invoke/MethodHandle" ∧ yL_areStacks.cls ≠ "java/lang/invoke/VarHandle" ∧ (parseMethodDescriptor yL_areStacks.desc).map (fun d => d.parameters.length) = some 8 := by decide +kernel
def lL_areStacks_64 (N : Nat) (v : VS) (gl : (Nat → Int32)) (ge : (Nat → Int32)) (gw : (Nat → Int32)) (gh : (Nat → Int32)) (gn : (Nat → Int32)) (gp : (Nat → Int32)) (l7 : Int32) (l9 : Int32) (l10 : Int32) : Nat → Int32 → Int32 → Int32 → Int32 → Int32 → Int32 → Option ((Int32 × Int32 × Int32 × Int32 × Int32))
  | 0, _, _, _, _, _, _ => none
  | n + 1, l11, l12, l13, l14, l15, l16 => (if l10 < l16 then some (l11, l12, l13, l14, l15) else ck ((7 * l9) + l16) 21 (ck (gp (Int32.toNatClampNeg ((7 * l9) + l16))) 10 (ck (gp (Int32.toNatClampNeg ((7 * l9) + l16))) 10 (((fL_length N gl ge gw (gp (Int32.toNatClampNeg ((7 * l9) + l16))) (gh (Int32.toNatClampNeg (gp (Int32.toNatClampNeg ((7 * l9) + l16)))))).bind fun r1 => ck (gp (Int32.toNatClampNeg ((7 * l9) + l16))) 10 (((fL_cool N (gh (Int32.toNatClampNeg (gp (Int32.toNatClampNeg ((7 * l9) + l16))))) l7).bind fun r2 => ((fL_length N gl ge gw (gp (Int32.toNatClampNeg ((7 * l9) + l16))) r2).bind fun r3 => ((fL_grade N ge gw (gp (Int32.toNatClampNeg ((7 * l9) + l16)))).bind fun r4 => (if r4 ≤ l15 then (lL_areStacks_64 N v gl ge gw gh gn gp l7 l9 l10 n (l11 + (gl (Int32.toNatClampNeg (gp (Int32.toNatClampNeg ((7 * l9) + l16)))))) (l12 + r1) (l13 + r3) (l14 ||| ((1 : Int32) <<< ((gp (Int32.toNatClampNeg ((7 * l9) + l16))) &&& 31))) l15 (l16 + 1)) else ((fL_grade N ge gw (gp (Int32.toNatClampNeg ((7 * l9) + l16)))).bind fun r5 => (lL_areStacks_64 N v gl ge gw gh gn gp l7 l9 l10 n (l11 + (gl (Int32.toNatClampNeg (gp (Int32.toNatClampNeg ((7 * l9) + l16)))))) (l12 + r1) (l13 + r3) (l14 ||| ((1 : Int32) <<< ((gp (Int32.toNatClampNeg ((7 * l9) + l16))) &&& 31))) r5 (l16 + 1)))))))))))))
set_option maxRecDepth 100000 in
set_option maxHeartbeats 4000000 in
theorem wlL_areStacks_64 {k : Kt} (C : gC k cL_areStacks 18 RL wsL_areStacks rmL_areStacks "areStacks") (N : Nat) (rG : Nat) (rV : Nat) (rN : Nat) (rT : Nat) (aS : Nat → Nat) (ql : Nat) (qe : Nat) (qw : Nat) (qh : Nat) (qn : Nat) (qp : Nat) (v : VS) (gl : (Nat → Int32)) (ge : (Nat → Int32)) (gw : (Nat → Int32)) (gh : (Nat → Int32)) (gn : (Nat → Int32)) (gp : (Nat → Int32)) (l7 : Int32) (l9 : Int32) (l10 : Int32) : ∀ (n : Nat) (l11 : Int32) (l12 : Int32) (l13 : Int32) (l14 : Int32) (l15 : Int32) (l16 : Int32) (u : (Int32 × Int32 × Int32 × Int32 × Int32)) (hf : lL_areStacks_64 N v gl ge gw gh gn gp l7 l9 l10 n l11 l12 l13 l14 l15 l16 = some u) (hk0 : gG k (wG (kD k) rG (aS 0) rV rN rT ++ (wS (kD k) aS v ++ (wA10 (kD k) ql gl ++ (wA10 (kD k) qe ge ++ (wA10 (kD k) qw gw ++ (wA10 (kD k) qh gh ++ (wA9 (kD k) qn gn ++ (wA21 (kD k) qp gp)))))))) [(0, .ref rG), (1, .ref ql), (2, .ref qe), (3, .ref qw), (4, .ref qh), (5, .ref qn), (6, .ref qp), (7, .int l7), (9, .int l9), (10, .int l10), (11, .int u.1), (12, .int u.2.1), (13, .int u.2.2.1), (14, .int u.2.2.2.1), (15, .int u.2.2.2.2)] 0 0 175 []), gG k (wG (kD k) rG (aS 0) rV rN rT ++ (wS (kD k) aS v ++ (wA10 (kD k) ql gl ++ (wA10 (kD k) qe ge ++ (wA10 (kD k) qw gw ++ (wA10 (kD k) qh gh ++ (wA9 (kD k) qn gn ++ (wA21 (kD k) qp gp)))))))) [(0, .ref rG), (1, .ref ql), (2, .ref qe), (3, .ref qw), (4, .ref qh), (5, .ref qn), (6, .ref qp), (7, .int l7), (9, .int l9), (10, .int l10), (11, .int l11), (12, .int l12), (13, .int l13), (14, .int l14), (15, .int l15), (16, .int l16)] 0 0 64 [] := by
  intro n
  induction n with
  | zero => intro l11 l12 l13 l14 l15 l16 u hf hk0; rw [lL_areStacks_64] at hf; cases hf
  | succ n ih =>
    intro l11 l12 l13 l14 l15 l16 u hf hk0
    rw [lL_areStacks_64] at hf
    refine g_iload (pc := 64) (x := l16) C dL_areStacks_64 rfl ?_
    refine g_iload (pc := 66) (x := l10) C dL_areStacks_66 rfl ?_
    refine g_icmp_gt (pc := 68) (tgt := 175) (x := l16) (y := l10) hf C dL_areStacks_68 (by decide) (fun hf => ?_) (fun hf => ?_)
    · obtain rfl := Option.some.inj hf
      refine g_lv [0, 1, 2, 3, 4, 5, 6, 7, 8, 9, 10, 11, 12, 13, 14] (lv' := [(0, .ref rG), (1, .ref ql), (2, .ref qe), (3, .ref qw), (4, .ref qh), (5, .ref qn), (6, .ref qp), (7, .int l7), (9, .int l9), (10, .int l10), (11, .int l11), (12, .int l12), (13, .int l13), (14, .int l14), (15, .int l15)]) rfl ?_
      exact hk0
    · refine g_aload (pc := 71) (x := qp) C dL_areStacks_71 rfl ?_
      refine g_bipush (pc := 73) (v := 7) C dL_areStacks_73 (by decide) ?_
      refine g_iload (pc := 75) (x := l9) C dL_areStacks_75 rfl ?_
      refine g_imul (pc := 77) (x := 7) (y := l9) C dL_areStacks_77 ?_
      refine g_iload (pc := 78) (x := l16) C dL_areStacks_78 rfl ?_
      refine g_iadd (pc := 80) (x := (7 * l9)) (y := l16) C dL_areStacks_80 ?_
      refine g_iald (pc := 81) (i := ((7 * l9) + l16)) hf C 15 rfl dL_areStacks_81 (fun hf => ?_)
      refine g_istore (pc := 82) (lv' := [(17, .int (gp (Int32.toNatClampNeg ((7 * l9) + l16)))), (0, .ref rG), (1, .ref ql), (2, .ref qe), (3, .ref qw), (4, .ref qh), (5, .ref qn), (6, .ref qp), (7, .int l7), (9, .int l9), (10, .int l10), (11, .int l11), (12, .int l12), (13, .int l13), (14, .int l14), (15, .int l15), (16, .int l16)]) C dL_areStacks_82 (by decide) rfl ?_
      refine g_iload (pc := 84) (x := l11) C dL_areStacks_84 rfl ?_
      refine g_aload_n (pc := 86) (x := ql) C dL_areStacks_86 rfl ?_
      refine g_iload (pc := 87) (x := (gp (Int32.toNatClampNeg ((7 * l9) + l16)))) C dL_areStacks_87 rfl ?_
      refine g_iald (pc := 89) (i := (gp (Int32.toNatClampNeg ((7 * l9) + l16)))) hf C 10 rfl dL_areStacks_89 (fun hf => ?_)
      refine g_iadd (pc := 90) (x := l11) (y := (gl (Int32.toNatClampNeg (gp (Int32.toNatClampNeg ((7 * l9) + l16)))))) C dL_areStacks_90 ?_
      refine g_istore (pc := 91) (lv' := [(11, .int (l11 + (gl (Int32.toNatClampNeg (gp (Int32.toNatClampNeg ((7 * l9) + l16))))))), (17, .int (gp (Int32.toNatClampNeg ((7 * l9) + l16)))), (0, .ref rG), (1, .ref ql), (2, .ref qe), (3, .ref qw), (4, .ref qh), (5, .ref qn), (6, .ref qp), (7, .int l7), (9, .int l9), (10, .int l10), (12, .int l12), (13, .int l13), (14, .int l14), (15, .int l15), (16, .int l16)]) C dL_areStacks_91 (by decide) rfl ?_
      refine g_iload (pc := 93) (x := l12) C dL_areStacks_93 rfl ?_
      refine g_aload_n (pc := 95) (x := ql) C dL_areStacks_95 rfl ?_
      refine g_aload_n (pc := 96) (x := qe) C dL_areStacks_96 rfl ?_
      refine g_aload_n (pc := 97) (x := qw) C dL_areStacks_97 rfl ?_
      refine g_iload (pc := 98) (x := (gp (Int32.toNatClampNeg ((7 * l9) + l16)))) C dL_areStacks_98 rfl ?_
      refine g_aload (pc := 100) (x := qh) C dL_areStacks_100 rfl ?_
      refine g_iload (pc := 102) (x := (gp (Int32.toNatClampNeg ((7 * l9) + l16)))) C dL_areStacks_102 rfl ?_
      refine g_iald (pc := 104) (i := (gp (Int32.toNatClampNeg ((7 * l9) + l16)))) hf C 13 rfl dL_areStacks_104 (fun hf => ?_)
      refine g_callWA (wr := wG (kD k) rG (aS 0) rV rN rT  ++ (wS (kD k) aS v ++ (wA10 (kD k) qh gh ++ (wA9 (kD k) qn gn ++ (wA21 (kD k) qp gp))))) (pc' := 108) (cs' := 0) (sl' := 0) hf C (fun u => some (.int u)) (fun u => (wA10 (kD k) ql gl ++ (wA10 (kD k) qe ge ++ (wA10 (kD k) qw gw)))) (((pm0 (pm0 (List.Perm.refl _))).trans (pmc ((pm0 (pm0 (List.Perm.refl _))).trans (pmc (pm0 (pm0 (List.Perm.refl _))))))).trans as3) (fun u hu => gr_S (rest := [.int l12]) C (cL_length_ (kL k) C.tr (kD k) N ql qe qw gl ge gw (gp (Int32.toNatClampNeg ((7 * l9) + l16))) (gh (Int32.toNatClampNeg (gp (Int32.toNatClampNeg ((7 * l9) + l16))))) u hu) (fun ht => va_cwS 5 ht gL_areStacks_L_length rfl rfl rfl hsL_length ⟨(Nat.le_of_ble_eq_true rfl), (Nat.le_of_ble_eq_true rfl)⟩) _ (rg_map _ _) (rg_nd _) rfl rfl (Nat.le_of_ble_eq_true rfl) dL_areStacks_105 ⟨(Nat.le_of_ble_eq_true rfl), (Nat.le_of_ble_eq_true rfl)⟩) (ws' := fun u => (wG (kD k) rG (aS 0) rV rN rT  ++ (wS (kD k) aS v ++ (wA10 (kD k) ql gl ++ (wA10 (kD k) qe ge ++ (wA10 (kD k) qw gw ++ (wA10 (kD k) qh gh ++ (wA9 (kD k) qn gn ++ (wA21 (kD k) qp gp))))))))) (fun u => (as3.symm.trans ((pm0 (pm0 (pm0 (List.Perm.refl _)))).trans (pmc (pm0 (pm0 (pm0 (List.Perm.refl _)))))))) rfl rfl rfl (fun u => [.int u, .int l12]) (fun u => rfl) (fun r1 hf => ?_)
      refine g_iadd (pc := 108) (x := l12) (y := r1) C dL_areStacks_108 ?_
      refine g_istore (pc := 109) (lv' := [(12, .int (l12 + r1)), (11, .int (l11 + (gl (Int32.toNatClampNeg (gp (Int32.toNatClampNeg ((7 * l9) + l16))))))), (17, .int (gp (Int32.toNatClampNeg ((7 * l9) + l16)))), (0, .ref rG), (1, .ref ql), (2, .ref qe), (3, .ref qw), (4, .ref qh), (5, .ref qn), (6, .ref qp), (7, .int l7), (9, .int l9), (10, .int l10), (13, .int l13), (14, .int l14), (15, .int l15), (16, .int l16)]) C dL_areStacks_109 (by decide) rfl ?_
      refine g_iload (pc := 111) (x := l13) C dL_areStacks_111 rfl ?_
      refine g_aload_n (pc := 113) (x := ql) C dL_areStacks_113 rfl ?_
      refine g_aload_n (pc := 114) (x := qe) C dL_areStacks_114 rfl ?_
      refine g_aload_n (pc := 115) (x := qw) C dL_areStacks_115 rfl ?_
      refine g_iload (pc := 116) (x := (gp (Int32.toNatClampNeg ((7 * l9) + l16)))) C dL_areStacks_116 rfl ?_
      refine g_aload (pc := 118) (x := qh) C dL_areStacks_118 rfl ?_
      refine g_iload (pc := 120) (x := (gp (Int32.toNatClampNeg ((7 * l9) + l16)))) C dL_areStacks_120 rfl ?_
      refine g_iald (pc := 122) (i := (gp (Int32.toNatClampNeg ((7 * l9) + l16)))) hf C 13 rfl dL_areStacks_122 (fun hf => ?_)
      refine g_iload (pc := 123) (x := l7) C dL_areStacks_123 rfl ?_
      refine g_callR (pc' := 128) (cs' := 0) (sl' := 0) hf C (fun u => some (.int u)) (fun u hu => gr_S (rest := [.int (gp (Int32.toNatClampNeg ((7 * l9) + l16))), .ref qw, .ref qe, .ref ql, .int l13]) C (cL_cool_ (kL k) C.tr (kD k) N (gh (Int32.toNatClampNeg (gp (Int32.toNatClampNeg ((7 * l9) + l16))))) l7 u hu) (fun ht => va_cwS 2 ht gL_areStacks_L_cool rfl rfl rfl hsL_cool ⟨(Nat.le_of_ble_eq_true rfl), (Nat.le_of_ble_eq_true rfl)⟩) [] rfl (by decide) rfl rfl (Nat.le_of_ble_eq_true rfl) dL_areStacks_125 ⟨(Nat.le_of_ble_eq_true rfl), (Nat.le_of_ble_eq_true rfl)⟩) [] rfl rfl rfl rfl (fun u => [.int u, .int (gp (Int32.toNatClampNeg ((7 * l9) + l16))), .ref qw, .ref qe, .ref ql, .int l13]) (fun u => rfl) (fun r2 hf => ?_)
      refine g_callWA (wr := wG (kD k) rG (aS 0) rV rN rT  ++ (wS (kD k) aS v ++ (wA10 (kD k) qh gh ++ (wA9 (kD k) qn gn ++ (wA21 (kD k) qp gp))))) (pc' := 131) (cs' := 0) (sl' := 0) hf C (fun u => some (.int u)) (fun u => (wA10 (kD k) ql gl ++ (wA10 (kD k) qe ge ++ (wA10 (kD k) qw gw)))) (((pm0 (pm0 (List.Perm.refl _))).trans (pmc ((pm0 (pm0 (List.Perm.refl _))).trans (pmc (pm0 (pm0 (List.Perm.refl _))))))).trans as3) (fun u hu => gr_S (rest := [.int l13]) C (cL_length_ (kL k) C.tr (kD k) N ql qe qw gl ge gw (gp (Int32.toNatClampNeg ((7 * l9) + l16))) r2 u hu) (fun ht => va_cwS 5 ht gL_areStacks_L_length rfl rfl rfl hsL_length ⟨(Nat.le_of_ble_eq_true rfl), (Nat.le_of_ble_eq_true rfl)⟩) _ (rg_map _ _) (rg_nd _) rfl rfl (Nat.le_of_ble_eq_true rfl) dL_areStacks_128 ⟨(Nat.le_of_ble_eq_true rfl), (Nat.le_of_ble_eq_true rfl)⟩) (ws' := fun u => (wG (kD k) rG (aS 0) rV rN rT  ++ (wS (kD k) aS v ++ (wA10 (kD k) ql gl ++ (wA10 (kD k) qe ge ++ (wA10 (kD k) qw gw ++ (wA10 (kD k) qh gh ++ (wA9 (kD k) qn gn ++ (wA21 (kD k) qp gp))))))))) (fun u => (as3.symm.trans ((pm0 (pm0 (pm0 (List.Perm.refl _)))).trans (pmc (pm0 (pm0 (pm0 (List.Perm.refl _)))))))) rfl rfl rfl (fun u => [.int u, .int l13]) (fun u => rfl) (fun r3 hf => ?_)
      refine g_iadd (pc := 131) (x := l13) (y := r3) C dL_areStacks_131 ?_
      refine g_istore (pc := 132) (lv' := [(13, .int (l13 + r3)), (12, .int (l12 + r1)), (11, .int (l11 + (gl (Int32.toNatClampNeg (gp (Int32.toNatClampNeg ((7 * l9) + l16))))))), (17, .int (gp (Int32.toNatClampNeg ((7 * l9) + l16)))), (0, .ref rG), (1, .ref ql), (2, .ref qe), (3, .ref qw), (4, .ref qh), (5, .ref qn), (6, .ref qp), (7, .int l7), (9, .int l9), (10, .int l10), (14, .int l14), (15, .int l15), (16, .int l16)]) C dL_areStacks_132 (by decide) rfl ?_
      refine g_iload (pc := 134) (x := l14) C dL_areStacks_134 rfl ?_
      refine g_iconst (pc := 136) (v := 1) C dL_areStacks_136 (by decide) ?_
      refine g_iload (pc := 137) (x := (gp (Int32.toNatClampNeg ((7 * l9) + l16)))) C dL_areStacks_137 rfl ?_
      refine g_ishl (pc := 139) (x := (1 : Int32)) (y := (gp (Int32.toNatClampNeg ((7 * l9) + l16)))) C dL_areStacks_139 ?_
      refine g_ior (pc := 140) (x := l14) (y := ((1 : Int32) <<< ((gp (Int32.toNatClampNeg ((7 * l9) + l16))) &&& 31))) C dL_areStacks_140 ?_
      refine g_istore (pc := 141) (lv' := [(14, .int (l14 ||| ((1 : Int32) <<< ((gp (Int32.toNatClampNeg ((7 * l9) + l16))) &&& 31)))), (13, .int (l13 + r3)), (12, .int (l12 + r1)), (11, .int (l11 + (gl (Int32.toNatClampNeg (gp (Int32.toNatClampNeg ((7 * l9) + l16))))))), (17, .int (gp (Int32.toNatClampNeg ((7 * l9) + l16)))), (0, .ref rG), (1, .ref ql), (2, .ref qe), (3, .ref qw), (4, .ref qh), (5, .ref qn), (6, .ref qp), (7, .int l7), (9, .int l9), (10, .int l10), (15, .int l15), (16, .int l16)]) C dL_areStacks_141 (by decide) rfl ?_
      refine g_aload_n (pc := 143) (x := qe) C dL_areStacks_143 rfl ?_
      refine g_aload_n (pc := 144) (x := qw) C dL_areStacks_144 rfl ?_
      refine g_iload (pc := 145) (x := (gp (Int32.toNatClampNeg ((7 * l9) + l16)))) C dL_areStacks_145 rfl ?_
      refine g_callWA (wr := wG (kD k) rG (aS 0) rV rN rT  ++ (wS (kD k) aS v ++ (wA10 (kD k) ql gl ++ (wA10 (kD k) qh gh ++ (wA9 (kD k) qn gn ++ (wA21 (kD k) qp gp)))))) (pc' := 150) (cs' := 0) (sl' := 0) hf C (fun u => some (.int u)) (fun u => (wA10 (kD k) qe ge ++ (wA10 (kD k) qw gw))) (((pm0 (pm0 (pm0 (List.Perm.refl _)))).trans (pmc (pm0 (pm0 (pm0 (List.Perm.refl _)))))).trans as2) (fun u hu => gr_S (rest := []) C (cL_grade_ (kL k) C.tr (kD k) N qe qw ge gw (gp (Int32.toNatClampNeg ((7 * l9) + l16))) u hu) (fun ht => va_cwS 3 ht gL_areStacks_L_grade rfl rfl rfl hsL_grade ⟨(Nat.le_of_ble_eq_true rfl), (Nat.le_of_ble_eq_true rfl)⟩) _ (rg_map _ _) (rg_nd _) rfl rfl (Nat.le_of_ble_eq_true rfl) dL_areStacks_147 ⟨(Nat.le_of_ble_eq_true rfl), (Nat.le_of_ble_eq_true rfl)⟩) (ws' := fun u => (wG (kD k) rG (aS 0) rV rN rT  ++ (wS (kD k) aS v ++ (wA10 (kD k) ql gl ++ (wA10 (kD k) qe ge ++ (wA10 (kD k) qw gw ++ (wA10 (kD k) qh gh ++ (wA9 (kD k) qn gn ++ (wA21 (kD k) qp gp))))))))) (fun u => (as2.symm.trans ((pm0 (pm0 (List.Perm.refl _))).trans (pmc ((pm0 (pm0 (List.Perm.refl _))).trans (pmc (pm0 (pm0 (List.Perm.refl _))))))))) rfl rfl rfl (fun u => [.int u]) (fun u => rfl) (fun r4 hf => ?_)
      refine g_iload (pc := 150) (x := l15) C dL_areStacks_150 rfl ?_
      refine g_icmp_le (pc := 152) (tgt := 165) (x := r4) (y := l15) hf C dL_areStacks_152 (by decide) (fun hf => ?_) (fun hf => ?_)
      · refine g_iload (pc := 165) (x := l15) C dL_areStacks_165 rfl ?_
        refine g_istore (pc := 167) (lv' := [(15, .int l15), (14, .int (l14 ||| ((1 : Int32) <<< ((gp (Int32.toNatClampNeg ((7 * l9) + l16))) &&& 31)))), (13, .int (l13 + r3)), (12, .int (l12 + r1)), (11, .int (l11 + (gl (Int32.toNatClampNeg (gp (Int32.toNatClampNeg ((7 * l9) + l16))))))), (17, .int (gp (Int32.toNatClampNeg ((7 * l9) + l16)))), (0, .ref rG), (1, .ref ql), (2, .ref qe), (3, .ref qw), (4, .ref qh), (5, .ref qn), (6, .ref qp), (7, .int l7), (9, .int l9), (10, .int l10), (16, .int l16)]) C dL_areStacks_167 (by decide) rfl ?_
        refine g_iinc (pc := 169) (x := l16) (v := (l16 + 1)) (lv' := [(16, .int (l16 + 1)), (15, .int l15), (14, .int (l14 ||| ((1 : Int32) <<< ((gp (Int32.toNatClampNeg ((7 * l9) + l16))) &&& 31)))), (13, .int (l13 + r3)), (12, .int (l12 + r1)), (11, .int (l11 + (gl (Int32.toNatClampNeg (gp (Int32.toNatClampNeg ((7 * l9) + l16))))))), (17, .int (gp (Int32.toNatClampNeg ((7 * l9) + l16)))), (0, .ref rG), (1, .ref ql), (2, .ref qe), (3, .ref qw), (4, .ref qh), (5, .ref qn), (6, .ref qp), (7, .int l7), (9, .int l9), (10, .int l10)]) C dL_areStacks_169 rfl rfl (by decide) rfl ?_
        refine g_goto (pc := 172) (tgt := 64) C dL_areStacks_172 (by decide) ?_
        refine g_lv [7, 8, 9, 10, 11, 12, 13, 14, 15, 16, 5, 4, 3, 2, 1, 0] (lv' := [(0, .ref rG), (1, .ref ql), (2, .ref qe), (3, .ref qw), (4, .ref qh), (5, .ref qn), (6, .ref qp), (7, .int l7), (9, .int l9), (10, .int l10), (11, .int (l11 + (gl (Int32.toNatClampNeg (gp (Int32.toNatClampNeg ((7 * l9) + l16))))))), (12, .int (l12 + r1)), (13, .int (l13 + r3)), (14, .int (l14 ||| ((1 : Int32) <<< ((gp (Int32.toNatClampNeg ((7 * l9) + l16))) &&& 31)))), (15, .int l15), (16, .int (l16 + 1))]) rfl ?_
        exact ih (l11 + (gl (Int32.toNatClampNeg (gp (Int32.toNatClampNeg ((7 * l9) + l16)))))) (l12 + r1) (l13 + r3) (l14 ||| ((1 : Int32) <<< ((gp (Int32.toNatClampNeg ((7 * l9) + l16))) &&& 31))) l15 (l16 + 1) u hf hk0
      · refine g_aload_n (pc := 155) (x := qe) C dL_areStacks_155 rfl ?_
        refine g_aload_n (pc := 156) (x := qw) C dL_areStacks_156 rfl ?_
        refine g_iload (pc := 157) (x := (gp (Int32.toNatClampNeg ((7 * l9) + l16)))) C dL_areStacks_157 rfl ?_
        refine g_callWA (wr := wG (kD k) rG (aS 0) rV rN rT  ++ (wS (kD k) aS v ++ (wA10 (kD k) ql gl ++ (wA10 (kD k) qh gh ++ (wA9 (kD k) qn gn ++ (wA21 (kD k) qp gp)))))) (pc' := 162) (cs' := 0) (sl' := 0) hf C (fun u => some (.int u)) (fun u => (wA10 (kD k) qe ge ++ (wA10 (kD k) qw gw))) (((pm0 (pm0 (pm0 (List.Perm.refl _)))).trans (pmc (pm0 (pm0 (pm0 (List.Perm.refl _)))))).trans as2) (fun u hu => gr_S (rest := []) C (cL_grade_ (kL k) C.tr (kD k) N qe qw ge gw (gp (Int32.toNatClampNeg ((7 * l9) + l16))) u hu) (fun ht => va_cwS 3 ht gL_areStacks_L_grade rfl rfl rfl hsL_grade ⟨(Nat.le_of_ble_eq_true rfl), (Nat.le_of_ble_eq_true rfl)⟩) _ (rg_map _ _) (rg_nd _) rfl rfl (Nat.le_of_ble_eq_true rfl) dL_areStacks_159 ⟨(Nat.le_of_ble_eq_true rfl), (Nat.le_of_ble_eq_true rfl)⟩) (ws' := fun u => (wG (kD k) rG (aS 0) rV rN rT  ++ (wS (kD k) aS v ++ (wA10 (kD k) ql gl ++ (wA10 (kD k) qe ge ++ (wA10 (kD k) qw gw ++ (wA10 (kD k) qh gh ++ (wA9 (kD k) qn gn ++ (wA21 (kD k) qp gp))))))))) (fun u => (as2.symm.trans ((pm0 (pm0 (List.Perm.refl _))).trans (pmc ((pm0 (pm0 (List.Perm.refl _))).trans (pmc (pm0 (pm0 (List.Perm.refl _))))))))) rfl rfl rfl (fun u => [.int u]) (fun u => rfl) (fun r5 hf => ?_)
        refine g_goto (pc := 162) (tgt := 167) C dL_areStacks_162 (by decide) ?_
        refine g_istore (pc := 167) (lv' := [(15, .int r5), (14, .int (l14 ||| ((1 : Int32) <<< ((gp (Int32.toNatClampNeg ((7 * l9) + l16))) &&& 31)))), (13, .int (l13 + r3)), (12, .int (l12 + r1)), (11, .int (l11 + (gl (Int32.toNatClampNeg (gp (Int32.toNatClampNeg ((7 * l9) + l16))))))), (17, .int (gp (Int32.toNatClampNeg ((7 * l9) + l16)))), (0, .ref rG), (1, .ref ql), (2, .ref qe), (3, .ref qw), (4, .ref qh), (5, .ref qn), (6, .ref qp), (7, .int l7), (9, .int l9), (10, .int l10), (16, .int l16)]) C dL_areStacks_167 (by decide) rfl ?_
        refine g_iinc (pc := 169) (x := l16) (v := (l16 + 1)) (lv' := [(16, .int (l16 + 1)), (15, .int r5), (14, .int (l14 ||| ((1 : Int32) <<< ((gp (Int32.toNatClampNeg ((7 * l9) + l16))) &&& 31)))), (13, .int (l13 + r3)), (12, .int (l12 + r1)), (11, .int (l11 + (gl (Int32.toNatClampNeg (gp (Int32.toNatClampNeg ((7 * l9) + l16))))))), (17, .int (gp (Int32.toNatClampNeg ((7 * l9) + l16)))), (0, .ref rG), (1, .ref ql), (2, .ref qe), (3, .ref qw), (4, .ref qh), (5, .ref qn), (6, .ref qp), (7, .int l7), (9, .int l9), (10, .int l10)]) C dL_areStacks_169 rfl rfl (by decide) rfl ?_
        refine g_goto (pc := 172) (tgt := 64) C dL_areStacks_172 (by decide) ?_
        refine g_lv [7, 8, 9, 10, 11, 12, 13, 14, 15, 16, 5, 4, 3, 2, 1, 0] (lv' := [(0, .ref rG), (1, .ref ql), (2, .ref qe), (3, .ref qw), (4, .ref qh), (5, .ref qn), (6, .ref qp), (7, .int l7), (9, .int l9), (10, .int l10), (11, .int (l11 + (gl (Int32.toNatClampNeg (gp (Int32.toNatClampNeg ((7 * l9) + l16))))))), (12, .int (l12 + r1)), (13, .int (l13 + r3)), (14, .int (l14 ||| ((1 : Int32) <<< ((gp (Int32.toNatClampNeg ((7 * l9) + l16))) &&& 31)))), (15, .int r5), (16, .int (l16 + 1))]) rfl ?_
        exact ih (l11 + (gl (Int32.toNatClampNeg (gp (Int32.toNatClampNeg ((7 * l9) + l16)))))) (l12 + r1) (l13 + r3) (l14 ||| ((1 : Int32) <<< ((gp (Int32.toNatClampNeg ((7 * l9) + l16))) &&& 31))) r5 (l16 + 1) u hf hk0
def lL_areStacks_6 (N : Nat) (v : VS) (gl : (Nat → Int32)) (ge : (Nat → Int32)) (gw : (Nat → Int32)) (gh : (Nat → Int32)) (gn : (Nat → Int32)) (gp : (Nat → Int32)) (l7 : Int32) : Nat → Int32 → Int32 → Option ((Int32))
  | 0, _, _ => none
  | n + 1, l8, l9 => (if (3 : Int32) ≤ l9 then some l8 else (if l8 = (0 : Int32) then none else ck (7 * l9) 21 ((((if (gp (Int32.toNatClampNeg (7 * l9))) ≤ (1 : Int32) then some 0 else ck 0 9 (some (((gp (Int32.toNatClampNeg (7 * l9))) - 1) * (gn (Int32.toNatClampNeg 0))))) : Option (Int32)).bind fun r1 => ((lL_areStacks_64 N v gl ge gw gh gn gp l7 l9 (gp (Int32.toNatClampNeg (7 * l9))) N 0 r1 r1 0 (-1) 1).bind fun r2 => ((fX4_stackOf N v l9 0).bind fun r3 => (if r3 = (gp (Int32.toNatClampNeg (7 * l9))) then ((fX4_stackOf N v l9 1).bind fun r4 => (if r4 = r2.1 then ((fX4_stackOf N v l9 2).bind fun r5 => (if r5 = r2.2.1 then ((fX4_stackOf N v l9 3).bind fun r6 => (if r6 = r2.2.2.2.1 then ((fX4_stackOf N v l9 4).bind fun r7 => (((if (gp (Int32.toNatClampNeg (7 * l9))) = (0 : Int32) then some (-1) else ck ((7 * l9) + (gp (Int32.toNatClampNeg (7 * l9)))) 21 (some (gp (Int32.toNatClampNeg ((7 * l9) + (gp (Int32.toNatClampNeg (7 * l9)))))))) : Option (Int32)).bind fun r8 => (if r7 = r8 then ((fX4_stackOf N v l9 5).bind fun r9 => (if r9 = r2.2.2.2.2 then ((fX4_stackOf N v l9 6).bind fun r10 => ((fL_size N (r2.2.1 - (1000 * r2.1))).bind fun r11 => (if r10 = r11 then ((fX4_lengthIn N v l9 l7).bind fun r12 => (if r12 = r2.2.2.1 then ((fX4_lengthIn N v l9 0).bind fun r13 => (if r13 = r2.2.1 then (lL_areStacks_6 N v gl ge gw gh gn gp l7 n 1 (l9 + 1)) else none)) else none)) else none))) else none)) else none))) else none)) else none)) else none)) else none)))))))
set_option maxRecDepth 100000 in
set_option maxHeartbeats 4000000 in
theorem wlL_areStacks_6 {k : Kt} (C : gC k cL_areStacks 18 RL wsL_areStacks rmL_areStacks "areStacks") (N : Nat) (rG : Nat) (rV : Nat) (rN : Nat) (rT : Nat) (aS : Nat → Nat) (ql : Nat) (qe : Nat) (qw : Nat) (qh : Nat) (qn : Nat) (qp : Nat) (v : VS) (gl : (Nat → Int32)) (ge : (Nat → Int32)) (gw : (Nat → Int32)) (gh : (Nat → Int32)) (gn : (Nat → Int32)) (gp : (Nat → Int32)) (l7 : Int32) : ∀ (n : Nat) (l8 : Int32) (l9 : Int32) (u : (Int32)) (hf : lL_areStacks_6 N v gl ge gw gh gn gp l7 n l8 l9 = some u) (hk0 : gG k (wG (kD k) rG (aS 0) rV rN rT ++ (wS (kD k) aS v ++ (wA10 (kD k) ql gl ++ (wA10 (kD k) qe ge ++ (wA10 (kD k) qw gw ++ (wA10 (kD k) qh gh ++ (wA9 (kD k) qn gn ++ (wA21 (kD k) qp gp)))))))) [(8, .int u)] 0 0 326 []), gG k (wG (kD k) rG (aS 0) rV rN rT ++ (wS (kD k) aS v ++ (wA10 (kD k) ql gl ++ (wA10 (kD k) qe ge ++ (wA10 (kD k) qw gw ++ (wA10 (kD k) qh gh ++ (wA9 (kD k) qn gn ++ (wA21 (kD k) qp gp)))))))) [(0, .ref rG), (1, .ref ql), (2, .ref qe), (3, .ref qw), (4, .ref qh), (5, .ref qn), (6, .ref qp), (7, .int l7), (8, .int l8), (9, .int l9)] 0 0 6 [] := by
  intro n
  induction n with
  | zero => intro l8 l9 u hf hk0; rw [lL_areStacks_6] at hf; cases hf
  | succ n ih =>
    intro l8 l9 u hf hk0
    rw [lL_areStacks_6] at hf
    refine g_iload (pc := 6) (x := l9) C dL_areStacks_6 rfl ?_
    refine g_iconst (pc := 8) (v := 3) C dL_areStacks_8 (by decide) ?_
    refine g_icmp_ge (pc := 9) (tgt := 326) (x := l9) (y := 3) hf C dL_areStacks_9 (by decide) (fun hf => ?_) (fun hf => ?_)
    · obtain rfl := Option.some.inj hf
      refine g_lv [8] (lv' := [(8, .int l8)]) rfl ?_
      exact hk0
    · refine g_iload (pc := 12) (x := l8) C dL_areStacks_12 rfl ?_
      refine g_if_eq (pc := 14) (tgt := 326) (x := l8) hf C dL_areStacks_14 (by decide) (fun hf => ?_) (fun hf => ?_)
      · cases hf
      · refine g_aload (pc := 17) (x := qp) C dL_areStacks_17 rfl ?_
        refine g_bipush (pc := 19) (v := 7) C dL_areStacks_19 (by decide) ?_
        refine g_iload (pc := 21) (x := l9) C dL_areStacks_21 rfl ?_
        refine g_imul (pc := 23) (x := 7) (y := l9) C dL_areStacks_23 ?_
        refine g_iald (pc := 24) (i := (7 * l9)) hf C 15 rfl dL_areStacks_24 (fun hf => ?_)
        refine g_istore (pc := 25) (lv' := [(10, .int (gp (Int32.toNatClampNeg (7 * l9)))), (0, .ref rG), (1, .ref ql), (2, .ref qe), (3, .ref qw), (4, .ref qh), (5, .ref qn), (6, .ref qp), (7, .int l7), (8, .int l8), (9, .int l9)]) C dL_areStacks_25 (by decide) rfl ?_
        refine g_iconst (pc := 27) (v := 0) C dL_areStacks_27 (by decide) ?_
        refine g_istore (pc := 28) (lv' := [(11, .int 0), (10, .int (gp (Int32.toNatClampNeg (7 * l9)))), (0, .ref rG), (1, .ref ql), (2, .ref qe), (3, .ref qw), (4, .ref qh), (5, .ref qn), (6, .ref qp), (7, .int l7), (8, .int l8), (9, .int l9)]) C dL_areStacks_28 (by decide) rfl ?_
        refine g_iload (pc := 30) (x := (gp (Int32.toNatClampNeg (7 * l9)))) C dL_areStacks_30 rfl ?_
        refine g_iconst (pc := 32) (v := 1) C dL_areStacks_32 (by decide) ?_
        refine g_join (Q := fun (u : Int32) => gG k (wG (kD k) rG (aS 0) rV rN rT  ++ (wS (kD k) aS v ++ (wA10 (kD k) ql gl ++ (wA10 (kD k) qe ge ++ (wA10 (kD k) qw gw ++ (wA10 (kD k) qh gh ++ (wA9 (kD k) qn gn ++ (wA21 (kD k) qp gp)))))))) [(0, .ref rG), (1, .ref ql), (2, .ref qe), (3, .ref qw), (4, .ref qh), (5, .ref qn), (6, .ref qp), (7, .int l7), (9, .int l9), (10, .int (gp (Int32.toNatClampNeg (7 * l9)))), (11, .int 0)] 0 0 49 [.int u]) hf (fun r1 hf => ?_) (fun r1 hf K1 => ?_)
        · refine g_istore (pc := 49) (lv' := [(12, .int r1), (0, .ref rG), (1, .ref ql), (2, .ref qe), (3, .ref qw), (4, .ref qh), (5, .ref qn), (6, .ref qp), (7, .int l7), (9, .int l9), (10, .int (gp (Int32.toNatClampNeg (7 * l9)))), (11, .int 0)]) C dL_areStacks_49 (by decide) rfl ?_
          refine g_iload (pc := 51) (x := r1) C dL_areStacks_51 rfl ?_
          refine g_istore (pc := 53) (lv' := [(13, .int r1), (12, .int r1), (0, .ref rG), (1, .ref ql), (2, .ref qe), (3, .ref qw), (4, .ref qh), (5, .ref qn), (6, .ref qp), (7, .int l7), (9, .int l9), (10, .int (gp (Int32.toNatClampNeg (7 * l9)))), (11, .int 0)]) C dL_areStacks_53 (by decide) rfl ?_
          refine g_iconst (pc := 55) (v := 0) C dL_areStacks_55 (by decide) ?_
          refine g_istore (pc := 56) (lv' := [(14, .int 0), (13, .int r1), (12, .int r1), (0, .ref rG), (1, .ref ql), (2, .ref qe), (3, .ref qw), (4, .ref qh), (5, .ref qn), (6, .ref qp), (7, .int l7), (9, .int l9), (10, .int (gp (Int32.toNatClampNeg (7 * l9)))), (11, .int 0)]) C dL_areStacks_56 (by decide) rfl ?_
          refine g_iconst (pc := 58) (v := (-1)) C dL_areStacks_58 (by decide) ?_
          refine g_istore (pc := 59) (lv' := [(15, .int (-1)), (14, .int 0), (13, .int r1), (12, .int r1), (0, .ref rG), (1, .ref ql), (2, .ref qe), (3, .ref qw), (4, .ref qh), (5, .ref qn), (6, .ref qp), (7, .int l7), (9, .int l9), (10, .int (gp (Int32.toNatClampNeg (7 * l9)))), (11, .int 0)]) C dL_areStacks_59 (by decide) rfl ?_
          refine g_iconst (pc := 61) (v := 1) C dL_areStacks_61 (by decide) ?_
          refine g_istore (pc := 62) (lv' := [(16, .int 1), (15, .int (-1)), (14, .int 0), (13, .int r1), (12, .int r1), (0, .ref rG), (1, .ref ql), (2, .ref qe), (3, .ref qw), (4, .ref qh), (5, .ref qn), (6, .ref qp), (7, .int l7), (9, .int l9), (10, .int (gp (Int32.toNatClampNeg (7 * l9)))), (11, .int 0)]) C dL_areStacks_62 (by decide) rfl ?_
          obtain ⟨r2, h2, hf⟩ := bd_e hf
          refine g_lv [5, 6, 7, 8, 9, 10, 11, 12, 13, 14, 15, 4, 3, 2, 1, 0] (lv' := [(0, .ref rG), (1, .ref ql), (2, .ref qe), (3, .ref qw), (4, .ref qh), (5, .ref qn), (6, .ref qp), (7, .int l7), (9, .int l9), (10, .int (gp (Int32.toNatClampNeg (7 * l9)))), (11, .int 0), (12, .int r1), (13, .int r1), (14, .int 0), (15, .int (-1)), (16, .int 1)]) rfl ?_
          refine wlL_areStacks_64 C N rG rV rN rT aS ql qe qw qh qn qp v gl ge gw gh gn gp l7 l9 (gp (Int32.toNatClampNeg (7 * l9))) N 0 r1 r1 0 (-1) 1 r2 h2 ?_
          refine g_aload_n (pc := 175) (x := rG) C dL_areStacks_175 rfl ?_
          refine g_iload (pc := 176) (x := l9) C dL_areStacks_176 rfl ?_
          refine g_iconst (pc := 178) (v := 0) C dL_areStacks_178 (by decide) ?_
          refine g_callWA (wr := wA10 (kD k) ql gl ++ (wA10 (kD k) qe ge ++ (wA10 (kD k) qw gw ++ (wA10 (kD k) qh gh ++ (wA9 (kD k) qn gn ++ (wA21 (kD k) qp gp)))))) (pc' := 182) (cs' := 0) (sl' := 0) hf C (fun u => some (.int u)) (fun u => (wG (kD k) rG (aS 0) rV rN rT ++ (wS (kD k) aS v))) ((List.Perm.refl _).trans as2) (fun u hu => gr_V (rest := []) C (cX4_stackOf_ (kL k) C.tr (kD k) N rG rV rN rT aS v l9 0 u hu) (fun ht => cwV 2 ht gL_areStacks_X4_stackOf rfl rfl rfl hdX4_stackOf ⟨(Nat.le_of_ble_eq_true rfl), (Nat.le_of_ble_eq_true rfl)⟩) 0 rfl rfl _ (rg_map _ _) (rg_nd _) rfl rfl (Nat.le_of_ble_eq_true rfl) dL_areStacks_179 ⟨(Nat.le_of_ble_eq_true rfl), (Nat.le_of_ble_eq_true rfl)⟩) (ws' := fun u => (wG (kD k) rG (aS 0) rV rN rT  ++ (wS (kD k) aS v ++ (wA10 (kD k) ql gl ++ (wA10 (kD k) qe ge ++ (wA10 (kD k) qw gw ++ (wA10 (kD k) qh gh ++ (wA9 (kD k) qn gn ++ (wA21 (kD k) qp gp))))))))) (fun u => (as2.symm.trans (List.Perm.refl _))) rfl rfl rfl (fun u => [.int u]) (fun u => rfl) (fun r3 hf => ?_)
          refine g_iload (pc := 182) (x := (gp (Int32.toNatClampNeg (7 * l9)))) C dL_areStacks_182 rfl ?_
          refine g_icmp_ne (pc := 184) (tgt := 317) (x := r3) (y := (gp (Int32.toNatClampNeg (7 * l9)))) hf C dL_areStacks_184 (by decide) (fun hf => ?_) (fun hf => ?_)
          · cases hf
          · refine g_aload_n (pc := 187) (x := rG) C dL_areStacks_187 rfl ?_
            refine g_iload (pc := 188) (x := l9) C dL_areStacks_188 rfl ?_
            refine g_iconst (pc := 190) (v := 1) C dL_areStacks_190 (by decide) ?_
            refine g_callWA (wr := wA10 (kD k) ql gl ++ (wA10 (kD k) qe ge ++ (wA10 (kD k) qw gw ++ (wA10 (kD k) qh gh ++ (wA9 (kD k) qn gn ++ (wA21 (kD k) qp gp)))))) (pc' := 194) (cs' := 0) (sl' := 0) hf C (fun u => some (.int u)) (fun u => (wG (kD k) rG (aS 0) rV rN rT ++ (wS (kD k) aS v))) ((List.Perm.refl _).trans as2) (fun u hu => gr_V (rest := []) C (cX4_stackOf_ (kL k) C.tr (kD k) N rG rV rN rT aS v l9 1 u hu) (fun ht => cwV 2 ht gL_areStacks_X4_stackOf rfl rfl rfl hdX4_stackOf ⟨(Nat.le_of_ble_eq_true rfl), (Nat.le_of_ble_eq_true rfl)⟩) 0 rfl rfl _ (rg_map _ _) (rg_nd _) rfl rfl (Nat.le_of_ble_eq_true rfl) dL_areStacks_191 ⟨(Nat.le_of_ble_eq_true rfl), (Nat.le_of_ble_eq_true rfl)⟩) (ws' := fun u => (wG (kD k) rG (aS 0) rV rN rT  ++ (wS (kD k) aS v ++ (wA10 (kD k) ql gl ++ (wA10 (kD k) qe ge ++ (wA10 (kD k) qw gw ++ (wA10 (kD k) qh gh ++ (wA9 (kD k) qn gn ++ (wA21 (kD k) qp gp))))))))) (fun u => (as2.symm.trans (List.Perm.refl _))) rfl rfl rfl (fun u => [.int u]) (fun u => rfl) (fun r4 hf => ?_)
            refine g_iload (pc := 194) (x := r2.1) C dL_areStacks_194 rfl ?_
            refine g_icmp_ne (pc := 196) (tgt := 317) (x := r4) (y := r2.1) hf C dL_areStacks_196 (by decide) (fun hf => ?_) (fun hf => ?_)
            · cases hf
            · refine g_aload_n (pc := 199) (x := rG) C dL_areStacks_199 rfl ?_
              refine g_iload (pc := 200) (x := l9) C dL_areStacks_200 rfl ?_
              refine g_iconst (pc := 202) (v := 2) C dL_areStacks_202 (by decide) ?_
              refine g_callWA (wr := wA10 (kD k) ql gl ++ (wA10 (kD k) qe ge ++ (wA10 (kD k) qw gw ++ (wA10 (kD k) qh gh ++ (wA9 (kD k) qn gn ++ (wA21 (kD k) qp gp)))))) (pc' := 206) (cs' := 0) (sl' := 0) hf C (fun u => some (.int u)) (fun u => (wG (kD k) rG (aS 0) rV rN rT ++ (wS (kD k) aS v))) ((List.Perm.refl _).trans as2) (fun u hu => gr_V (rest := []) C (cX4_stackOf_ (kL k) C.tr (kD k) N rG rV rN rT aS v l9 2 u hu) (fun ht => cwV 2 ht gL_areStacks_X4_stackOf rfl rfl rfl hdX4_stackOf ⟨(Nat.le_of_ble_eq_true rfl), (Nat.le_of_ble_eq_true rfl)⟩) 0 rfl rfl _ (rg_map _ _) (rg_nd _) rfl rfl (Nat.le_of_ble_eq_true rfl) dL_areStacks_203 ⟨(Nat.le_of_ble_eq_true rfl), (Nat.le_of_ble_eq_true rfl)⟩) (ws' := fun u => (wG (kD k) rG (aS 0) rV rN rT  ++ (wS (kD k) aS v ++ (wA10 (kD k) ql gl ++ (wA10 (kD k) qe ge ++ (wA10 (kD k) qw gw ++ (wA10 (kD k) qh gh ++ (wA9 (kD k) qn gn ++ (wA21 (kD k) qp gp))))))))) (fun u => (as2.symm.trans (List.Perm.refl _))) rfl rfl rfl (fun u => [.int u]) (fun u => rfl) (fun r5 hf => ?_)
              refine g_iload (pc := 206) (x := r2.2.1) C dL_areStacks_206 rfl ?_
              refine g_icmp_ne (pc := 208) (tgt := 317) (x := r5) (y := r2.2.1) hf C dL_areStacks_208 (by decide) (fun hf => ?_) (fun hf => ?_)
              · cases hf
              · refine g_aload_n (pc := 211) (x := rG) C dL_areStacks_211 rfl ?_
                refine g_iload (pc := 212) (x := l9) C dL_areStacks_212 rfl ?_
                refine g_iconst (pc := 214) (v := 3) C dL_areStacks_214 (by decide) ?_
                refine g_callWA (wr := wA10 (kD k) ql gl ++ (wA10 (kD k) qe ge ++ (wA10 (kD k) qw gw ++ (wA10 (kD k) qh gh ++ (wA9 (kD k) qn gn ++ (wA21 (kD k) qp gp)))))) (pc' := 218) (cs' := 0) (sl' := 0) hf C (fun u => some (.int u)) (fun u => (wG (kD k) rG (aS 0) rV rN rT ++ (wS (kD k) aS v))) ((List.Perm.refl _).trans as2) (fun u hu => gr_V (rest := []) C (cX4_stackOf_ (kL k) C.tr (kD k) N rG rV rN rT aS v l9 3 u hu) (fun ht => cwV 2 ht gL_areStacks_X4_stackOf rfl rfl rfl hdX4_stackOf ⟨(Nat.le_of_ble_eq_true rfl), (Nat.le_of_ble_eq_true rfl)⟩) 0 rfl rfl _ (rg_map _ _) (rg_nd _) rfl rfl (Nat.le_of_ble_eq_true rfl) dL_areStacks_215 ⟨(Nat.le_of_ble_eq_true rfl), (Nat.le_of_ble_eq_true rfl)⟩) (ws' := fun u => (wG (kD k) rG (aS 0) rV rN rT  ++ (wS (kD k) aS v ++ (wA10 (kD k) ql gl ++ (wA10 (kD k) qe ge ++ (wA10 (kD k) qw gw ++ (wA10 (kD k) qh gh ++ (wA9 (kD k) qn gn ++ (wA21 (kD k) qp gp))))))))) (fun u => (as2.symm.trans (List.Perm.refl _))) rfl rfl rfl (fun u => [.int u]) (fun u => rfl) (fun r6 hf => ?_)
                refine g_iload (pc := 218) (x := r2.2.2.2.1) C dL_areStacks_218 rfl ?_
                refine g_icmp_ne (pc := 220) (tgt := 317) (x := r6) (y := r2.2.2.2.1) hf C dL_areStacks_220 (by decide) (fun hf => ?_) (fun hf => ?_)
                · cases hf
                · refine g_aload_n (pc := 223) (x := rG) C dL_areStacks_223 rfl ?_
                  refine g_iload (pc := 224) (x := l9) C dL_areStacks_224 rfl ?_
                  refine g_iconst (pc := 226) (v := 4) C dL_areStacks_226 (by decide) ?_
                  refine g_callWA (wr := wA10 (kD k) ql gl ++ (wA10 (kD k) qe ge ++ (wA10 (kD k) qw gw ++ (wA10 (kD k) qh gh ++ (wA9 (kD k) qn gn ++ (wA21 (kD k) qp gp)))))) (pc' := 230) (cs' := 0) (sl' := 0) hf C (fun u => some (.int u)) (fun u => (wG (kD k) rG (aS 0) rV rN rT ++ (wS (kD k) aS v))) ((List.Perm.refl _).trans as2) (fun u hu => gr_V (rest := []) C (cX4_stackOf_ (kL k) C.tr (kD k) N rG rV rN rT aS v l9 4 u hu) (fun ht => cwV 2 ht gL_areStacks_X4_stackOf rfl rfl rfl hdX4_stackOf ⟨(Nat.le_of_ble_eq_true rfl), (Nat.le_of_ble_eq_true rfl)⟩) 0 rfl rfl _ (rg_map _ _) (rg_nd _) rfl rfl (Nat.le_of_ble_eq_true rfl) dL_areStacks_227 ⟨(Nat.le_of_ble_eq_true rfl), (Nat.le_of_ble_eq_true rfl)⟩) (ws' := fun u => (wG (kD k) rG (aS 0) rV rN rT  ++ (wS (kD k) aS v ++ (wA10 (kD k) ql gl ++ (wA10 (kD k) qe ge ++ (wA10 (kD k) qw gw ++ (wA10 (kD k) qh gh ++ (wA9 (kD k) qn gn ++ (wA21 (kD k) qp gp))))))))) (fun u => (as2.symm.trans (List.Perm.refl _))) rfl rfl rfl (fun u => [.int u]) (fun u => rfl) (fun r7 hf => ?_)
                  refine g_iload (pc := 230) (x := (gp (Int32.toNatClampNeg (7 * l9)))) C dL_areStacks_230 rfl ?_
                  refine g_join (Q := fun (u : Int32) => gG k (wG (kD k) rG (aS 0) rV rN rT  ++ (wS (kD k) aS v ++ (wA10 (kD k) ql gl ++ (wA10 (kD k) qe ge ++ (wA10 (kD k) qw gw ++ (wA10 (kD k) qh gh ++ (wA9 (kD k) qn gn ++ (wA21 (kD k) qp gp)))))))) [(0, .ref rG), (1, .ref ql), (2, .ref qe), (3, .ref qw), (4, .ref qh), (5, .ref qn), (6, .ref qp), (7, .int l7), (9, .int l9), (11, .int r2.1), (12, .int r2.2.1), (13, .int r2.2.2.1), (15, .int r2.2.2.2.2)] 0 0 250 [.int u, .int r7]) hf (fun r8 hf => ?_) (fun r8 hf K8 => ?_)
                  · refine g_icmp_ne (pc := 250) (tgt := 317) (x := r7) (y := r8) hf C dL_areStacks_250 (by decide) (fun hf => ?_) (fun hf => ?_)
                    · cases hf
                    · refine g_aload_n (pc := 253) (x := rG) C dL_areStacks_253 rfl ?_
                      refine g_iload (pc := 254) (x := l9) C dL_areStacks_254 rfl ?_
                      refine g_iconst (pc := 256) (v := 5) C dL_areStacks_256 (by decide) ?_
                      refine g_callWA (wr := wA10 (kD k) ql gl ++ (wA10 (kD k) qe ge ++ (wA10 (kD k) qw gw ++ (wA10 (kD k) qh gh ++ (wA9 (kD k) qn gn ++ (wA21 (kD k) qp gp)))))) (pc' := 260) (cs' := 0) (sl' := 0) hf C (fun u => some (.int u)) (fun u => (wG (kD k) rG (aS 0) rV rN rT ++ (wS (kD k) aS v))) ((List.Perm.refl _).trans as2) (fun u hu => gr_V (rest := []) C (cX4_stackOf_ (kL k) C.tr (kD k) N rG rV rN rT aS v l9 5 u hu) (fun ht => cwV 2 ht gL_areStacks_X4_stackOf rfl rfl rfl hdX4_stackOf ⟨(Nat.le_of_ble_eq_true rfl), (Nat.le_of_ble_eq_true rfl)⟩) 0 rfl rfl _ (rg_map _ _) (rg_nd _) rfl rfl (Nat.le_of_ble_eq_true rfl) dL_areStacks_257 ⟨(Nat.le_of_ble_eq_true rfl), (Nat.le_of_ble_eq_true rfl)⟩) (ws' := fun u => (wG (kD k) rG (aS 0) rV rN rT  ++ (wS (kD k) aS v ++ (wA10 (kD k) ql gl ++ (wA10 (kD k) qe ge ++ (wA10 (kD k) qw gw ++ (wA10 (kD k) qh gh ++ (wA9 (kD k) qn gn ++ (wA21 (kD k) qp gp))))))))) (fun u => (as2.symm.trans (List.Perm.refl _))) rfl rfl rfl (fun u => [.int u]) (fun u => rfl) (fun r9 hf => ?_)
                      refine g_iload (pc := 260) (x := r2.2.2.2.2) C dL_areStacks_260 rfl ?_
                      refine g_icmp_ne (pc := 262) (tgt := 317) (x := r9) (y := r2.2.2.2.2) hf C dL_areStacks_262 (by decide) (fun hf => ?_) (fun hf => ?_)
                      · cases hf
                      · refine g_aload_n (pc := 265) (x := rG) C dL_areStacks_265 rfl ?_
                        refine g_iload (pc := 266) (x := l9) C dL_areStacks_266 rfl ?_
                        refine g_bipush (pc := 268) (v := 6) C dL_areStacks_268 (by decide) ?_
                        refine g_callWA (wr := wA10 (kD k) ql gl ++ (wA10 (kD k) qe ge ++ (wA10 (kD k) qw gw ++ (wA10 (kD k) qh gh ++ (wA9 (kD k) qn gn ++ (wA21 (kD k) qp gp)))))) (pc' := 273) (cs' := 0) (sl' := 0) hf C (fun u => some (.int u)) (fun u => (wG (kD k) rG (aS 0) rV rN rT ++ (wS (kD k) aS v))) ((List.Perm.refl _).trans as2) (fun u hu => gr_V (rest := []) C (cX4_stackOf_ (kL k) C.tr (kD k) N rG rV rN rT aS v l9 6 u hu) (fun ht => cwV 2 ht gL_areStacks_X4_stackOf rfl rfl rfl hdX4_stackOf ⟨(Nat.le_of_ble_eq_true rfl), (Nat.le_of_ble_eq_true rfl)⟩) 0 rfl rfl _ (rg_map _ _) (rg_nd _) rfl rfl (Nat.le_of_ble_eq_true rfl) dL_areStacks_270 ⟨(Nat.le_of_ble_eq_true rfl), (Nat.le_of_ble_eq_true rfl)⟩) (ws' := fun u => (wG (kD k) rG (aS 0) rV rN rT  ++ (wS (kD k) aS v ++ (wA10 (kD k) ql gl ++ (wA10 (kD k) qe ge ++ (wA10 (kD k) qw gw ++ (wA10 (kD k) qh gh ++ (wA9 (kD k) qn gn ++ (wA21 (kD k) qp gp))))))))) (fun u => (as2.symm.trans (List.Perm.refl _))) rfl rfl rfl (fun u => [.int u]) (fun u => rfl) (fun r10 hf => ?_)
                        refine g_iload (pc := 273) (x := r2.2.1) C dL_areStacks_273 rfl ?_
                        refine g_sipush (pc := 275) (v := 1000) C dL_areStacks_275 (by decide) ?_
                        refine g_iload (pc := 278) (x := r2.1) C dL_areStacks_278 rfl ?_
                        refine g_imul (pc := 280) (x := 1000) (y := r2.1) C dL_areStacks_280 ?_
                        refine g_isub (pc := 281) (x := r2.2.1) (y := (1000 * r2.1)) C dL_areStacks_281 ?_
                        refine g_callR (pc' := 285) (cs' := 0) (sl' := 0) hf C (fun u => some (.int u)) (fun u hu => gr_S (rest := [.int r10]) C (cL_size_ (kL k) C.tr (kD k) N (r2.2.1 - (1000 * r2.1)) u hu) (fun ht => va_cwS 1 ht gL_areStacks_L_size rfl rfl rfl hsL_size ⟨(Nat.le_of_ble_eq_true rfl), (Nat.le_of_ble_eq_true rfl)⟩) [] rfl (by decide) rfl rfl (Nat.le_of_ble_eq_true rfl) dL_areStacks_282 ⟨(Nat.le_of_ble_eq_true rfl), (Nat.le_of_ble_eq_true rfl)⟩) [] rfl rfl rfl rfl (fun u => [.int u, .int r10]) (fun u => rfl) (fun r11 hf => ?_)
                        refine g_icmp_ne (pc := 285) (tgt := 317) (x := r10) (y := r11) hf C dL_areStacks_285 (by decide) (fun hf => ?_) (fun hf => ?_)
                        · cases hf
                        · refine g_aload_n (pc := 288) (x := rG) C dL_areStacks_288 rfl ?_
                          refine g_iload (pc := 289) (x := l9) C dL_areStacks_289 rfl ?_
                          refine g_iload (pc := 291) (x := l7) C dL_areStacks_291 rfl ?_
                          refine g_callWA (wr := wA10 (kD k) ql gl ++ (wA10 (kD k) qe ge ++ (wA10 (kD k) qw gw ++ (wA10 (kD k) qh gh ++ (wA9 (kD k) qn gn ++ (wA21 (kD k) qp gp)))))) (pc' := 296) (cs' := 0) (sl' := 0) hf C (fun u => some (.int u)) (fun u => (wG (kD k) rG (aS 0) rV rN rT ++ (wS (kD k) aS v))) ((List.Perm.refl _).trans as2) (fun u hu => gr_V (rest := []) C (cX4_lengthIn_ (kL k) C.tr (kD k) N rG rV rN rT aS v l9 l7 u hu) (fun ht => cwV 2 ht gL_areStacks_X4_lengthIn rfl rfl rfl hdX4_lengthIn ⟨(Nat.le_of_ble_eq_true rfl), (Nat.le_of_ble_eq_true rfl)⟩) 0 rfl rfl _ (rg_map _ _) (rg_nd _) rfl rfl (Nat.le_of_ble_eq_true rfl) dL_areStacks_293 ⟨(Nat.le_of_ble_eq_true rfl), (Nat.le_of_ble_eq_true rfl)⟩) (ws' := fun u => (wG (kD k) rG (aS 0) rV rN rT  ++ (wS (kD k) aS v ++ (wA10 (kD k) ql gl ++ (wA10 (kD k) qe ge ++ (wA10 (kD k) qw gw ++ (wA10 (kD k) qh gh ++ (wA9 (kD k) qn gn ++ (wA21 (kD k) qp gp))))))))) (fun u => (as2.symm.trans (List.Perm.refl _))) rfl rfl rfl (fun u => [.int u]) (fun u => rfl) (fun r12 hf => ?_)
                          refine g_iload (pc := 296) (x := r2.2.2.1) C dL_areStacks_296 rfl ?_
                          refine g_icmp_ne (pc := 298) (tgt := 317) (x := r12) (y := r2.2.2.1) hf C dL_areStacks_298 (by decide) (fun hf => ?_) (fun hf => ?_)
                          · cases hf
                          · refine g_aload_n (pc := 301) (x := rG) C dL_areStacks_301 rfl ?_
                            refine g_iload (pc := 302) (x := l9) C dL_areStacks_302 rfl ?_
                            refine g_iconst (pc := 304) (v := 0) C dL_areStacks_304 (by decide) ?_
                            refine g_callWA (wr := wA10 (kD k) ql gl ++ (wA10 (kD k) qe ge ++ (wA10 (kD k) qw gw ++ (wA10 (kD k) qh gh ++ (wA9 (kD k) qn gn ++ (wA21 (kD k) qp gp)))))) (pc' := 308) (cs' := 0) (sl' := 0) hf C (fun u => some (.int u)) (fun u => (wG (kD k) rG (aS 0) rV rN rT ++ (wS (kD k) aS v))) ((List.Perm.refl _).trans as2) (fun u hu => gr_V (rest := []) C (cX4_lengthIn_ (kL k) C.tr (kD k) N rG rV rN rT aS v l9 0 u hu) (fun ht => cwV 2 ht gL_areStacks_X4_lengthIn rfl rfl rfl hdX4_lengthIn ⟨(Nat.le_of_ble_eq_true rfl), (Nat.le_of_ble_eq_true rfl)⟩) 0 rfl rfl _ (rg_map _ _) (rg_nd _) rfl rfl (Nat.le_of_ble_eq_true rfl) dL_areStacks_305 ⟨(Nat.le_of_ble_eq_true rfl), (Nat.le_of_ble_eq_true rfl)⟩) (ws' := fun u => (wG (kD k) rG (aS 0) rV rN rT  ++ (wS (kD k) aS v ++ (wA10 (kD k) ql gl ++ (wA10 (kD k) qe ge ++ (wA10 (kD k) qw gw ++ (wA10 (kD k) qh gh ++ (wA9 (kD k) qn gn ++ (wA21 (kD k) qp gp))))))))) (fun u => (as2.symm.trans (List.Perm.refl _))) rfl rfl rfl (fun u => [.int u]) (fun u => rfl) (fun r13 hf => ?_)
                            refine g_iload (pc := 308) (x := r2.2.1) C dL_areStacks_308 rfl ?_
                            refine g_icmp_ne (pc := 310) (tgt := 317) (x := r13) (y := r2.2.1) hf C dL_areStacks_310 (by decide) (fun hf => ?_) (fun hf => ?_)
                            · cases hf
                            · refine g_iconst (pc := 313) (v := 1) C dL_areStacks_313 (by decide) ?_
                              refine g_goto (pc := 314) (tgt := 318) C dL_areStacks_314 (by decide) ?_
                              refine g_istore (pc := 318) (lv' := [(8, .int 1), (0, .ref rG), (1, .ref ql), (2, .ref qe), (3, .ref qw), (4, .ref qh), (5, .ref qn), (6, .ref qp), (7, .int l7), (9, .int l9), (11, .int r2.1), (12, .int r2.2.1), (13, .int r2.2.2.1), (15, .int r2.2.2.2.2)]) C dL_areStacks_318 (by decide) rfl ?_
                              refine g_iinc (pc := 320) (x := l9) (v := (l9 + 1)) (lv' := [(9, .int (l9 + 1)), (8, .int 1), (0, .ref rG), (1, .ref ql), (2, .ref qe), (3, .ref qw), (4, .ref qh), (5, .ref qn), (6, .ref qp), (7, .int l7), (11, .int r2.1), (12, .int r2.2.1), (13, .int r2.2.2.1), (15, .int r2.2.2.2.2)]) C dL_areStacks_320 rfl rfl (by decide) rfl ?_
                              refine g_goto (pc := 323) (tgt := 6) C dL_areStacks_323 (by decide) ?_
                              refine g_lv [2, 3, 4, 5, 6, 7, 8, 9, 1, 0] (lv' := [(0, .ref rG), (1, .ref ql), (2, .ref qe), (3, .ref qw), (4, .ref qh), (5, .ref qn), (6, .ref qp), (7, .int l7), (8, .int 1), (9, .int (l9 + 1))]) rfl ?_
                              exact ih 1 (l9 + 1) u hf hk0
                  · refine g_if_ne (pc := 232) (tgt := 239) (x := (gp (Int32.toNatClampNeg (7 * l9)))) hf C dL_areStacks_232 (by decide) (fun hf => ?_) (fun hf => ?_)
                    · refine g_aload (pc := 239) (x := qp) C dL_areStacks_239 rfl ?_
                      refine g_bipush (pc := 241) (v := 7) C dL_areStacks_241 (by decide) ?_
                      refine g_iload (pc := 243) (x := l9) C dL_areStacks_243 rfl ?_
                      refine g_imul (pc := 245) (x := 7) (y := l9) C dL_areStacks_245 ?_
                      refine g_iload (pc := 246) (x := (gp (Int32.toNatClampNeg (7 * l9)))) C dL_areStacks_246 rfl ?_
                      refine g_iadd (pc := 248) (x := (7 * l9)) (y := (gp (Int32.toNatClampNeg (7 * l9)))) C dL_areStacks_248 ?_
                      refine g_iald (pc := 249) (i := ((7 * l9) + (gp (Int32.toNatClampNeg (7 * l9))))) hf C 15 rfl dL_areStacks_249 (fun hf => ?_)
                      obtain rfl := Option.some.inj hf
                      refine g_lv [0, 1, 2, 3, 4, 5, 6, 7, 8, 10, 11, 12, 14] (lv' := [(0, .ref rG), (1, .ref ql), (2, .ref qe), (3, .ref qw), (4, .ref qh), (5, .ref qn), (6, .ref qp), (7, .int l7), (9, .int l9), (11, .int r2.1), (12, .int r2.2.1), (13, .int r2.2.2.1), (15, .int r2.2.2.2.2)]) rfl ?_
                      exact K8
                    · refine g_iconst (pc := 235) (v := (-1)) C dL_areStacks_235 (by decide) ?_
                      refine g_goto (pc := 236) (tgt := 250) C dL_areStacks_236 (by decide) ?_
                      obtain rfl := Option.some.inj hf
                      refine g_lv [0, 1, 2, 3, 4, 5, 6, 7, 8, 10, 11, 12, 14] (lv' := [(0, .ref rG), (1, .ref ql), (2, .ref qe), (3, .ref qw), (4, .ref qh), (5, .ref qn), (6, .ref qp), (7, .int l7), (9, .int l9), (11, .int r2.1), (12, .int r2.2.1), (13, .int r2.2.2.1), (15, .int r2.2.2.2.2)]) rfl ?_
                      exact K8
        · refine g_icmp_le (pc := 33) (tgt := 48) (x := (gp (Int32.toNatClampNeg (7 * l9)))) (y := 1) hf C dL_areStacks_33 (by decide) (fun hf => ?_) (fun hf => ?_)
          · refine g_iconst (pc := 48) (v := 0) C dL_areStacks_48 (by decide) ?_
            obtain rfl := Option.some.inj hf
            refine g_lv [2, 3, 4, 5, 6, 7, 8, 9, 11, 1, 0] (lv' := [(0, .ref rG), (1, .ref ql), (2, .ref qe), (3, .ref qw), (4, .ref qh), (5, .ref qn), (6, .ref qp), (7, .int l7), (9, .int l9), (10, .int (gp (Int32.toNatClampNeg (7 * l9)))), (11, .int 0)]) rfl ?_
            exact K1
          · refine g_iload (pc := 36) (x := (gp (Int32.toNatClampNeg (7 * l9)))) C dL_areStacks_36 rfl ?_
            refine g_iconst (pc := 38) (v := 1) C dL_areStacks_38 (by decide) ?_
            refine g_isub (pc := 39) (x := (gp (Int32.toNatClampNeg (7 * l9)))) (y := 1) C dL_areStacks_39 ?_
            refine g_aload (pc := 40) (x := qn) C dL_areStacks_40 rfl ?_
            refine g_iconst (pc := 42) (v := 0) C dL_areStacks_42 (by decide) ?_
            refine g_iald (pc := 43) (i := 0) hf C 14 rfl dL_areStacks_43 (fun hf => ?_)
            refine g_imul (pc := 44) (x := ((gp (Int32.toNatClampNeg (7 * l9))) - 1)) (y := (gn (Int32.toNatClampNeg 0))) C dL_areStacks_44 ?_
            refine g_goto (pc := 45) (tgt := 49) C dL_areStacks_45 (by decide) ?_
            obtain rfl := Option.some.inj hf
            refine g_lv [2, 3, 4, 5, 6, 7, 8, 9, 11, 1, 0] (lv' := [(0, .ref rG), (1, .ref ql), (2, .ref qe), (3, .ref qw), (4, .ref qh), (5, .ref qn), (6, .ref qp), (7, .int l7), (9, .int l9), (10, .int (gp (Int32.toNatClampNeg (7 * l9)))), (11, .int 0)]) rfl ?_
            exact K1
def fL_areStacks (N : Nat) (v : VS) (gl : (Nat → Int32)) (ge : (Nat → Int32)) (gw : (Nat → Int32)) (gh : (Nat → Int32)) (gn : (Nat → Int32)) (gp : (Nat → Int32)) (p7 : Int32) : Option (Bool) := ((lL_areStacks_6 N v gl ge gw gh gn gp p7 N 1 0).bind fun r1 => (if r1 = (1 : Int32) then some true else none))
set_option maxRecDepth 100000 in
set_option maxHeartbeats 4000000 in
theorem wkL_areStacks {k : Kt} (C : gC k cL_areStacks 18 RL wsL_areStacks rmL_areStacks "areStacks") (N : Nat) (rG : Nat) (rV : Nat) (rN : Nat) (rT : Nat) (aS : Nat → Nat) (ql : Nat) (qe : Nat) (qw : Nat) (qh : Nat) (qn : Nat) (qp : Nat) (v : VS) (gl : (Nat → Int32)) (ge : (Nat → Int32)) (gw : (Nat → Int32)) (gh : (Nat → Int32)) (gn : (Nat → Int32)) (gp : (Nat → Int32)) (p7 : Int32) (r : Bool) (hf : fL_areStacks N v gl ge gw gh gn gp p7 = some r) (E : gE k (wG (kD k) rG (aS 0) rV rN rT ++ (wS (kD k) aS v ++ (wA10 (kD k) ql gl ++ (wA10 (kD k) qe ge ++ (wA10 (kD k) qw gw ++ (wA10 (kD k) qh gh ++ (wA9 (kD k) qn gn ++ (wA21 (kD k) qp gp)))))))) (fun rv w => rv = some (.int (b2i r)) ∧ w = (wG (kD k) rG (aS 0) rV rN rT ++ (wS (kD k) aS v ++ (wA10 (kD k) ql gl ++ (wA10 (kD k) qe ge ++ (wA10 (kD k) qw gw ++ (wA10 (kD k) qh gh ++ (wA9 (kD k) qn gn ++ (wA21 (kD k) qp gp))))))))) (fun _ _ => False) 0 0 (some .boolean) []) : gG k (wG (kD k) rG (aS 0) rV rN rT ++ (wS (kD k) aS v ++ (wA10 (kD k) ql gl ++ (wA10 (kD k) qe ge ++ (wA10 (kD k) qw gw ++ (wA10 (kD k) qh gh ++ (wA9 (kD k) qn gn ++ (wA21 (kD k) qp gp)))))))) [(0, .ref rG), (1, .ref ql), (2, .ref qe), (3, .ref qw), (4, .ref qh), (5, .ref qn), (6, .ref qp), (7, .int p7)] 0 0 0 [] := by
  unfold fL_areStacks at hf
  refine g_iconst (pc := 0) (v := 1) C dL_areStacks_0 (by decide) ?_
  refine g_istore (pc := 1) (lv' := [(8, .int 1), (0, .ref rG), (1, .ref ql), (2, .ref qe), (3, .ref qw), (4, .ref qh), (5, .ref qn), (6, .ref qp), (7, .int p7)]) C dL_areStacks_1 (by decide) rfl ?_
  refine g_iconst (pc := 3) (v := 0) C dL_areStacks_3 (by decide) ?_
  refine g_istore (pc := 4) (lv' := [(9, .int 0), (8, .int 1), (0, .ref rG), (1, .ref ql), (2, .ref qe), (3, .ref qw), (4, .ref qh), (5, .ref qn), (6, .ref qp), (7, .int p7)]) C dL_areStacks_4 (by decide) rfl ?_
  obtain ⟨r1, h1, hf⟩ := bd_e hf
  refine g_lv [2, 3, 4, 5, 6, 7, 8, 9, 1, 0] (lv' := [(0, .ref rG), (1, .ref ql), (2, .ref qe), (3, .ref qw), (4, .ref qh), (5, .ref qn), (6, .ref qp), (7, .int p7), (8, .int 1), (9, .int 0)]) rfl ?_
  refine wlL_areStacks_6 C N rG rV rN rT aS ql qe qw qh qn qp v gl ge gw gh gn gp p7 N 1 0 r1 h1 ?_
  refine g_iload (pc := 326) (x := r1) C dL_areStacks_326 rfl ?_
  refine g_is1 hf (fun e hf => ?_)
  rw [e]
  obtain rfl := Option.some.inj hf
  exact g_bret (b := true) C E dL_areStacks_328 (Nat.le_of_ble_eq_true rfl) (Nat.le_of_ble_eq_true rfl) ⟨rfl, rfl⟩
set_option maxRecDepth 100000 in
set_option maxHeartbeats 4000000 in
theorem cL_areStacks_ (l : Launch) (htr : l.stackTraces = false) (D : va_G) (N : Nat) (rG : Nat) (rV : Nat) (rN : Nat) (rT : Nat) (aS : Nat → Nat) (ql : Nat) (qe : Nat) (qw : Nat) (qh : Nat) (qn : Nat) (qp : Nat) (v : VS) (gl : (Nat → Int32)) (ge : (Nat → Int32)) (gw : (Nat → Int32)) (gh : (Nat → Int32)) (gn : (Nat → Int32)) (gp : (Nat → Int32)) (p7 : Int32) (r : Bool) (hf : fL_areStacks N v gl ge gw gh gn gp p7 = some r) : Tc l D yL_areStacks wsL_areStacks rmL_areStacks [.ref rG, .ref ql, .ref qe, .ref qw, .ref qh, .ref qn, .ref qp, .int p7] (wG D rG (aS 0) rV rN rT ++ (wS D aS v ++ (wA10 D ql gl ++ (wA10 D qe ge ++ (wA10 D qw gw ++ (wA10 D qh gh ++ (wA9 D qn gn ++ (wA21 D qp gp)))))))) (fun rv w => rv = some (.int (b2i r)) ∧ w = (wG D rG (aS 0) rV rN rT ++ (wS D aS v ++ (wA10 D ql gl ++ (wA10 D qe ge ++ (wA10 D qw gw ++ (wA10 D qh gh ++ (wA9 D qn gn ++ (wA21 D qp gp))))))))) (fun _ _ => False) 0 0 := Tc_of htr (by decide +kernel) rfl (Nat.le_of_ble_eq_true rfl) (fun k C E hl hD => by subst hD; exact wkL_areStacks C N rG rV rN rT aS ql qe qw qh qn qp v gl ge gw gh gn gp p7 r hf E)
abbrev rmL_areRanked : Room := { frames := 6, cells := 0, slots := 0, locals := 134 }
theorem kcL_areRanked_77 : Jvm.Cond.constant RL 77 2000000 ∈ wsL_areRanked := by decide +kernel
theorem kcL_areRanked_76 : Jvm.Cond.constant RL 76 1000000 ∈ wsL_areRanked := by decide +kernel
theorem hsL_areRanked : yL_areRanked.cls ≠ "java/lang/invoke/MethodHandle" ∧ yL_areRanked.cls ≠ "java/lang/invoke/VarHandle" ∧ (parseMethodDescriptor yL_areRanked.desc).map (fun d => d.parameters.length) = some 8 := by decide +kernel
def lL_areRanked_32 (N : Nat) (v : VS) (gl : (Nat → Int32)) (ge : (Nat → Int32)) (gw : (Nat → Int32)) (gh : (Nat → Int32)) (gn : (Nat → Int32)) (gp : (Nat → Int32)) (l7 : Int32) : Nat → Int32 → Int32 → Int32 → Int32 → Option ((Int32))
  | 0, _, _, _, _ => none
  | n + 1, l8, l9, l10, l11 => ck 8 9 ((if (gn (Int32.toNatClampNeg 8)) ≤ l11 then some l10 else (if l10 = (0 : Int32) then none else ((fX4_ranked N v l7 l11).bind fun r1 => (if r1 < (0 : Int32) then none else ck 8 9 ((if (gn (Int32.toNatClampNeg 8)) ≤ r1 then none else ((fL_key N gl ge gw gh l7 r1).bind fun r2 => (((if r2 < l8 then some () else ((fL_key N gl ge gw gh l7 r1).bind fun r4 => (if r4 = l8 then (if r1 ≤ l9 then none else some ()) else none))) : Option (Unit)).bind fun r3 => ((fL_key N gl ge gw gh l7 r1).bind fun r5 => (lL_areRanked_32 N v gl ge gw gh gn gp l7 n r5 r1 1 (l11 + 1))))))))))))
set_option maxRecDepth 100000 in
set_option maxHeartbeats 4000000 in
theorem wlL_areRanked_32 {k : Kt} (C : gC k cL_areRanked 17 RL wsL_areRanked rmL_areRanked "areRanked") (N : Nat) (rG : Nat) (rV : Nat) (rN : Nat) (rT : Nat) (aS : Nat → Nat) (ql : Nat) (qe : Nat) (qw : Nat) (qh : Nat) (qn : Nat) (qp : Nat) (v : VS) (gl : (Nat → Int32)) (ge : (Nat → Int32)) (gw : (Nat → Int32)) (gh : (Nat → Int32)) (gn : (Nat → Int32)) (gp : (Nat → Int32)) (l7 : Int32) : ∀ (n : Nat) (l8 : Int32) (l9 : Int32) (l10 : Int32) (l11 : Int32) (u : (Int32)) (hf : lL_areRanked_32 N v gl ge gw gh gn gp l7 n l8 l9 l10 l11 = some u) (hk0 : gG k (wG (kD k) rG (aS 0) rV rN rT ++ (wS (kD k) aS v ++ (wA10 (kD k) ql gl ++ (wA10 (kD k) qe ge ++ (wA10 (kD k) qw gw ++ (wA10 (kD k) qh gh ++ (wA9 (kD k) qn gn ++ (wA21 (kD k) qp gp)))))))) [(0, .ref rG), (1, .ref ql), (5, .ref qn), (6, .ref qp), (10, .int u)] 0 0 153 []), gG k (wG (kD k) rG (aS 0) rV rN rT ++ (wS (kD k) aS v ++ (wA10 (kD k) ql gl ++ (wA10 (kD k) qe ge ++ (wA10 (kD k) qw gw ++ (wA10 (kD k) qh gh ++ (wA9 (kD k) qn gn ++ (wA21 (kD k) qp gp)))))))) [(0, .ref rG), (1, .ref ql), (2, .ref qe), (3, .ref qw), (4, .ref qh), (5, .ref qn), (6, .ref qp), (7, .int l7), (8, .int l8), (9, .int l9), (10, .int l10), (11, .int l11)] 0 0 32 [] := by
  intro n
  induction n with
  | zero => intro l8 l9 l10 l11 u hf hk0; rw [lL_areRanked_32] at hf; cases hf
  | succ n ih =>
    intro l8 l9 l10 l11 u hf hk0
    rw [lL_areRanked_32] at hf
    refine g_iload (pc := 32) (x := l11) C dL_areRanked_32 rfl ?_
    refine g_aload (pc := 34) (x := qn) C dL_areRanked_34 rfl ?_
    refine g_bipush (pc := 36) (v := 8) C dL_areRanked_36 (by decide) ?_
    refine g_iald (pc := 38) (i := 8) hf C 14 rfl dL_areRanked_38 (fun hf => ?_)
    refine g_icmp_ge (pc := 39) (tgt := 153) (x := l11) (y := (gn (Int32.toNatClampNeg 8))) hf C dL_areRanked_39 (by decide) (fun hf => ?_) (fun hf => ?_)
    · obtain rfl := Option.some.inj hf
      refine g_lv [0, 1, 5, 6, 10] (lv' := [(0, .ref rG), (1, .ref ql), (5, .ref qn), (6, .ref qp), (10, .int l10)]) rfl ?_
      exact hk0
    · refine g_iload (pc := 42) (x := l10) C dL_areRanked_42 rfl ?_
      refine g_if_eq (pc := 44) (tgt := 153) (x := l10) hf C dL_areRanked_44 (by decide) (fun hf => ?_) (fun hf => ?_)
      · cases hf
      · refine g_aload_n (pc := 47) (x := rG) C dL_areRanked_47 rfl ?_
        refine g_iload (pc := 48) (x := l7) C dL_areRanked_48 rfl ?_
        refine g_iload (pc := 50) (x := l11) C dL_areRanked_50 rfl ?_
        refine g_callWA (wr := wA10 (kD k) ql gl ++ (wA10 (kD k) qe ge ++ (wA10 (kD k) qw gw ++ (wA10 (kD k) qh gh ++ (wA9 (kD k) qn gn ++ (wA21 (kD k) qp gp)))))) (pc' := 55) (cs' := 0) (sl' := 0) hf C (fun u => some (.int u)) (fun u => (wG (kD k) rG (aS 0) rV rN rT ++ (wS (kD k) aS v))) ((List.Perm.refl _).trans as2) (fun u hu => gr_V (rest := []) C (cX4_ranked_ (kL k) C.tr (kD k) N rG rV rN rT aS v l7 l11 u hu) (fun ht => cwV 2 ht gL_areRanked_X4_ranked rfl rfl rfl hdX4_ranked ⟨(Nat.le_of_ble_eq_true rfl), (Nat.le_of_ble_eq_true rfl)⟩) 0 rfl rfl _ (rg_map _ _) (rg_nd _) rfl rfl (Nat.le_of_ble_eq_true rfl) dL_areRanked_52 ⟨(Nat.le_of_ble_eq_true rfl), (Nat.le_of_ble_eq_true rfl)⟩) (ws' := fun u => (wG (kD k) rG (aS 0) rV rN rT  ++ (wS (kD k) aS v ++ (wA10 (kD k) ql gl ++ (wA10 (kD k) qe ge ++ (wA10 (kD k) qw gw ++ (wA10 (kD k) qh gh ++ (wA9 (kD k) qn gn ++ (wA21 (kD k) qp gp))))))))) (fun u => (as2.symm.trans (List.Perm.refl _))) rfl rfl rfl (fun u => [.int u]) (fun u => rfl) (fun r1 hf => ?_)
        refine g_istore (pc := 55) (lv' := [(12, .int r1), (0, .ref rG), (1, .ref ql), (2, .ref qe), (3, .ref qw), (4, .ref qh), (5, .ref qn), (6, .ref qp), (7, .int l7), (8, .int l8), (9, .int l9), (10, .int l10), (11, .int l11)]) C dL_areRanked_55 (by decide) rfl ?_
        refine g_iload (pc := 57) (x := r1) C dL_areRanked_57 rfl ?_
        refine g_if_lt (pc := 59) (tgt := 117) (x := r1) hf C dL_areRanked_59 (by decide) (fun hf => ?_) (fun hf => ?_)
        · cases hf
        · refine g_iload (pc := 62) (x := r1) C dL_areRanked_62 rfl ?_
          refine g_aload (pc := 64) (x := qn) C dL_areRanked_64 rfl ?_
          refine g_bipush (pc := 66) (v := 8) C dL_areRanked_66 (by decide) ?_
          refine g_iald (pc := 68) (i := 8) hf C 14 rfl dL_areRanked_68 (fun hf => ?_)
          refine g_icmp_ge (pc := 69) (tgt := 117) (x := r1) (y := (gn (Int32.toNatClampNeg 8))) hf C dL_areRanked_69 (by decide) (fun hf => ?_) (fun hf => ?_)
          · cases hf
          · refine g_aload_n (pc := 72) (x := ql) C dL_areRanked_72 rfl ?_
            refine g_aload_n (pc := 73) (x := qe) C dL_areRanked_73 rfl ?_
            refine g_aload_n (pc := 74) (x := qw) C dL_areRanked_74 rfl ?_
            refine g_aload (pc := 75) (x := qh) C dL_areRanked_75 rfl ?_
            refine g_iload (pc := 77) (x := l7) C dL_areRanked_77 rfl ?_
            refine g_iload (pc := 79) (x := r1) C dL_areRanked_79 rfl ?_
            refine g_callWA (wr := wG (kD k) rG (aS 0) rV rN rT  ++ (wS (kD k) aS v ++ (wA9 (kD k) qn gn ++ (wA21 (kD k) qp gp)))) (pc' := 84) (cs' := 0) (sl' := 0) hf C (fun u => some (.int u)) (fun u => (wA10 (kD k) ql gl ++ (wA10 (kD k) qe ge ++ (wA10 (kD k) qw gw ++ (wA10 (kD k) qh gh))))) (((pm0 (pm0 (List.Perm.refl _))).trans (pmc ((pm0 (pm0 (List.Perm.refl _))).trans (pmc ((pm0 (pm0 (List.Perm.refl _))).trans (pmc (pm0 (pm0 (List.Perm.refl _))))))))).trans as4) (fun u hu => gr_S (rest := []) C (cL_key_ (kL k) C.tr (kD k) N ql qe qw qh gl ge gw gh l7 r1 u hu) (fun ht => va_cwS 6 ht gL_areRanked_L_key rfl rfl rfl hsL_key ⟨(Nat.le_of_ble_eq_true rfl), (Nat.le_of_ble_eq_true rfl)⟩) _ (rg_map _ _) (rg_nd _) rfl rfl (Nat.le_of_ble_eq_true rfl) dL_areRanked_81 ⟨(Nat.le_of_ble_eq_true rfl), (Nat.le_of_ble_eq_true rfl)⟩) (ws' := fun u => (wG (kD k) rG (aS 0) rV rN rT  ++ (wS (kD k) aS v ++ (wA10 (kD k) ql gl ++ (wA10 (kD k) qe ge ++ (wA10 (kD k) qw gw ++ (wA10 (kD k) qh gh ++ (wA9 (kD k) qn gn ++ (wA21 (kD k) qp gp))))))))) (fun u => (as4.symm.trans ((pm0 (pm0 (pm0 (pm0 (List.Perm.refl _))))).trans (pmc (pm0 (pm0 (pm0 (pm0 (List.Perm.refl _))))))))) rfl rfl rfl (fun u => [.int u]) (fun u => rfl) (fun r2 hf => ?_)
            refine g_iload (pc := 84) (x := l8) C dL_areRanked_84 rfl ?_
            refine g_join (Q := fun (u : Unit) => gG k (wG (kD k) rG (aS 0) rV rN rT  ++ (wS (kD k) aS v ++ (wA10 (kD k) ql gl ++ (wA10 (kD k) qe ge ++ (wA10 (kD k) qw gw ++ (wA10 (kD k) qh gh ++ (wA9 (kD k) qn gn ++ (wA21 (kD k) qp gp)))))))) [(0, .ref rG), (1, .ref ql), (2, .ref qe), (3, .ref qw), (4, .ref qh), (5, .ref qn), (6, .ref qp), (7, .int l7), (11, .int l11), (12, .int r1)] 0 0 113 []) hf (fun r3 hf => ?_) (fun r3 hf K3 => ?_)
            · refine g_iconst (pc := 113) (v := 1) C dL_areRanked_113 (by decide) ?_
              refine g_goto (pc := 114) (tgt := 118) C dL_areRanked_114 (by decide) ?_
              refine g_istore (pc := 118) (lv' := [(10, .int 1), (0, .ref rG), (1, .ref ql), (2, .ref qe), (3, .ref qw), (4, .ref qh), (5, .ref qn), (6, .ref qp), (7, .int l7), (11, .int l11), (12, .int r1)]) C dL_areRanked_118 (by decide) rfl ?_
              refine g_iload (pc := 120) (x := 1) C dL_areRanked_120 rfl ?_
              refine g_ifF_eq (pc := 122) (tgt := 140) C dL_areRanked_122 (by decide) (by decide) ?_
              refine g_aload_n (pc := 125) (x := ql) C dL_areRanked_125 rfl ?_
              refine g_aload_n (pc := 126) (x := qe) C dL_areRanked_126 rfl ?_
              refine g_aload_n (pc := 127) (x := qw) C dL_areRanked_127 rfl ?_
              refine g_aload (pc := 128) (x := qh) C dL_areRanked_128 rfl ?_
              refine g_iload (pc := 130) (x := l7) C dL_areRanked_130 rfl ?_
              refine g_iload (pc := 132) (x := r1) C dL_areRanked_132 rfl ?_
              refine g_callWA (wr := wG (kD k) rG (aS 0) rV rN rT  ++ (wS (kD k) aS v ++ (wA9 (kD k) qn gn ++ (wA21 (kD k) qp gp)))) (pc' := 137) (cs' := 0) (sl' := 0) hf C (fun u => some (.int u)) (fun u => (wA10 (kD k) ql gl ++ (wA10 (kD k) qe ge ++ (wA10 (kD k) qw gw ++ (wA10 (kD k) qh gh))))) (((pm0 (pm0 (List.Perm.refl _))).trans (pmc ((pm0 (pm0 (List.Perm.refl _))).trans (pmc ((pm0 (pm0 (List.Perm.refl _))).trans (pmc (pm0 (pm0 (List.Perm.refl _))))))))).trans as4) (fun u hu => gr_S (rest := []) C (cL_key_ (kL k) C.tr (kD k) N ql qe qw qh gl ge gw gh l7 r1 u hu) (fun ht => va_cwS 6 ht gL_areRanked_L_key rfl rfl rfl hsL_key ⟨(Nat.le_of_ble_eq_true rfl), (Nat.le_of_ble_eq_true rfl)⟩) _ (rg_map _ _) (rg_nd _) rfl rfl (Nat.le_of_ble_eq_true rfl) dL_areRanked_134 ⟨(Nat.le_of_ble_eq_true rfl), (Nat.le_of_ble_eq_true rfl)⟩) (ws' := fun u => (wG (kD k) rG (aS 0) rV rN rT  ++ (wS (kD k) aS v ++ (wA10 (kD k) ql gl ++ (wA10 (kD k) qe ge ++ (wA10 (kD k) qw gw ++ (wA10 (kD k) qh gh ++ (wA9 (kD k) qn gn ++ (wA21 (kD k) qp gp))))))))) (fun u => (as4.symm.trans ((pm0 (pm0 (pm0 (pm0 (List.Perm.refl _))))).trans (pmc (pm0 (pm0 (pm0 (pm0 (List.Perm.refl _))))))))) rfl rfl rfl (fun u => [.int u]) (fun u => rfl) (fun r5 hf => ?_)
              refine g_goto (pc := 137) (tgt := 141) C dL_areRanked_137 (by decide) ?_
              refine g_istore (pc := 141) (lv' := [(8, .int r5), (10, .int 1), (0, .ref rG), (1, .ref ql), (2, .ref qe), (3, .ref qw), (4, .ref qh), (5, .ref qn), (6, .ref qp), (7, .int l7), (11, .int l11), (12, .int r1)]) C dL_areRanked_141 (by decide) rfl ?_
              refine g_iload (pc := 143) (x := r1) C dL_areRanked_143 rfl ?_
              refine g_istore (pc := 145) (lv' := [(9, .int r1), (8, .int r5), (10, .int 1), (0, .ref rG), (1, .ref ql), (2, .ref qe), (3, .ref qw), (4, .ref qh), (5, .ref qn), (6, .ref qp), (7, .int l7), (11, .int l11), (12, .int r1)]) C dL_areRanked_145 (by decide) rfl ?_
              refine g_iinc (pc := 147) (x := l11) (v := (l11 + 1)) (lv' := [(11, .int (l11 + 1)), (9, .int r1), (8, .int r5), (10, .int 1), (0, .ref rG), (1, .ref ql), (2, .ref qe), (3, .ref qw), (4, .ref qh), (5, .ref qn), (6, .ref qp), (7, .int l7), (12, .int r1)]) C dL_areRanked_147 rfl rfl (by decide) rfl ?_
              refine g_goto (pc := 150) (tgt := 32) C dL_areRanked_150 (by decide) ?_
              refine g_lv [4, 5, 6, 7, 8, 9, 10, 11, 2, 1, 3, 0] (lv' := [(0, .ref rG), (1, .ref ql), (2, .ref qe), (3, .ref qw), (4, .ref qh), (5, .ref qn), (6, .ref qp), (7, .int l7), (8, .int r5), (9, .int r1), (10, .int 1), (11, .int (l11 + 1))]) rfl ?_
              exact ih r5 r1 1 (l11 + 1) u hf hk0
            · refine g_icmp_lt (pc := 86) (tgt := 113) (x := r2) (y := l8) hf C dL_areRanked_86 (by decide) (fun hf => ?_) (fun hf => ?_)
              · obtain rfl := Option.some.inj hf
                refine g_lv [1, 2, 3, 4, 5, 6, 7, 8, 12, 0] (lv' := [(0, .ref rG), (1, .ref ql), (2, .ref qe), (3, .ref qw), (4, .ref qh), (5, .ref qn), (6, .ref qp), (7, .int l7), (11, .int l11), (12, .int r1)]) rfl ?_
                exact K3
              · refine g_aload_n (pc := 89) (x := ql) C dL_areRanked_89 rfl ?_
                refine g_aload_n (pc := 90) (x := qe) C dL_areRanked_90 rfl ?_
                refine g_aload_n (pc := 91) (x := qw) C dL_areRanked_91 rfl ?_
                refine g_aload (pc := 92) (x := qh) C dL_areRanked_92 rfl ?_
                refine g_iload (pc := 94) (x := l7) C dL_areRanked_94 rfl ?_
                refine g_iload (pc := 96) (x := r1) C dL_areRanked_96 rfl ?_
                refine g_callWA (wr := wG (kD k) rG (aS 0) rV rN rT  ++ (wS (kD k) aS v ++ (wA9 (kD k) qn gn ++ (wA21 (kD k) qp gp)))) (pc' := 101) (cs' := 0) (sl' := 0) hf C (fun u => some (.int u)) (fun u => (wA10 (kD k) ql gl ++ (wA10 (kD k) qe ge ++ (wA10 (kD k) qw gw ++ (wA10 (kD k) qh gh))))) (((pm0 (pm0 (List.Perm.refl _))).trans (pmc ((pm0 (pm0 (List.Perm.refl _))).trans (pmc ((pm0 (pm0 (List.Perm.refl _))).trans (pmc (pm0 (pm0 (List.Perm.refl _))))))))).trans as4) (fun u hu => gr_S (rest := []) C (cL_key_ (kL k) C.tr (kD k) N ql qe qw qh gl ge gw gh l7 r1 u hu) (fun ht => va_cwS 6 ht gL_areRanked_L_key rfl rfl rfl hsL_key ⟨(Nat.le_of_ble_eq_true rfl), (Nat.le_of_ble_eq_true rfl)⟩) _ (rg_map _ _) (rg_nd _) rfl rfl (Nat.le_of_ble_eq_true rfl) dL_areRanked_98 ⟨(Nat.le_of_ble_eq_true rfl), (Nat.le_of_ble_eq_true rfl)⟩) (ws' := fun u => (wG (kD k) rG (aS 0) rV rN rT  ++ (wS (kD k) aS v ++ (wA10 (kD k) ql gl ++ (wA10 (kD k) qe ge ++ (wA10 (kD k) qw gw ++ (wA10 (kD k) qh gh ++ (wA9 (kD k) qn gn ++ (wA21 (kD k) qp gp))))))))) (fun u => (as4.symm.trans ((pm0 (pm0 (pm0 (pm0 (List.Perm.refl _))))).trans (pmc (pm0 (pm0 (pm0 (pm0 (List.Perm.refl _))))))))) rfl rfl rfl (fun u => [.int u]) (fun u => rfl) (fun r4 hf => ?_)
                refine g_iload (pc := 101) (x := l8) C dL_areRanked_101 rfl ?_
                refine g_icmp_ne (pc := 103) (tgt := 117) (x := r4) (y := l8) hf C dL_areRanked_103 (by decide) (fun hf => ?_) (fun hf => ?_)
                · cases hf
                · refine g_iload (pc := 106) (x := r1) C dL_areRanked_106 rfl ?_
                  refine g_iload (pc := 108) (x := l9) C dL_areRanked_108 rfl ?_
                  refine g_icmp_le (pc := 110) (tgt := 117) (x := r1) (y := l9) hf C dL_areRanked_110 (by decide) (fun hf => ?_) (fun hf => ?_)
                  · cases hf
                  · obtain rfl := Option.some.inj hf
                    refine g_lv [1, 2, 3, 4, 5, 6, 7, 8, 12, 0] (lv' := [(0, .ref rG), (1, .ref ql), (2, .ref qe), (3, .ref qw), (4, .ref qh), (5, .ref qn), (6, .ref qp), (7, .int l7), (11, .int l11), (12, .int r1)]) rfl ?_
                    exact K3
def lL_areRanked_188 (N : Nat) (v : VS) (gl : (Nat → Int32)) (ge : (Nat → Int32)) (gw : (Nat → Int32)) (gh : (Nat → Int32)) (gn : (Nat → Int32)) (gp : (Nat → Int32)) (l11 : Int32) (l12 : Int32) (l13 : Int32) : Nat → Int32 → Int32 → Option ((Int32))
  | 0, _, _ => none
  | n + 1, l15, l16 => ck 8 9 ((if (gn (Int32.toNatClampNeg 8)) ≤ l16 then some l15 else (if ((l11 >>> (l16 &&& 31)) &&& 1) = (1 : Int32) then ck l16 10 ((if (gl (Int32.toNatClampNeg l16)) ≤ l13 then (lL_areRanked_188 N v gl ge gw gh gn gp l11 l12 l13 n l15 (l16 + 1)) else ck l16 10 ((if l15 ≤ (gl (Int32.toNatClampNeg l16)) then (lL_areRanked_188 N v gl ge gw gh gn gp l11 l12 l13 n l15 (l16 + 1)) else ck l16 10 ((lL_areRanked_188 N v gl ge gw gh gn gp l11 l12 l13 n (gl (Int32.toNatClampNeg l16)) (l16 + 1))))))) else (lL_areRanked_188 N v gl ge gw gh gn gp l11 l12 l13 n l15 (l16 + 1)))))
set_option maxRecDepth 100000 in
set_option maxHeartbeats 4000000 in
theorem wlL_areRanked_188 {k : Kt} (C : gC k cL_areRanked 17 RL wsL_areRanked rmL_areRanked "areRanked") (N : Nat) (rG : Nat) (rV : Nat) (rN : Nat) (rT : Nat) (aS : Nat → Nat) (ql : Nat) (qe : Nat) (qw : Nat) (qh : Nat) (qn : Nat) (qp : Nat) (v : VS) (gl : (Nat → Int32)) (ge : (Nat → Int32)) (gw : (Nat → Int32)) (gh : (Nat → Int32)) (gn : (Nat → Int32)) (gp : (Nat → Int32)) (l11 : Int32) (l12 : Int32) (l13 : Int32) : ∀ (n : Nat) (l15 : Int32) (l16 : Int32) (u : (Int32)) (hf : lL_areRanked_188 N v gl ge gw gh gn gp l11 l12 l13 n l15 l16 = some u) (hk0 : gG k (wG (kD k) rG (aS 0) rV rN rT ++ (wS (kD k) aS v ++ (wA10 (kD k) ql gl ++ (wA10 (kD k) qe ge ++ (wA10 (kD k) qw gw ++ (wA10 (kD k) qh gh ++ (wA9 (kD k) qn gn ++ (wA21 (kD k) qp gp)))))))) [(0, .ref rG), (1, .ref ql), (5, .ref qn), (11, .int l11), (12, .int l12), (15, .int u)] 0 0 244 []), gG k (wG (kD k) rG (aS 0) rV rN rT ++ (wS (kD k) aS v ++ (wA10 (kD k) ql gl ++ (wA10 (kD k) qe ge ++ (wA10 (kD k) qw gw ++ (wA10 (kD k) qh gh ++ (wA9 (kD k) qn gn ++ (wA21 (kD k) qp gp)))))))) [(0, .ref rG), (1, .ref ql), (5, .ref qn), (11, .int l11), (12, .int l12), (13, .int l13), (15, .int l15), (16, .int l16)] 0 0 188 [] := by
  intro n
  induction n with
  | zero => intro l15 l16 u hf hk0; rw [lL_areRanked_188] at hf; cases hf
  | succ n ih =>
    intro l15 l16 u hf hk0
    rw [lL_areRanked_188] at hf
    refine g_iload (pc := 188) (x := l16) C dL_areRanked_188 rfl ?_
    refine g_aload (pc := 190) (x := qn) C dL_areRanked_190 rfl ?_
    refine g_bipush (pc := 192) (v := 8) C dL_areRanked_192 (by decide) ?_
    refine g_iald (pc := 194) (i := 8) hf C 14 rfl dL_areRanked_194 (fun hf => ?_)
    refine g_icmp_ge (pc := 195) (tgt := 244) (x := l16) (y := (gn (Int32.toNatClampNeg 8))) hf C dL_areRanked_195 (by decide) (fun hf => ?_) (fun hf => ?_)
    · obtain rfl := Option.some.inj hf
      refine g_lv [0, 1, 2, 3, 4, 6] (lv' := [(0, .ref rG), (1, .ref ql), (5, .ref qn), (11, .int l11), (12, .int l12), (15, .int l15)]) rfl ?_
      exact hk0
    · refine g_iload (pc := 198) (x := l11) C dL_areRanked_198 rfl ?_
      refine g_iload (pc := 200) (x := l16) C dL_areRanked_200 rfl ?_
      refine g_ishr (pc := 202) (x := l11) (y := l16) C dL_areRanked_202 ?_
      refine g_iconst (pc := 203) (v := 1) C dL_areRanked_203 (by decide) ?_
      refine g_iand (pc := 204) (x := (l11 >>> (l16 &&& 31))) (y := 1) C dL_areRanked_204 ?_
      refine g_iconst (pc := 205) (v := 1) C dL_areRanked_205 (by decide) ?_
      refine g_icmp_ne (pc := 206) (tgt := 234) (x := ((l11 >>> (l16 &&& 31)) &&& 1)) (y := 1) hf C dL_areRanked_206 (by decide) (fun hf => ?_) (fun hf => ?_)
      · refine g_iload (pc := 234) (x := l15) C dL_areRanked_234 rfl ?_
        refine g_istore (pc := 236) (lv' := [(15, .int l15), (0, .ref rG), (1, .ref ql), (5, .ref qn), (11, .int l11), (12, .int l12), (13, .int l13), (16, .int l16)]) C dL_areRanked_236 (by decide) rfl ?_
        refine g_iinc (pc := 238) (x := l16) (v := (l16 + 1)) (lv' := [(16, .int (l16 + 1)), (15, .int l15), (0, .ref rG), (1, .ref ql), (5, .ref qn), (11, .int l11), (12, .int l12), (13, .int l13)]) C dL_areRanked_238 rfl rfl (by decide) rfl ?_
        refine g_goto (pc := 241) (tgt := 188) C dL_areRanked_241 (by decide) ?_
        refine g_lv [2, 3, 4, 5, 6, 7, 1, 0] (lv' := [(0, .ref rG), (1, .ref ql), (5, .ref qn), (11, .int l11), (12, .int l12), (13, .int l13), (15, .int l15), (16, .int (l16 + 1))]) rfl ?_
        exact ih l15 (l16 + 1) u hf hk0
      · refine g_aload_n (pc := 209) (x := ql) C dL_areRanked_209 rfl ?_
        refine g_iload (pc := 210) (x := l16) C dL_areRanked_210 rfl ?_
        refine g_iald (pc := 212) (i := l16) hf C 10 rfl dL_areRanked_212 (fun hf => ?_)
        refine g_iload (pc := 213) (x := l13) C dL_areRanked_213 rfl ?_
        refine g_icmp_le (pc := 215) (tgt := 234) (x := (gl (Int32.toNatClampNeg l16))) (y := l13) hf C dL_areRanked_215 (by decide) (fun hf => ?_) (fun hf => ?_)
        · refine g_iload (pc := 234) (x := l15) C dL_areRanked_234 rfl ?_
          refine g_istore (pc := 236) (lv' := [(15, .int l15), (0, .ref rG), (1, .ref ql), (5, .ref qn), (11, .int l11), (12, .int l12), (13, .int l13), (16, .int l16)]) C dL_areRanked_236 (by decide) rfl ?_
          refine g_iinc (pc := 238) (x := l16) (v := (l16 + 1)) (lv' := [(16, .int (l16 + 1)), (15, .int l15), (0, .ref rG), (1, .ref ql), (5, .ref qn), (11, .int l11), (12, .int l12), (13, .int l13)]) C dL_areRanked_238 rfl rfl (by decide) rfl ?_
          refine g_goto (pc := 241) (tgt := 188) C dL_areRanked_241 (by decide) ?_
          refine g_lv [2, 3, 4, 5, 6, 7, 1, 0] (lv' := [(0, .ref rG), (1, .ref ql), (5, .ref qn), (11, .int l11), (12, .int l12), (13, .int l13), (15, .int l15), (16, .int (l16 + 1))]) rfl ?_
          exact ih l15 (l16 + 1) u hf hk0
        · refine g_aload_n (pc := 218) (x := ql) C dL_areRanked_218 rfl ?_
          refine g_iload (pc := 219) (x := l16) C dL_areRanked_219 rfl ?_
          refine g_iald (pc := 221) (i := l16) hf C 10 rfl dL_areRanked_221 (fun hf => ?_)
          refine g_iload (pc := 222) (x := l15) C dL_areRanked_222 rfl ?_
          refine g_icmp_ge (pc := 224) (tgt := 234) (x := (gl (Int32.toNatClampNeg l16))) (y := l15) hf C dL_areRanked_224 (by decide) (fun hf => ?_) (fun hf => ?_)
          · refine g_iload (pc := 234) (x := l15) C dL_areRanked_234 rfl ?_
            refine g_istore (pc := 236) (lv' := [(15, .int l15), (0, .ref rG), (1, .ref ql), (5, .ref qn), (11, .int l11), (12, .int l12), (13, .int l13), (16, .int l16)]) C dL_areRanked_236 (by decide) rfl ?_
            refine g_iinc (pc := 238) (x := l16) (v := (l16 + 1)) (lv' := [(16, .int (l16 + 1)), (15, .int l15), (0, .ref rG), (1, .ref ql), (5, .ref qn), (11, .int l11), (12, .int l12), (13, .int l13)]) C dL_areRanked_238 rfl rfl (by decide) rfl ?_
            refine g_goto (pc := 241) (tgt := 188) C dL_areRanked_241 (by decide) ?_
            refine g_lv [2, 3, 4, 5, 6, 7, 1, 0] (lv' := [(0, .ref rG), (1, .ref ql), (5, .ref qn), (11, .int l11), (12, .int l12), (13, .int l13), (15, .int l15), (16, .int (l16 + 1))]) rfl ?_
            exact ih l15 (l16 + 1) u hf hk0
          · refine g_aload_n (pc := 227) (x := ql) C dL_areRanked_227 rfl ?_
            refine g_iload (pc := 228) (x := l16) C dL_areRanked_228 rfl ?_
            refine g_iald (pc := 230) (i := l16) hf C 10 rfl dL_areRanked_230 (fun hf => ?_)
            refine g_goto (pc := 231) (tgt := 236) C dL_areRanked_231 (by decide) ?_
            refine g_istore (pc := 236) (lv' := [(15, .int (gl (Int32.toNatClampNeg l16))), (0, .ref rG), (1, .ref ql), (5, .ref qn), (11, .int l11), (12, .int l12), (13, .int l13), (16, .int l16)]) C dL_areRanked_236 (by decide) rfl ?_
            refine g_iinc (pc := 238) (x := l16) (v := (l16 + 1)) (lv' := [(16, .int (l16 + 1)), (15, .int (gl (Int32.toNatClampNeg l16))), (0, .ref rG), (1, .ref ql), (5, .ref qn), (11, .int l11), (12, .int l12), (13, .int l13)]) C dL_areRanked_238 rfl rfl (by decide) rfl ?_
            refine g_goto (pc := 241) (tgt := 188) C dL_areRanked_241 (by decide) ?_
            refine g_lv [2, 3, 4, 5, 6, 7, 1, 0] (lv' := [(0, .ref rG), (1, .ref ql), (5, .ref qn), (11, .int l11), (12, .int l12), (13, .int l13), (15, .int (gl (Int32.toNatClampNeg l16))), (16, .int (l16 + 1))]) rfl ?_
            exact ih (gl (Int32.toNatClampNeg l16)) (l16 + 1) u hf hk0
def lL_areRanked_171 (N : Nat) (v : VS) (gl : (Nat → Int32)) (ge : (Nat → Int32)) (gw : (Nat → Int32)) (gh : (Nat → Int32)) (gn : (Nat → Int32)) (gp : (Nat → Int32)) (l11 : Int32) : Nat → Int32 → Int32 → Int32 → Int32 → Option ((Int32 × Int32))
  | 0, _, _, _, _ => none
  | n + 1, l10, l12, l13, l14 => (if l14 = (0 : Int32) then some (l10, l12) else (if l10 = (0 : Int32) then none else ((lL_areRanked_188 N v gl ge gw gh gn gp l11 l12 l13 N 1000000 0).bind fun r1 => (((if (1000000 : Int32) ≤ r1 then some 0 else some 1) : Option (Int32)).bind fun r2 => ((fX4_lengths N v l12).bind fun r3 => (((if r2 = (0 : Int32) then some (-1) else some r1) : Option (Int32)).bind fun r4 => (if r3 = r4 then (if r2 = (0 : Int32) then (lL_areRanked_171 N v gl ge gw gh gn gp l11 n 1 (l12 + 0) r1 r2) else (lL_areRanked_171 N v gl ge gw gh gn gp l11 n 1 (l12 + 1) r1 r2)) else none)))))))
set_option maxRecDepth 100000 in
set_option maxHeartbeats 4000000 in
theorem wlL_areRanked_171 {k : Kt} (C : gC k cL_areRanked 17 RL wsL_areRanked rmL_areRanked "areRanked") (N : Nat) (rG : Nat) (rV : Nat) (rN : Nat) (rT : Nat) (aS : Nat → Nat) (ql : Nat) (qe : Nat) (qw : Nat) (qh : Nat) (qn : Nat) (qp : Nat) (v : VS) (gl : (Nat → Int32)) (ge : (Nat → Int32)) (gw : (Nat → Int32)) (gh : (Nat → Int32)) (gn : (Nat → Int32)) (gp : (Nat → Int32)) (l11 : Int32) : ∀ (n : Nat) (l10 : Int32) (l12 : Int32) (l13 : Int32) (l14 : Int32) (u : (Int32 × Int32)) (hf : lL_areRanked_171 N v gl ge gw gh gn gp l11 n l10 l12 l13 l14 = some u) (hk0 : gG k (wG (kD k) rG (aS 0) rV rN rT ++ (wS (kD k) aS v ++ (wA10 (kD k) ql gl ++ (wA10 (kD k) qe ge ++ (wA10 (kD k) qw gw ++ (wA10 (kD k) qh gh ++ (wA9 (kD k) qn gn ++ (wA21 (kD k) qp gp)))))))) [(0, .ref rG), (10, .int u.1), (12, .int u.2)] 0 0 307 []), gG k (wG (kD k) rG (aS 0) rV rN rT ++ (wS (kD k) aS v ++ (wA10 (kD k) ql gl ++ (wA10 (kD k) qe ge ++ (wA10 (kD k) qw gw ++ (wA10 (kD k) qh gh ++ (wA9 (kD k) qn gn ++ (wA21 (kD k) qp gp)))))))) [(0, .ref rG), (1, .ref ql), (5, .ref qn), (10, .int l10), (11, .int l11), (12, .int l12), (13, .int l13), (14, .int l14)] 0 0 171 [] := by
  intro n
  induction n with
  | zero => intro l10 l12 l13 l14 u hf hk0; rw [lL_areRanked_171] at hf; cases hf
  | succ n ih =>
    intro l10 l12 l13 l14 u hf hk0
    rw [lL_areRanked_171] at hf
    refine g_iload (pc := 171) (x := l14) C dL_areRanked_171 rfl ?_
    refine g_if_eq (pc := 173) (tgt := 307) (x := l14) hf C dL_areRanked_173 (by decide) (fun hf => ?_) (fun hf => ?_)
    · obtain rfl := Option.some.inj hf
      refine g_lv [0, 3, 5] (lv' := [(0, .ref rG), (10, .int l10), (12, .int l12)]) rfl ?_
      exact hk0
    · refine g_iload (pc := 176) (x := l10) C dL_areRanked_176 rfl ?_
      refine g_if_eq (pc := 178) (tgt := 307) (x := l10) hf C dL_areRanked_178 (by decide) (fun hf => ?_) (fun hf => ?_)
      · cases hf
      · refine g_ldc (pc := 181) (v := 1000000) C dL_areRanked_181 kcL_areRanked_76 ?_
        refine g_istore (pc := 183) (lv' := [(15, .int 1000000), (0, .ref rG), (1, .ref ql), (5, .ref qn), (10, .int l10), (11, .int l11), (12, .int l12), (13, .int l13), (14, .int l14)]) C dL_areRanked_183 (by decide) rfl ?_
        refine g_iconst (pc := 185) (v := 0) C dL_areRanked_185 (by decide) ?_
        refine g_istore (pc := 186) (lv' := [(16, .int 0), (15, .int 1000000), (0, .ref rG), (1, .ref ql), (5, .ref qn), (10, .int l10), (11, .int l11), (12, .int l12), (13, .int l13), (14, .int l14)]) C dL_areRanked_186 (by decide) rfl ?_
        obtain ⟨r1, h1, hf⟩ := bd_e hf
        refine g_lv [2, 3, 4, 6, 7, 8, 1, 0] (lv' := [(0, .ref rG), (1, .ref ql), (5, .ref qn), (11, .int l11), (12, .int l12), (13, .int l13), (15, .int 1000000), (16, .int 0)]) rfl ?_
        refine wlL_areRanked_188 C N rG rV rN rT aS ql qe qw qh qn qp v gl ge gw gh gn gp l11 l12 l13 N 1000000 0 r1 h1 ?_
        refine g_iload (pc := 244) (x := r1) C dL_areRanked_244 rfl ?_
        refine g_ldc (pc := 246) (v := 1000000) C dL_areRanked_246 kcL_areRanked_76 ?_
        refine g_join (Q := fun (u : Int32) => gG k (wG (kD k) rG (aS 0) rV rN rT  ++ (wS (kD k) aS v ++ (wA10 (kD k) ql gl ++ (wA10 (kD k) qe ge ++ (wA10 (kD k) qw gw ++ (wA10 (kD k) qh gh ++ (wA9 (kD k) qn gn ++ (wA21 (kD k) qp gp)))))))) [(0, .ref rG), (1, .ref ql), (5, .ref qn), (11, .int l11), (12, .int l12), (15, .int r1)] 0 0 256 [.int u]) hf (fun r2 hf => ?_) (fun r2 hf K2 => ?_)
        · refine g_istore (pc := 256) (lv' := [(14, .int r2), (0, .ref rG), (1, .ref ql), (5, .ref qn), (11, .int l11), (12, .int l12), (15, .int r1)]) C dL_areRanked_256 (by decide) rfl ?_
          refine g_aload_n (pc := 258) (x := rG) C dL_areRanked_258 rfl ?_
          refine g_iload (pc := 259) (x := l12) C dL_areRanked_259 rfl ?_
          refine g_callWA (wr := wA10 (kD k) ql gl ++ (wA10 (kD k) qe ge ++ (wA10 (kD k) qw gw ++ (wA10 (kD k) qh gh ++ (wA9 (kD k) qn gn ++ (wA21 (kD k) qp gp)))))) (pc' := 264) (cs' := 0) (sl' := 0) hf C (fun u => some (.int u)) (fun u => (wG (kD k) rG (aS 0) rV rN rT ++ (wS (kD k) aS v))) ((List.Perm.refl _).trans as2) (fun u hu => gr_V (rest := []) C (cX4_lengths_ (kL k) C.tr (kD k) N rG rV rN rT aS v l12 u hu) (fun ht => cwV 1 ht gL_areRanked_X4_lengths rfl rfl rfl hdX4_lengths ⟨(Nat.le_of_ble_eq_true rfl), (Nat.le_of_ble_eq_true rfl)⟩) 0 rfl rfl _ (rg_map _ _) (rg_nd _) rfl rfl (Nat.le_of_ble_eq_true rfl) dL_areRanked_261 ⟨(Nat.le_of_ble_eq_true rfl), (Nat.le_of_ble_eq_true rfl)⟩) (ws' := fun u => (wG (kD k) rG (aS 0) rV rN rT  ++ (wS (kD k) aS v ++ (wA10 (kD k) ql gl ++ (wA10 (kD k) qe ge ++ (wA10 (kD k) qw gw ++ (wA10 (kD k) qh gh ++ (wA9 (kD k) qn gn ++ (wA21 (kD k) qp gp))))))))) (fun u => (as2.symm.trans (List.Perm.refl _))) rfl rfl rfl (fun u => [.int u]) (fun u => rfl) (fun r3 hf => ?_)
          refine g_iload (pc := 264) (x := r2) C dL_areRanked_264 rfl ?_
          refine g_join (Q := fun (u : Int32) => gG k (wG (kD k) rG (aS 0) rV rN rT  ++ (wS (kD k) aS v ++ (wA10 (kD k) ql gl ++ (wA10 (kD k) qe ge ++ (wA10 (kD k) qw gw ++ (wA10 (kD k) qh gh ++ (wA9 (kD k) qn gn ++ (wA21 (kD k) qp gp)))))))) [(0, .ref rG), (1, .ref ql), (5, .ref qn), (11, .int l11), (12, .int l12), (14, .int r2), (15, .int r1)] 0 0 275 [.int u, .int r3]) hf (fun r4 hf => ?_) (fun r4 hf K4 => ?_)
          · refine g_icmp_ne (pc := 275) (tgt := 282) (x := r3) (y := r4) hf C dL_areRanked_275 (by decide) (fun hf => ?_) (fun hf => ?_)
            · cases hf
            · refine g_iconst (pc := 278) (v := 1) C dL_areRanked_278 (by decide) ?_
              refine g_goto (pc := 279) (tgt := 283) C dL_areRanked_279 (by decide) ?_
              refine g_istore (pc := 283) (lv' := [(10, .int 1), (0, .ref rG), (1, .ref ql), (5, .ref qn), (11, .int l11), (12, .int l12), (14, .int r2), (15, .int r1)]) C dL_areRanked_283 (by decide) rfl ?_
              refine g_iload (pc := 285) (x := r1) C dL_areRanked_285 rfl ?_
              refine g_istore (pc := 287) (lv' := [(13, .int r1), (10, .int 1), (0, .ref rG), (1, .ref ql), (5, .ref qn), (11, .int l11), (12, .int l12), (14, .int r2), (15, .int r1)]) C dL_areRanked_287 (by decide) rfl ?_
              refine g_iload (pc := 289) (x := l12) C dL_areRanked_289 rfl ?_
              refine g_iload (pc := 291) (x := r2) C dL_areRanked_291 rfl ?_
              refine g_if_eq (pc := 293) (tgt := 300) (x := r2) hf C dL_areRanked_293 (by decide) (fun hf => ?_) (fun hf => ?_)
              · refine g_iconst (pc := 300) (v := 0) C dL_areRanked_300 (by decide) ?_
                refine g_iadd (pc := 301) (x := l12) (y := 0) C dL_areRanked_301 ?_
                refine g_istore (pc := 302) (lv' := [(12, .int (l12 + 0)), (13, .int r1), (10, .int 1), (0, .ref rG), (1, .ref ql), (5, .ref qn), (11, .int l11), (14, .int r2), (15, .int r1)]) C dL_areRanked_302 (by decide) rfl ?_
                refine g_goto (pc := 304) (tgt := 171) C dL_areRanked_304 (by decide) ?_
                refine g_lv [3, 4, 5, 2, 6, 0, 1, 7] (lv' := [(0, .ref rG), (1, .ref ql), (5, .ref qn), (10, .int 1), (11, .int l11), (12, .int (l12 + 0)), (13, .int r1), (14, .int r2)]) rfl ?_
                exact ih 1 (l12 + 0) r1 r2 u hf hk0
              · refine g_iconst (pc := 296) (v := 1) C dL_areRanked_296 (by decide) ?_
                refine g_goto (pc := 297) (tgt := 301) C dL_areRanked_297 (by decide) ?_
                refine g_iadd (pc := 301) (x := l12) (y := 1) C dL_areRanked_301 ?_
                refine g_istore (pc := 302) (lv' := [(12, .int (l12 + 1)), (13, .int r1), (10, .int 1), (0, .ref rG), (1, .ref ql), (5, .ref qn), (11, .int l11), (14, .int r2), (15, .int r1)]) C dL_areRanked_302 (by decide) rfl ?_
                refine g_goto (pc := 304) (tgt := 171) C dL_areRanked_304 (by decide) ?_
                refine g_lv [3, 4, 5, 2, 6, 0, 1, 7] (lv' := [(0, .ref rG), (1, .ref ql), (5, .ref qn), (10, .int 1), (11, .int l11), (12, .int (l12 + 1)), (13, .int r1), (14, .int r2)]) rfl ?_
                exact ih 1 (l12 + 1) r1 r2 u hf hk0
          · refine g_if_eq (pc := 266) (tgt := 274) (x := r2) hf C dL_areRanked_266 (by decide) (fun hf => ?_) (fun hf => ?_)
            · refine g_iconst (pc := 274) (v := (-1)) C dL_areRanked_274 (by decide) ?_
              obtain rfl := Option.some.inj hf
              refine g_lv [1, 2, 3, 4, 5, 0, 6] (lv' := [(0, .ref rG), (1, .ref ql), (5, .ref qn), (11, .int l11), (12, .int l12), (14, .int r2), (15, .int r1)]) rfl ?_
              exact K4
            · refine g_iload (pc := 269) (x := r1) C dL_areRanked_269 rfl ?_
              refine g_goto (pc := 271) (tgt := 275) C dL_areRanked_271 (by decide) ?_
              obtain rfl := Option.some.inj hf
              refine g_lv [1, 2, 3, 4, 5, 0, 6] (lv' := [(0, .ref rG), (1, .ref ql), (5, .ref qn), (11, .int l11), (12, .int l12), (14, .int r2), (15, .int r1)]) rfl ?_
              exact K4
        · refine g_icmp_ge (pc := 248) (tgt := 255) (x := r1) (y := 1000000) hf C dL_areRanked_248 (by decide) (fun hf => ?_) (fun hf => ?_)
          · refine g_iconst (pc := 255) (v := 0) C dL_areRanked_255 (by decide) ?_
            obtain rfl := Option.some.inj hf
            exact K2
          · refine g_iconst (pc := 251) (v := 1) C dL_areRanked_251 (by decide) ?_
            refine g_goto (pc := 252) (tgt := 256) C dL_areRanked_252 (by decide) ?_
            obtain rfl := Option.some.inj hf
            exact K2
def fL_areRanked (N : Nat) (v : VS) (gl : (Nat → Int32)) (ge : (Nat → Int32)) (gw : (Nat → Int32)) (gh : (Nat → Int32)) (gn : (Nat → Int32)) (gp : (Nat → Int32)) (p7 : Int32) : Option (Bool) := ck 8 9 (((fX4_ranked N v p7 (gn (Int32.toNatClampNeg 8))).bind fun r1 => (if r1 = ((-1) : Int32) then ((lL_areRanked_32 N v gl ge gw gh gn gp p7 N 2000000 (-1) 1 0).bind fun r2 => ((fL_free N gn gp).bind fun r3 => ((lL_areRanked_171 N v gl ge gw gh gn gp r3 N r2 0 0 1).bind fun r4 => (if r4.1 = (0 : Int32) then none else ((fX4_lengths N v (-1)).bind fun r5 => (if r5 = r4.2 then some true else none)))))) else none)))
set_option maxRecDepth 100000 in
set_option maxHeartbeats 4000000 in
theorem wkL_areRanked {k : Kt} (C : gC k cL_areRanked 17 RL wsL_areRanked rmL_areRanked "areRanked") (N : Nat) (rG : Nat) (rV : Nat) (rN : Nat) (rT : Nat) (aS : Nat → Nat) (ql : Nat) (qe : Nat) (qw : Nat) (qh : Nat) (qn : Nat) (qp : Nat) (v : VS) (gl : (Nat → Int32)) (ge : (Nat → Int32)) (gw : (Nat → Int32)) (gh : (Nat → Int32)) (gn : (Nat → Int32)) (gp : (Nat → Int32)) (p7 : Int32) (r : Bool) (hf : fL_areRanked N v gl ge gw gh gn gp p7 = some r) (E : gE k (wG (kD k) rG (aS 0) rV rN rT ++ (wS (kD k) aS v ++ (wA10 (kD k) ql gl ++ (wA10 (kD k) qe ge ++ (wA10 (kD k) qw gw ++ (wA10 (kD k) qh gh ++ (wA9 (kD k) qn gn ++ (wA21 (kD k) qp gp)))))))) (fun rv w => rv = some (.int (b2i r)) ∧ w = (wG (kD k) rG (aS 0) rV rN rT ++ (wS (kD k) aS v ++ (wA10 (kD k) ql gl ++ (wA10 (kD k) qe ge ++ (wA10 (kD k) qw gw ++ (wA10 (kD k) qh gh ++ (wA9 (kD k) qn gn ++ (wA21 (kD k) qp gp))))))))) (fun _ _ => False) 0 0 (some .boolean) []) : gG k (wG (kD k) rG (aS 0) rV rN rT ++ (wS (kD k) aS v ++ (wA10 (kD k) ql gl ++ (wA10 (kD k) qe ge ++ (wA10 (kD k) qw gw ++ (wA10 (kD k) qh gh ++ (wA9 (kD k) qn gn ++ (wA21 (kD k) qp gp)))))))) [(0, .ref rG), (1, .ref ql), (2, .ref qe), (3, .ref qw), (4, .ref qh), (5, .ref qn), (6, .ref qp), (7, .int p7)] 0 0 0 [] := by
  unfold fL_areRanked at hf
  refine g_ldc (pc := 0) (v := 2000000) C dL_areRanked_0 kcL_areRanked_77 ?_
  refine g_istore (pc := 2) (lv' := [(8, .int 2000000), (0, .ref rG), (1, .ref ql), (2, .ref qe), (3, .ref qw), (4, .ref qh), (5, .ref qn), (6, .ref qp), (7, .int p7)]) C dL_areRanked_2 (by decide) rfl ?_
  refine g_iconst (pc := 4) (v := (-1)) C dL_areRanked_4 (by decide) ?_
  refine g_istore (pc := 5) (lv' := [(9, .int (-1)), (8, .int 2000000), (0, .ref rG), (1, .ref ql), (2, .ref qe), (3, .ref qw), (4, .ref qh), (5, .ref qn), (6, .ref qp), (7, .int p7)]) C dL_areRanked_5 (by decide) rfl ?_
  refine g_aload_n (pc := 7) (x := rG) C dL_areRanked_7 rfl ?_
  refine g_iload (pc := 8) (x := p7) C dL_areRanked_8 rfl ?_
  refine g_aload (pc := 10) (x := qn) C dL_areRanked_10 rfl ?_
  refine g_bipush (pc := 12) (v := 8) C dL_areRanked_12 (by decide) ?_
  refine g_iald (pc := 14) (i := 8) hf C 14 rfl dL_areRanked_14 (fun hf => ?_)
  refine g_callWA (wr := wA10 (kD k) ql gl ++ (wA10 (kD k) qe ge ++ (wA10 (kD k) qw gw ++ (wA10 (kD k) qh gh ++ (wA9 (kD k) qn gn ++ (wA21 (kD k) qp gp)))))) (pc' := 18) (cs' := 0) (sl' := 0) hf C (fun u => some (.int u)) (fun u => (wG (kD k) rG (aS 0) rV rN rT ++ (wS (kD k) aS v))) ((List.Perm.refl _).trans as2) (fun u hu => gr_V (rest := []) C (cX4_ranked_ (kL k) C.tr (kD k) N rG rV rN rT aS v p7 (gn (Int32.toNatClampNeg 8)) u hu) (fun ht => cwV 2 ht gL_areRanked_X4_ranked rfl rfl rfl hdX4_ranked ⟨(Nat.le_of_ble_eq_true rfl), (Nat.le_of_ble_eq_true rfl)⟩) 0 rfl rfl _ (rg_map _ _) (rg_nd _) rfl rfl (Nat.le_of_ble_eq_true rfl) dL_areRanked_15 ⟨(Nat.le_of_ble_eq_true rfl), (Nat.le_of_ble_eq_true rfl)⟩) (ws' := fun u => (wG (kD k) rG (aS 0) rV rN rT  ++ (wS (kD k) aS v ++ (wA10 (kD k) ql gl ++ (wA10 (kD k) qe ge ++ (wA10 (kD k) qw gw ++ (wA10 (kD k) qh gh ++ (wA9 (kD k) qn gn ++ (wA21 (kD k) qp gp))))))))) (fun u => (as2.symm.trans (List.Perm.refl _))) rfl rfl rfl (fun u => [.int u]) (fun u => rfl) (fun r1 hf => ?_)
  refine g_iconst (pc := 18) (v := (-1)) C dL_areRanked_18 (by decide) ?_
  refine g_icmp_ne (pc := 19) (tgt := 26) (x := r1) (y := (-1)) hf C dL_areRanked_19 (by decide) (fun hf => ?_) (fun hf => ?_)
  · cases hf
  · refine g_iconst (pc := 22) (v := 1) C dL_areRanked_22 (by decide) ?_
    refine g_goto (pc := 23) (tgt := 27) C dL_areRanked_23 (by decide) ?_
    refine g_istore (pc := 27) (lv' := [(10, .int 1), (9, .int (-1)), (8, .int 2000000), (0, .ref rG), (1, .ref ql), (2, .ref qe), (3, .ref qw), (4, .ref qh), (5, .ref qn), (6, .ref qp), (7, .int p7)]) C dL_areRanked_27 (by decide) rfl ?_
    refine g_iconst (pc := 29) (v := 0) C dL_areRanked_29 (by decide) ?_
    refine g_istore (pc := 30) (lv' := [(11, .int 0), (10, .int 1), (9, .int (-1)), (8, .int 2000000), (0, .ref rG), (1, .ref ql), (2, .ref qe), (3, .ref qw), (4, .ref qh), (5, .ref qn), (6, .ref qp), (7, .int p7)]) C dL_areRanked_30 (by decide) rfl ?_
    obtain ⟨r2, h2, hf⟩ := bd_e hf
    refine g_lv [4, 5, 6, 7, 8, 9, 10, 11, 3, 2, 1, 0] (lv' := [(0, .ref rG), (1, .ref ql), (2, .ref qe), (3, .ref qw), (4, .ref qh), (5, .ref qn), (6, .ref qp), (7, .int p7), (8, .int 2000000), (9, .int (-1)), (10, .int 1), (11, .int 0)]) rfl ?_
    refine wlL_areRanked_32 C N rG rV rN rT aS ql qe qw qh qn qp v gl ge gw gh gn gp p7 N 2000000 (-1) 1 0 r2 h2 ?_
    refine g_aload (pc := 153) (x := qn) C dL_areRanked_153 rfl ?_
    refine g_aload (pc := 155) (x := qp) C dL_areRanked_155 rfl ?_
    refine g_callWA (wr := wG (kD k) rG (aS 0) rV rN rT  ++ (wS (kD k) aS v ++ (wA10 (kD k) ql gl ++ (wA10 (kD k) qe ge ++ (wA10 (kD k) qw gw ++ (wA10 (kD k) qh gh)))))) (pc' := 160) (cs' := 0) (sl' := 0) hf C (fun u => some (.int u)) (fun u => (wA9 (kD k) qn gn ++ (wA21 (kD k) qp gp))) (((pm0 (pm0 (pm0 (pm0 (pm0 (pm0 (List.Perm.refl _))))))).trans (pmc (pm0 (pm0 (pm0 (pm0 (pm0 pmL))))))).trans as2) (fun u hu => gr_S (rest := []) C (cL_free_ (kL k) C.tr (kD k) N qn qp gn gp u hu) (fun ht => va_cwS 2 ht gL_areRanked_L_free rfl rfl rfl hsL_free ⟨(Nat.le_of_ble_eq_true rfl), (Nat.le_of_ble_eq_true rfl)⟩) _ (rg_map _ _) (rg_nd _) rfl rfl (Nat.le_of_ble_eq_true rfl) dL_areRanked_157 ⟨(Nat.le_of_ble_eq_true rfl), (Nat.le_of_ble_eq_true rfl)⟩) (ws' := fun u => (wG (kD k) rG (aS 0) rV rN rT  ++ (wS (kD k) aS v ++ (wA10 (kD k) ql gl ++ (wA10 (kD k) qe ge ++ (wA10 (kD k) qw gw ++ (wA10 (kD k) qh gh ++ (wA9 (kD k) qn gn ++ (wA21 (kD k) qp gp))))))))) (fun u => (as2.symm.trans ((pm0 (pm0 (List.Perm.refl _))).trans (pmc ((pm0 (pm0 (List.Perm.refl _))).trans (pmc ((pm0 (pm0 (List.Perm.refl _))).trans (pmc ((pm0 (pm0 (List.Perm.refl _))).trans (pmc ((pm0 (pm0 (List.Perm.refl _))).trans (pmc (pm0 pmL))))))))))))) rfl rfl rfl (fun u => [.int u]) (fun u => rfl) (fun r3 hf => ?_)
    refine g_istore (pc := 160) (lv' := [(11, .int r3), (0, .ref rG), (1, .ref ql), (5, .ref qn), (6, .ref qp), (10, .int r2)]) C dL_areRanked_160 (by decide) rfl ?_
    refine g_iconst (pc := 162) (v := 0) C dL_areRanked_162 (by decide) ?_
    refine g_istore (pc := 163) (lv' := [(12, .int 0), (11, .int r3), (0, .ref rG), (1, .ref ql), (5, .ref qn), (6, .ref qp), (10, .int r2)]) C dL_areRanked_163 (by decide) rfl ?_
    refine g_iconst (pc := 165) (v := 0) C dL_areRanked_165 (by decide) ?_
    refine g_istore (pc := 166) (lv' := [(13, .int 0), (12, .int 0), (11, .int r3), (0, .ref rG), (1, .ref ql), (5, .ref qn), (6, .ref qp), (10, .int r2)]) C dL_areRanked_166 (by decide) rfl ?_
    refine g_iconst (pc := 168) (v := 1) C dL_areRanked_168 (by decide) ?_
    refine g_istore (pc := 169) (lv' := [(14, .int 1), (13, .int 0), (12, .int 0), (11, .int r3), (0, .ref rG), (1, .ref ql), (5, .ref qn), (6, .ref qp), (10, .int r2)]) C dL_areRanked_169 (by decide) rfl ?_
    obtain ⟨r4, h4, hf⟩ := bd_e hf
    refine g_lv [4, 5, 6, 8, 3, 2, 1, 0] (lv' := [(0, .ref rG), (1, .ref ql), (5, .ref qn), (10, .int r2), (11, .int r3), (12, .int 0), (13, .int 0), (14, .int 1)]) rfl ?_
    refine wlL_areRanked_171 C N rG rV rN rT aS ql qe qw qh qn qp v gl ge gw gh gn gp r3 N r2 0 0 1 r4 h4 ?_
    refine g_iload (pc := 307) (x := r4.1) C dL_areRanked_307 rfl ?_
    refine g_if_eq (pc := 309) (tgt := 326) (x := r4.1) hf C dL_areRanked_309 (by decide) (fun hf => ?_) (fun hf => ?_)
    · cases hf
    · refine g_aload_n (pc := 312) (x := rG) C dL_areRanked_312 rfl ?_
      refine g_iconst (pc := 313) (v := (-1)) C dL_areRanked_313 (by decide) ?_
      refine g_callWA (wr := wA10 (kD k) ql gl ++ (wA10 (kD k) qe ge ++ (wA10 (kD k) qw gw ++ (wA10 (kD k) qh gh ++ (wA9 (kD k) qn gn ++ (wA21 (kD k) qp gp)))))) (pc' := 317) (cs' := 0) (sl' := 0) hf C (fun u => some (.int u)) (fun u => (wG (kD k) rG (aS 0) rV rN rT ++ (wS (kD k) aS v))) ((List.Perm.refl _).trans as2) (fun u hu => gr_V (rest := []) C (cX4_lengths_ (kL k) C.tr (kD k) N rG rV rN rT aS v (-1) u hu) (fun ht => cwV 1 ht gL_areRanked_X4_lengths rfl rfl rfl hdX4_lengths ⟨(Nat.le_of_ble_eq_true rfl), (Nat.le_of_ble_eq_true rfl)⟩) 0 rfl rfl _ (rg_map _ _) (rg_nd _) rfl rfl (Nat.le_of_ble_eq_true rfl) dL_areRanked_314 ⟨(Nat.le_of_ble_eq_true rfl), (Nat.le_of_ble_eq_true rfl)⟩) (ws' := fun u => (wG (kD k) rG (aS 0) rV rN rT  ++ (wS (kD k) aS v ++ (wA10 (kD k) ql gl ++ (wA10 (kD k) qe ge ++ (wA10 (kD k) qw gw ++ (wA10 (kD k) qh gh ++ (wA9 (kD k) qn gn ++ (wA21 (kD k) qp gp))))))))) (fun u => (as2.symm.trans (List.Perm.refl _))) rfl rfl rfl (fun u => [.int u]) (fun u => rfl) (fun r5 hf => ?_)
      refine g_iload (pc := 317) (x := r4.2) C dL_areRanked_317 rfl ?_
      refine g_icmp_ne (pc := 319) (tgt := 326) (x := r5) (y := r4.2) hf C dL_areRanked_319 (by decide) (fun hf => ?_) (fun hf => ?_)
      · cases hf
      · refine g_iconst (pc := 322) (v := 1) C dL_areRanked_322 (by decide) ?_
        refine g_goto (pc := 323) (tgt := 327) C dL_areRanked_323 (by decide) ?_
        obtain rfl := Option.some.inj hf
        exact g_bret (b := true) C E dL_areRanked_327 (Nat.le_of_ble_eq_true rfl) (Nat.le_of_ble_eq_true rfl) ⟨rfl, rfl⟩
set_option maxRecDepth 100000 in
set_option maxHeartbeats 4000000 in
theorem cL_areRanked_ (l : Launch) (htr : l.stackTraces = false) (D : va_G) (N : Nat) (rG : Nat) (rV : Nat) (rN : Nat) (rT : Nat) (aS : Nat → Nat) (ql : Nat) (qe : Nat) (qw : Nat) (qh : Nat) (qn : Nat) (qp : Nat) (v : VS) (gl : (Nat → Int32)) (ge : (Nat → Int32)) (gw : (Nat → Int32)) (gh : (Nat → Int32)) (gn : (Nat → Int32)) (gp : (Nat → Int32)) (p7 : Int32) (r : Bool) (hf : fL_areRanked N v gl ge gw gh gn gp p7 = some r) : Tc l D yL_areRanked wsL_areRanked rmL_areRanked [.ref rG, .ref ql, .ref qe, .ref qw, .ref qh, .ref qn, .ref qp, .int p7] (wG D rG (aS 0) rV rN rT ++ (wS D aS v ++ (wA10 D ql gl ++ (wA10 D qe ge ++ (wA10 D qw gw ++ (wA10 D qh gh ++ (wA9 D qn gn ++ (wA21 D qp gp)))))))) (fun rv w => rv = some (.int (b2i r)) ∧ w = (wG D rG (aS 0) rV rN rT ++ (wS D aS v ++ (wA10 D ql gl ++ (wA10 D qe ge ++ (wA10 D qw gw ++ (wA10 D qh gh ++ (wA9 D qn gn ++ (wA21 D qp gp))))))))) (fun _ _ => False) 0 0 := Tc_of htr (by decide +kernel) rfl (Nat.le_of_ble_eq_true rfl) (fun k C E hl hD => by subst hD; exact wkL_areRanked C N rG rV rN rT aS ql qe qw qh qn qp v gl ge gw gh gn gp p7 r hf E)
