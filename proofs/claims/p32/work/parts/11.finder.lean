def rmR (d : Nat) : Room := { frames := d, cells := 0, slots := 0, locals := 27 * d }
theorem rmRec (d : Nat) : (rmR d).frames + 1 ≤ (rmR (d + 1)).frames ∧ 8 + (8 + 11) + (rmR d).locals ≤ (rmR (d + 1)).locals := ⟨Nat.le_refl _, by show 8 + (8 + 11) + 27 * d ≤ 27 * (d + 1); omega⟩
theorem kcX0_leastSet_25 : Jvm.Cond.constant RX0 25 100000 ∈ wsX0_leastSet := by decide +kernel
theorem hsX0_leastSet : yX0_leastSet.cls ≠ "java/lang/invoke/MethodHandle" ∧ yX0_leastSet.cls ≠ "java/lang/invoke/VarHandle" ∧ (parseMethodDescriptor yX0_leastSet.desc).map (fun d => d.parameters.length) = some 5 := by decide +kernel
def lX0_leastSet_37 (N : Nat) (g : (Nat → Int32)) (l1 : Int32) (l2 : Int32) (l3 : Int32) (l4 : Int32) (F : (Nat → Int32) → Int32 → Int32 → Int32 → Int32 → Option Int32) : Nat → Int32 → Option ((Unit) ⊕ (Int32) ⊕ (Int32 × Int32))
  | 0, _ => none
  | n + 1, l5 => (if l2 ≤ l5 then some (.inl ()) else (if (20 : Int32) ≤ l5 then some (.inl ()) else (if ((l1 >>> (l5 &&& 31)) &&& 1) = (0 : Int32) then (lX0_leastSet_37 N g l1 l2 l3 l4 F n (l5 + 1)) else ck l5 20 ((if l3 = (1 : Int32) then (if (l4 - (g (Int32.toNatClampNeg l5))) = (0 : Int32) then some (.inr (.inl l5)) else (if l3 = (1 : Int32) then (if (0 : Int32) = (0 : Int32) then (lX0_leastSet_37 N g l1 l2 l3 l4 F n (l5 + 1)) else some (.inr (.inr (l5, 0)))) else ((F g l1 l5 (l3 - 1) (l4 - (g (Int32.toNatClampNeg l5)))).bind fun r2 => (if r2 = (0 : Int32) then (lX0_leastSet_37 N g l1 l2 l3 l4 F n (l5 + 1)) else some (.inr (.inr (l5, r2))))))) else (if l3 = (1 : Int32) then (if (0 : Int32) = (0 : Int32) then (lX0_leastSet_37 N g l1 l2 l3 l4 F n (l5 + 1)) else some (.inr (.inr (l5, 0)))) else ((F g l1 l5 (l3 - 1) (l4 - (g (Int32.toNatClampNeg l5)))).bind fun r1 => (if r1 = (0 : Int32) then (lX0_leastSet_37 N g l1 l2 l3 l4 F n (l5 + 1)) else some (.inr (.inr (l5, r1)))))))))))
set_option maxRecDepth 100000 in
set_option maxHeartbeats 4000000 in
theorem wlX0_leastSet_37 {k : Kt} {d : Nat} (C : gC k cX0_leastSet 8 RX0 wsX0_leastSet (rmR (d + 1)) "leastSet") (N : Nat) (aA : Nat) (g : (Nat → Int32)) (l1 : Int32) (l2 : Int32) (l3 : Int32) (l4 : Int32) (F : (Nat → Int32) → Int32 → Int32 → Int32 → Int32 → Option Int32) (hF : ∀ (aA : Nat) (g : Nat → Int32) (p1 : Int32) (p2 : Int32) (p3 : Int32) (p4 : Int32) (r : Int32), F g p1 p2 p3 p4 = some r → Tc (kL k) (kD k) yX0_leastSet wsX0_leastSet (rmR d) [.ref aA, .int p1, .int p2, .int p3, .int p4] (wA (kD k) aA g) (fun rv w => rv = some (.int r) ∧ w = (wA (kD k) aA g)) (fun _ _ => False) 0 0) : ∀ (n : Nat) (l5 : Int32) (u : (Unit) ⊕ (Int32) ⊕ (Int32 × Int32)) (hf : lX0_leastSet_37 N g l1 l2 l3 l4 F n l5 = some u) (hk0 : ∀ t : (Unit), u = (.inl t) → gG k (wA (kD k) aA g) [] 0 0 125 []) (hk1 : ∀ t : (Int32), u = (.inr (.inl t)) → gG k (wA (kD k) aA g) [(5, .int t)] 0 0 78 []) (hk2 : ∀ t : (Int32 × Int32), u = (.inr (.inr t)) → gG k (wA (kD k) aA g) [(5, .int t.1), (7, .int t.2)] 0 0 111 []), gG k (wA (kD k) aA g) [(0, .ref aA), (1, .int l1), (2, .int l2), (3, .int l3), (4, .int l4), (5, .int l5)] 0 0 37 [] := by
  intro n
  induction n with
  | zero => intro l5 u hf hk0 hk1 hk2; rw [lX0_leastSet_37] at hf; cases hf
  | succ n ih =>
    intro l5 u hf hk0 hk1 hk2
    rw [lX0_leastSet_37] at hf
    refine g_iload (pc := 37) (x := l5) C dX0_leastSet_37 rfl ?_
    refine g_iload_n (pc := 39) (x := l2) C dX0_leastSet_39 rfl ?_
    refine g_icmp_ge (pc := 40) (tgt := 125) (x := l5) (y := l2) hf C dX0_leastSet_40 (by decide) (fun hf => ?_) (fun hf => ?_)
    · obtain rfl := Option.some.inj hf
      refine g_lv [] (lv' := []) rfl ?_
      exact hk0 _ rfl
    · refine g_iload (pc := 43) (x := l5) C dX0_leastSet_43 rfl ?_
      refine g_bipush (pc := 45) (v := 20) C dX0_leastSet_45 (by decide) ?_
      refine g_icmp_ge (pc := 47) (tgt := 125) (x := l5) (y := 20) hf C dX0_leastSet_47 (by decide) (fun hf => ?_) (fun hf => ?_)
      · obtain rfl := Option.some.inj hf
        refine g_lv [] (lv' := []) rfl ?_
        exact hk0 _ rfl
      · refine g_iload_n (pc := 50) (x := l1) C dX0_leastSet_50 rfl ?_
        refine g_iload (pc := 51) (x := l5) C dX0_leastSet_51 rfl ?_
        refine g_ishr (pc := 53) (x := l1) (y := l5) C dX0_leastSet_53 ?_
        refine g_iconst (pc := 54) (v := 1) C dX0_leastSet_54 (by decide) ?_
        refine g_iand (pc := 55) (x := (l1 >>> (l5 &&& 31))) (y := 1) C dX0_leastSet_55 ?_
        refine g_if_eq (pc := 56) (tgt := 119) (x := ((l1 >>> (l5 &&& 31)) &&& 1)) hf C dX0_leastSet_56 (by decide) (fun hf => ?_) (fun hf => ?_)
        · refine g_iinc (pc := 119) (x := l5) (v := (l5 + 1)) (lv' := [(5, .int (l5 + 1)), (0, .ref aA), (1, .int l1), (2, .int l2), (3, .int l3), (4, .int l4)]) C dX0_leastSet_119 rfl rfl (by decide) rfl ?_
          refine g_goto (pc := 122) (tgt := 37) C dX0_leastSet_122 (by decide) ?_
          refine g_lv [1, 2, 3, 4, 5, 0] (lv' := [(0, .ref aA), (1, .int l1), (2, .int l2), (3, .int l3), (4, .int l4), (5, .int (l5 + 1))]) rfl ?_
          exact ih (l5 + 1) u hf hk0 hk1 hk2
        · refine g_iload (pc := 59) (x := l4) C dX0_leastSet_59 rfl ?_
          refine g_aload_n (pc := 61) (x := aA) C dX0_leastSet_61 rfl ?_
          refine g_iload (pc := 62) (x := l5) C dX0_leastSet_62 rfl ?_
          refine g_iald (pc := 64) (i := l5) hf C 0 rfl dX0_leastSet_64 (fun hf => ?_)
          refine g_isub (pc := 65) (x := l4) (y := (g (Int32.toNatClampNeg l5))) C dX0_leastSet_65 ?_
          refine g_istore (pc := 66) (lv' := [(6, .int (l4 - (g (Int32.toNatClampNeg l5)))), (0, .ref aA), (1, .int l1), (2, .int l2), (3, .int l3), (4, .int l4), (5, .int l5)]) C dX0_leastSet_66 (by decide) rfl ?_
          refine g_iload_n (pc := 68) (x := l3) C dX0_leastSet_68 rfl ?_
          refine g_iconst (pc := 69) (v := 1) C dX0_leastSet_69 (by decide) ?_
          refine g_icmp_ne (pc := 70) (tgt := 83) (x := l3) (y := 1) hf C dX0_leastSet_70 (by decide) (fun hf => ?_) (fun hf => ?_)
          · refine g_iload_n (pc := 83) (x := l3) C dX0_leastSet_83 rfl ?_
            refine g_iconst (pc := 84) (v := 1) C dX0_leastSet_84 (by decide) ?_
            refine g_icmp_ne (pc := 85) (tgt := 92) (x := l3) (y := 1) hf C dX0_leastSet_85 (by decide) (fun hf => ?_) (fun hf => ?_)
            · refine g_aload_n (pc := 92) (x := aA) C dX0_leastSet_92 rfl ?_
              refine g_iload_n (pc := 93) (x := l1) C dX0_leastSet_93 rfl ?_
              refine g_iload (pc := 94) (x := l5) C dX0_leastSet_94 rfl ?_
              refine g_iload_n (pc := 96) (x := l3) C dX0_leastSet_96 rfl ?_
              refine g_iconst (pc := 97) (v := 1) C dX0_leastSet_97 (by decide) ?_
              refine g_isub (pc := 98) (x := l3) (y := 1) C dX0_leastSet_98 ?_
              refine g_iload (pc := 99) (x := (l4 - (g (Int32.toNatClampNeg l5)))) C dX0_leastSet_99 rfl ?_
              refine g_callR (pc' := 104) (cs' := 0) (sl' := 0) hf C (fun u => some (.int u)) (fun u hu => gr_S (rest := []) C (hF aA g l1 l5 (l3 - 1) (l4 - (g (Int32.toNatClampNeg l5))) u hu) (fun ht => va_cwS 5 ht gX0_leastSet_X0_leastSet rfl rfl rfl hsX0_leastSet (rmRec d)) [0] rfl (by decide) rfl rfl (Nat.le_of_ble_eq_true rfl) dX0_leastSet_101 ⟨Nat.zero_le _, Nat.zero_le _⟩) [0] rfl rfl rfl rfl (fun u => [.int u]) (fun u => rfl) (fun r1 hf => ?_)
              refine g_istore (pc := 104) (lv' := [(7, .int r1), (6, .int (l4 - (g (Int32.toNatClampNeg l5)))), (0, .ref aA), (1, .int l1), (2, .int l2), (3, .int l3), (4, .int l4), (5, .int l5)]) C dX0_leastSet_104 (by decide) rfl ?_
              refine g_iload (pc := 106) (x := r1) C dX0_leastSet_106 rfl ?_
              refine g_if_eq (pc := 108) (tgt := 119) (x := r1) hf C dX0_leastSet_108 (by decide) (fun hf => ?_) (fun hf => ?_)
              · refine g_iinc (pc := 119) (x := l5) (v := (l5 + 1)) (lv' := [(5, .int (l5 + 1)), (7, .int r1), (6, .int (l4 - (g (Int32.toNatClampNeg l5)))), (0, .ref aA), (1, .int l1), (2, .int l2), (3, .int l3), (4, .int l4)]) C dX0_leastSet_119 rfl rfl (by decide) rfl ?_
                refine g_goto (pc := 122) (tgt := 37) C dX0_leastSet_122 (by decide) ?_
                refine g_lv [3, 4, 5, 6, 7, 0] (lv' := [(0, .ref aA), (1, .int l1), (2, .int l2), (3, .int l3), (4, .int l4), (5, .int (l5 + 1))]) rfl ?_
                exact ih (l5 + 1) u hf hk0 hk1 hk2
              · obtain rfl := Option.some.inj hf
                refine g_lv [7, 0] (lv' := [(5, .int l5), (7, .int r1)]) rfl ?_
                exact hk2 _ rfl
            · refine g_iconst (pc := 88) (v := 0) C dX0_leastSet_88 (by decide) ?_
              refine g_goto (pc := 89) (tgt := 104) C dX0_leastSet_89 (by decide) ?_
              refine g_istore (pc := 104) (lv' := [(7, .int 0), (6, .int (l4 - (g (Int32.toNatClampNeg l5)))), (0, .ref aA), (1, .int l1), (2, .int l2), (3, .int l3), (4, .int l4), (5, .int l5)]) C dX0_leastSet_104 (by decide) rfl ?_
              refine g_iload (pc := 106) (x := 0) C dX0_leastSet_106 rfl ?_
              refine g_if_eq (pc := 108) (tgt := 119) (x := 0) hf C dX0_leastSet_108 (by decide) (fun hf => ?_) (fun hf => ?_)
              · refine g_iinc (pc := 119) (x := l5) (v := (l5 + 1)) (lv' := [(5, .int (l5 + 1)), (7, .int 0), (6, .int (l4 - (g (Int32.toNatClampNeg l5)))), (0, .ref aA), (1, .int l1), (2, .int l2), (3, .int l3), (4, .int l4)]) C dX0_leastSet_119 rfl rfl (by decide) rfl ?_
                refine g_goto (pc := 122) (tgt := 37) C dX0_leastSet_122 (by decide) ?_
                refine g_lv [3, 4, 5, 6, 7, 0] (lv' := [(0, .ref aA), (1, .int l1), (2, .int l2), (3, .int l3), (4, .int l4), (5, .int (l5 + 1))]) rfl ?_
                exact ih (l5 + 1) u hf hk0 hk1 hk2
              · obtain rfl := Option.some.inj hf
                refine g_lv [7, 0] (lv' := [(5, .int l5), (7, .int 0)]) rfl ?_
                exact hk2 _ rfl
          · refine g_iload (pc := 73) (x := (l4 - (g (Int32.toNatClampNeg l5)))) C dX0_leastSet_73 rfl ?_
            refine g_if_ne (pc := 75) (tgt := 83) (x := (l4 - (g (Int32.toNatClampNeg l5)))) hf C dX0_leastSet_75 (by decide) (fun hf => ?_) (fun hf => ?_)
            · refine g_iload_n (pc := 83) (x := l3) C dX0_leastSet_83 rfl ?_
              refine g_iconst (pc := 84) (v := 1) C dX0_leastSet_84 (by decide) ?_
              refine g_icmp_ne (pc := 85) (tgt := 92) (x := l3) (y := 1) hf C dX0_leastSet_85 (by decide) (fun hf => ?_) (fun hf => ?_)
              · refine g_aload_n (pc := 92) (x := aA) C dX0_leastSet_92 rfl ?_
                refine g_iload_n (pc := 93) (x := l1) C dX0_leastSet_93 rfl ?_
                refine g_iload (pc := 94) (x := l5) C dX0_leastSet_94 rfl ?_
                refine g_iload_n (pc := 96) (x := l3) C dX0_leastSet_96 rfl ?_
                refine g_iconst (pc := 97) (v := 1) C dX0_leastSet_97 (by decide) ?_
                refine g_isub (pc := 98) (x := l3) (y := 1) C dX0_leastSet_98 ?_
                refine g_iload (pc := 99) (x := (l4 - (g (Int32.toNatClampNeg l5)))) C dX0_leastSet_99 rfl ?_
                refine g_callR (pc' := 104) (cs' := 0) (sl' := 0) hf C (fun u => some (.int u)) (fun u hu => gr_S (rest := []) C (hF aA g l1 l5 (l3 - 1) (l4 - (g (Int32.toNatClampNeg l5))) u hu) (fun ht => va_cwS 5 ht gX0_leastSet_X0_leastSet rfl rfl rfl hsX0_leastSet (rmRec d)) [0] rfl (by decide) rfl rfl (Nat.le_of_ble_eq_true rfl) dX0_leastSet_101 ⟨Nat.zero_le _, Nat.zero_le _⟩) [0] rfl rfl rfl rfl (fun u => [.int u]) (fun u => rfl) (fun r2 hf => ?_)
                refine g_istore (pc := 104) (lv' := [(7, .int r2), (6, .int (l4 - (g (Int32.toNatClampNeg l5)))), (0, .ref aA), (1, .int l1), (2, .int l2), (3, .int l3), (4, .int l4), (5, .int l5)]) C dX0_leastSet_104 (by decide) rfl ?_
                refine g_iload (pc := 106) (x := r2) C dX0_leastSet_106 rfl ?_
                refine g_if_eq (pc := 108) (tgt := 119) (x := r2) hf C dX0_leastSet_108 (by decide) (fun hf => ?_) (fun hf => ?_)
                · refine g_iinc (pc := 119) (x := l5) (v := (l5 + 1)) (lv' := [(5, .int (l5 + 1)), (7, .int r2), (6, .int (l4 - (g (Int32.toNatClampNeg l5)))), (0, .ref aA), (1, .int l1), (2, .int l2), (3, .int l3), (4, .int l4)]) C dX0_leastSet_119 rfl rfl (by decide) rfl ?_
                  refine g_goto (pc := 122) (tgt := 37) C dX0_leastSet_122 (by decide) ?_
                  refine g_lv [3, 4, 5, 6, 7, 0] (lv' := [(0, .ref aA), (1, .int l1), (2, .int l2), (3, .int l3), (4, .int l4), (5, .int (l5 + 1))]) rfl ?_
                  exact ih (l5 + 1) u hf hk0 hk1 hk2
                · obtain rfl := Option.some.inj hf
                  refine g_lv [7, 0] (lv' := [(5, .int l5), (7, .int r2)]) rfl ?_
                  exact hk2 _ rfl
              · refine g_iconst (pc := 88) (v := 0) C dX0_leastSet_88 (by decide) ?_
                refine g_goto (pc := 89) (tgt := 104) C dX0_leastSet_89 (by decide) ?_
                refine g_istore (pc := 104) (lv' := [(7, .int 0), (6, .int (l4 - (g (Int32.toNatClampNeg l5)))), (0, .ref aA), (1, .int l1), (2, .int l2), (3, .int l3), (4, .int l4), (5, .int l5)]) C dX0_leastSet_104 (by decide) rfl ?_
                refine g_iload (pc := 106) (x := 0) C dX0_leastSet_106 rfl ?_
                refine g_if_eq (pc := 108) (tgt := 119) (x := 0) hf C dX0_leastSet_108 (by decide) (fun hf => ?_) (fun hf => ?_)
                · refine g_iinc (pc := 119) (x := l5) (v := (l5 + 1)) (lv' := [(5, .int (l5 + 1)), (7, .int 0), (6, .int (l4 - (g (Int32.toNatClampNeg l5)))), (0, .ref aA), (1, .int l1), (2, .int l2), (3, .int l3), (4, .int l4)]) C dX0_leastSet_119 rfl rfl (by decide) rfl ?_
                  refine g_goto (pc := 122) (tgt := 37) C dX0_leastSet_122 (by decide) ?_
                  refine g_lv [3, 4, 5, 6, 7, 0] (lv' := [(0, .ref aA), (1, .int l1), (2, .int l2), (3, .int l3), (4, .int l4), (5, .int (l5 + 1))]) rfl ?_
                  exact ih (l5 + 1) u hf hk0 hk1 hk2
                · obtain rfl := Option.some.inj hf
                  refine g_lv [7, 0] (lv' := [(5, .int l5), (7, .int 0)]) rfl ?_
                  exact hk2 _ rfl
            · obtain rfl := Option.some.inj hf
              refine g_lv [6] (lv' := [(5, .int l5)]) rfl ?_
              exact hk1 _ rfl
def bX0_leastSet (N : Nat) (F : (Nat → Int32) → Int32 → Int32 → Int32 → Int32 → Option Int32) (g : (Nat → Int32)) (p1 : Int32) (p2 : Int32) (p3 : Int32) (p4 : Int32) : Option Int32 := (if p3 < (1 : Int32) then some 0 else (if (6 : Int32) < p3 then some 0 else (if p4 < (p3 * 500) then some 0 else (if p4 ≤ (p3 * 100000) then ((lX0_leastSet_37 N g p1 p2 p3 p4 F N (p3 - 1)).bind fun r1 => Sum.elim (fun (t1 : (Unit)) => some 0) (fun (y0 : (Int32) ⊕ (Int32 × Int32)) => Sum.elim (fun (t1 : (Int32)) => some ((1 : Int32) <<< (t1 &&& 31))) (fun (y1 : (Int32 × Int32)) => (fun (t1 : (Int32 × Int32)) => some (t1.2 ||| ((1 : Int32) <<< (t1.1 &&& 31)))) y1) y0) r1) else some 0))))
def fX0_leastSet (N : Nat) : Nat → (Nat → Int32) → Int32 → Int32 → Int32 → Int32 → Option Int32
  | 0, _, _, _, _, _ => none
  | d + 1, g, p1, p2, p3, p4 => bX0_leastSet N (fX0_leastSet N d) g p1 p2 p3 p4
set_option maxRecDepth 100000 in
set_option maxHeartbeats 4000000 in
theorem wkX0_leastSet {k : Kt} {d : Nat} (C : gC k cX0_leastSet 8 RX0 wsX0_leastSet (rmR (d + 1)) "leastSet") (N : Nat) (F : (Nat → Int32) → Int32 → Int32 → Int32 → Int32 → Option Int32) (hF : ∀ (aA : Nat) (g : Nat → Int32) (p1 : Int32) (p2 : Int32) (p3 : Int32) (p4 : Int32) (r : Int32), F g p1 p2 p3 p4 = some r → Tc (kL k) (kD k) yX0_leastSet wsX0_leastSet (rmR d) [.ref aA, .int p1, .int p2, .int p3, .int p4] (wA (kD k) aA g) (fun rv w => rv = some (.int r) ∧ w = (wA (kD k) aA g)) (fun _ _ => False) 0 0) (aA : Nat) (g : (Nat → Int32)) (p1 : Int32) (p2 : Int32) (p3 : Int32) (p4 : Int32) (r : Int32) (hf : bX0_leastSet N F g p1 p2 p3 p4 = some r) (E : gE k (wA (kD k) aA g) (fun rv w => rv = some (.int r) ∧ w = (wA (kD k) aA g)) (fun _ _ => False) 0 0 (some .int) []) : gG k (wA (kD k) aA g) [(0, .ref aA), (1, .int p1), (2, .int p2), (3, .int p3), (4, .int p4)] 0 0 0 [] := by
  unfold bX0_leastSet at hf
  refine g_iload_n (pc := 0) (x := p3) C dX0_leastSet_0 rfl ?_
  refine g_iconst (pc := 1) (v := 1) C dX0_leastSet_1 (by decide) ?_
  refine g_icmp_lt (pc := 2) (tgt := 30) (x := p3) (y := 1) hf C dX0_leastSet_2 (by decide) (fun hf => ?_) (fun hf => ?_)
  · refine g_iconst (pc := 30) (v := 0) C dX0_leastSet_30 (by decide) ?_
    obtain rfl := Option.some.inj hf
    exact g_iret (v := 0) C E dX0_leastSet_31 (Nat.le_of_ble_eq_true rfl) (Nat.le_of_ble_eq_true rfl) ⟨rfl, rfl⟩
  · refine g_iload_n (pc := 5) (x := p3) C dX0_leastSet_5 rfl ?_
    refine g_bipush (pc := 6) (v := 6) C dX0_leastSet_6 (by decide) ?_
    refine g_icmp_gt (pc := 8) (tgt := 30) (x := p3) (y := 6) hf C dX0_leastSet_8 (by decide) (fun hf => ?_) (fun hf => ?_)
    · refine g_iconst (pc := 30) (v := 0) C dX0_leastSet_30 (by decide) ?_
      obtain rfl := Option.some.inj hf
      exact g_iret (v := 0) C E dX0_leastSet_31 (Nat.le_of_ble_eq_true rfl) (Nat.le_of_ble_eq_true rfl) ⟨rfl, rfl⟩
    · refine g_iload (pc := 11) (x := p4) C dX0_leastSet_11 rfl ?_
      refine g_iload_n (pc := 13) (x := p3) C dX0_leastSet_13 rfl ?_
      refine g_sipush (pc := 14) (v := 500) C dX0_leastSet_14 (by decide) ?_
      refine g_imul (pc := 17) (x := p3) (y := 500) C dX0_leastSet_17 ?_
      refine g_icmp_lt (pc := 18) (tgt := 30) (x := p4) (y := (p3 * 500)) hf C dX0_leastSet_18 (by decide) (fun hf => ?_) (fun hf => ?_)
      · refine g_iconst (pc := 30) (v := 0) C dX0_leastSet_30 (by decide) ?_
        obtain rfl := Option.some.inj hf
        exact g_iret (v := 0) C E dX0_leastSet_31 (Nat.le_of_ble_eq_true rfl) (Nat.le_of_ble_eq_true rfl) ⟨rfl, rfl⟩
      · refine g_iload (pc := 21) (x := p4) C dX0_leastSet_21 rfl ?_
        refine g_iload_n (pc := 23) (x := p3) C dX0_leastSet_23 rfl ?_
        refine g_ldc (pc := 24) (v := 100000) C dX0_leastSet_24 kcX0_leastSet_25 ?_
        refine g_imul (pc := 26) (x := p3) (y := 100000) C dX0_leastSet_26 ?_
        refine g_icmp_le (pc := 27) (tgt := 32) (x := p4) (y := (p3 * 100000)) hf C dX0_leastSet_27 (by decide) (fun hf => ?_) (fun hf => ?_)
        · refine g_iload_n (pc := 32) (x := p3) C dX0_leastSet_32 rfl ?_
          refine g_iconst (pc := 33) (v := 1) C dX0_leastSet_33 (by decide) ?_
          refine g_isub (pc := 34) (x := p3) (y := 1) C dX0_leastSet_34 ?_
          refine g_istore (pc := 35) (lv' := [(5, .int (p3 - 1)), (0, .ref aA), (1, .int p1), (2, .int p2), (3, .int p3), (4, .int p4)]) C dX0_leastSet_35 (by decide) rfl ?_
          obtain ⟨r1, h1, hf⟩ := bd_e hf
          refine g_lv [1, 2, 3, 4, 5, 0] (lv' := [(0, .ref aA), (1, .int p1), (2, .int p2), (3, .int p3), (4, .int p4), (5, .int (p3 - 1))]) rfl ?_
          refine wlX0_leastSet_37 C N aA g p1 p2 p3 p4 F hF N (p3 - 1) r1 h1 (fun t1 e => ?_) (fun t1 e => ?_) (fun t1 e => ?_)
          · subst e
            refine g_iconst (pc := 125) (v := 0) C dX0_leastSet_125 (by decide) ?_
            obtain rfl := Option.some.inj hf
            exact g_iret (v := 0) C E dX0_leastSet_126 (Nat.le_of_ble_eq_true rfl) (Nat.le_of_ble_eq_true rfl) ⟨rfl, rfl⟩
          · subst e
            refine g_iconst (pc := 78) (v := 1) C dX0_leastSet_78 (by decide) ?_
            refine g_iload (pc := 79) (x := t1) C dX0_leastSet_79 rfl ?_
            refine g_ishl (pc := 81) (x := (1 : Int32)) (y := t1) C dX0_leastSet_81 ?_
            obtain rfl := Option.some.inj hf
            exact g_iret (v := ((1 : Int32) <<< (t1 &&& 31))) C E dX0_leastSet_82 (Nat.le_of_ble_eq_true rfl) (Nat.le_of_ble_eq_true rfl) ⟨rfl, rfl⟩
          · subst e
            refine g_iload (pc := 111) (x := t1.2) C dX0_leastSet_111 rfl ?_
            refine g_iconst (pc := 113) (v := 1) C dX0_leastSet_113 (by decide) ?_
            refine g_iload (pc := 114) (x := t1.1) C dX0_leastSet_114 rfl ?_
            refine g_ishl (pc := 116) (x := (1 : Int32)) (y := t1.1) C dX0_leastSet_116 ?_
            refine g_ior (pc := 117) (x := t1.2) (y := ((1 : Int32) <<< (t1.1 &&& 31))) C dX0_leastSet_117 ?_
            obtain rfl := Option.some.inj hf
            exact g_iret (v := (t1.2 ||| ((1 : Int32) <<< (t1.1 &&& 31)))) C E dX0_leastSet_118 (Nat.le_of_ble_eq_true rfl) (Nat.le_of_ble_eq_true rfl) ⟨rfl, rfl⟩
        · refine g_iconst (pc := 30) (v := 0) C dX0_leastSet_30 (by decide) ?_
          obtain rfl := Option.some.inj hf
          exact g_iret (v := 0) C E dX0_leastSet_31 (Nat.le_of_ble_eq_true rfl) (Nat.le_of_ble_eq_true rfl) ⟨rfl, rfl⟩
set_option maxRecDepth 100000 in
set_option maxHeartbeats 4000000 in
theorem cX0_leastSet_ (l : Launch) (htr : l.stackTraces = false) (D : va_G) (N : Nat) : ∀ (d : Nat) (aA : Nat) (g : (Nat → Int32)) (p1 : Int32) (p2 : Int32) (p3 : Int32) (p4 : Int32) (r : Int32) (hf : fX0_leastSet N d g p1 p2 p3 p4 = some r), Tc l D yX0_leastSet wsX0_leastSet (rmR d) [.ref aA, .int p1, .int p2, .int p3, .int p4] (wA D aA g) (fun rv w => rv = some (.int r) ∧ w = (wA D aA g)) (fun _ _ => False) 0 0 := by
  intro d
  induction d with
  | zero => intro aA g p1 p2 p3 p4 r hf; rw [fX0_leastSet] at hf; cases hf
  | succ d ih =>
    intro aA g p1 p2 p3 p4 r hf
    rw [fX0_leastSet] at hf
    exact Tc_of htr (by decide +kernel) rfl (Nat.le_of_ble_eq_true rfl) (fun k C E hl hD => by subst hD; subst hl; exact wkX0_leastSet C N _ (fun aA g p1 p2 p3 p4 r h => ih aA g p1 p2 p3 p4 r h) aA g p1 p2 p3 p4 r hf E)
abbrev rmX0_fewestFor : Room := { frames := 9, cells := 0, slots := 0, locals := 243 }
theorem inX0_fewestFor_X3 : ∀ w ∈ wsX30, w ∈ wsX0_fewestFor := by decide +kernel
theorem lkX0_fewestFor_15 : Cond.fieldLink RX0 15 "GaugeBlocks$State" (TX3 0).2.1 (TX3 0).2.2.1 ∈ wsX0_fewestFor := by decide +kernel
theorem hsX0_fewestFor : yX0_fewestFor.cls ≠ "java/lang/invoke/MethodHandle" ∧ yX0_fewestFor.cls ≠ "java/lang/invoke/VarHandle" ∧ (parseMethodDescriptor yX0_fewestFor.desc).map (fun d => d.parameters.length) = some 2 := by decide +kernel
def lX0_fewestFor_8 (N : Nat) (v : VS) (l1 : Int32) (l2 : Int32) : Nat → Int32 → Option ((Unit) ⊕ (Int32))
  | 0, _ => none
  | n + 1, l3 => (if (6 : Int32) < l3 then some (.inl ()) else ((fX0_leastSet N 8 (sN v) l2 20 l3 l1).bind fun r1 => (if r1 = (0 : Int32) then (lX0_fewestFor_8 N v l1 l2 n (l3 + 1)) else some (.inr r1))))
set_option maxRecDepth 100000 in
set_option maxHeartbeats 4000000 in
theorem wlX0_fewestFor_8 {k : Kt} (C : gC k cX0_fewestFor 5 RX0 wsX0_fewestFor rmX0_fewestFor "fewestFor") (N : Nat) (aS : Nat → Nat) (v : VS) (l1 : Int32) (l2 : Int32) : ∀ (n : Nat) (l3 : Int32) (u : (Unit) ⊕ (Int32)) (hf : lX0_fewestFor_8 N v l1 l2 n l3 = some u) (hk0 : ∀ t : (Unit), u = (.inl t) → gG k (wS (kD k) aS v) [] 0 0 42 []) (hk1 : ∀ t : (Int32), u = (.inr t) → gG k (wS (kD k) aS v) [(4, .int t)] 0 0 33 []), gG k (wS (kD k) aS v) [(0, .ref (aS 0)), (1, .int l1), (2, .int l2), (3, .int l3)] 0 0 8 [] := by
  intro n
  induction n with
  | zero => intro l3 u hf hk0 hk1; rw [lX0_fewestFor_8] at hf; cases hf
  | succ n ih =>
    intro l3 u hf hk0 hk1
    rw [lX0_fewestFor_8] at hf
    refine g_iload_n (pc := 8) (x := l3) C dX0_fewestFor_8 rfl ?_
    refine g_bipush (pc := 9) (v := 6) C dX0_fewestFor_9 (by decide) ?_
    refine g_icmp_gt (pc := 11) (tgt := 42) (x := l3) (y := 6) hf C dX0_fewestFor_11 (by decide) (fun hf => ?_) (fun hf => ?_)
    · obtain rfl := Option.some.inj hf
      refine g_lv [] (lv' := []) rfl ?_
      exact hk0 _ rfl
    · refine g_aload_n (pc := 14) (x := (aS 0)) C dX0_fewestFor_14 rfl ?_
      refine g_getf (pc := 15) C 0 rfl rfl inX0_fewestFor_X3 0 (by decide) lkX0_fewestFor_15 rfl rfl dX0_fewestFor_15 ?_
      refine g_iload_n (pc := 18) (x := l2) C dX0_fewestFor_18 rfl ?_
      refine g_bipush (pc := 19) (v := 20) C dX0_fewestFor_19 (by decide) ?_
      refine g_iload_n (pc := 21) (x := l3) C dX0_fewestFor_21 rfl ?_
      refine g_iload_n (pc := 22) (x := l1) C dX0_fewestFor_22 rfl ?_
      refine g_callR (pc' := 26) (cs' := 0) (sl' := 0) hf C (fun u => some (.int u)) (fun u hu => gr_S (rest := []) C (cX0_leastSet_ (kL k) C.tr (kD k) N 8 (aS 1) (sN v) l2 20 l3 l1 u hu) (fun ht => va_cwS 5 ht gX0_fewestFor_X0_leastSet rfl rfl rfl hsX0_leastSet ⟨(Nat.le_of_ble_eq_true rfl), (Nat.le_of_ble_eq_true rfl)⟩) [1] rfl (by decide) rfl rfl (Nat.le_of_ble_eq_true rfl) dX0_fewestFor_23 ⟨(Nat.le_of_ble_eq_true rfl), (Nat.le_of_ble_eq_true rfl)⟩) [1] rfl rfl rfl rfl (fun u => [.int u]) (fun u => rfl) (fun r1 hf => ?_)
      refine g_istore (pc := 26) (lv' := [(4, .int r1), (0, .ref (aS 0)), (1, .int l1), (2, .int l2), (3, .int l3)]) C dX0_fewestFor_26 (by decide) rfl ?_
      refine g_iload (pc := 28) (x := r1) C dX0_fewestFor_28 rfl ?_
      refine g_if_eq (pc := 30) (tgt := 36) (x := r1) hf C dX0_fewestFor_30 (by decide) (fun hf => ?_) (fun hf => ?_)
      · refine g_iinc (pc := 36) (x := l3) (v := (l3 + 1)) (lv' := [(3, .int (l3 + 1)), (4, .int r1), (0, .ref (aS 0)), (1, .int l1), (2, .int l2)]) C dX0_fewestFor_36 rfl rfl (by decide) rfl ?_
        refine g_goto (pc := 39) (tgt := 8) C dX0_fewestFor_39 (by decide) ?_
        refine g_lv [2, 3, 4, 0] (lv' := [(0, .ref (aS 0)), (1, .int l1), (2, .int l2), (3, .int (l3 + 1))]) rfl ?_
        exact ih (l3 + 1) u hf hk0 hk1
      · obtain rfl := Option.some.inj hf
        refine g_lv [0] (lv' := [(4, .int r1)]) rfl ?_
        exact hk1 _ rfl
def fX0_fewestFor (N : Nat) (v : VS) (p1 : Int32) : Option (Int32) := ((fX3_blocksIn N v (-1)).bind fun r1 => ((lX0_fewestFor_8 N v p1 r1 N 1).bind fun r2 => Sum.elim (fun (t2 : (Unit)) => some 0) (fun (y0 : (Int32)) => (fun (t2 : (Int32)) => some t2) y0) r2))
set_option maxRecDepth 100000 in
set_option maxHeartbeats 4000000 in
theorem wkX0_fewestFor {k : Kt} (C : gC k cX0_fewestFor 5 RX0 wsX0_fewestFor rmX0_fewestFor "fewestFor") (N : Nat) (aS : Nat → Nat) (v : VS) (p1 : Int32) (r : Int32) (hf : fX0_fewestFor N v p1 = some r) (E : gE k (wS (kD k) aS v) (fun rv w => rv = some (.int r) ∧ w = (wS (kD k) aS v)) (fun _ _ => False) 0 0 (some .int) []) : gG k (wS (kD k) aS v) [(0, .ref (aS 0)), (1, .int p1)] 0 0 0 [] := by
  unfold fX0_fewestFor at hf
  refine g_aload_n (pc := 0) (x := (aS 0)) C dX0_fewestFor_0 rfl ?_
  refine g_iconst (pc := 1) (v := (-1)) C dX0_fewestFor_1 (by decide) ?_
  refine g_callR (pc' := 5) (cs' := 0) (sl' := 0) hf C (fun u => some (.int u)) (fun u hu => gr_V (rest := []) C (cX3_blocksIn_ (kL k) C.tr (kD k) N aS v (-1) u hu) (fun ht => cwV 1 ht gX0_fewestFor_X3_blocksIn rfl rfl rfl hdX3_blocksIn ⟨(Nat.le_of_ble_eq_true rfl), (Nat.le_of_ble_eq_true rfl)⟩) 0 rfl rfl [0, 1, 2, 3, 4, 5, 6, 7, 8] rfl (by decide) rfl rfl (Nat.le_of_ble_eq_true rfl) dX0_fewestFor_2 ⟨(Nat.le_of_ble_eq_true rfl), (Nat.le_of_ble_eq_true rfl)⟩) [0, 1, 2, 3, 4, 5, 6, 7, 8] rfl rfl rfl rfl (fun u => [.int u]) (fun u => rfl) (fun r1 hf => ?_)
  refine g_istore_n (pc := 5) (lv' := [(2, .int r1), (0, .ref (aS 0)), (1, .int p1)]) C dX0_fewestFor_5 (by decide) rfl ?_
  refine g_iconst (pc := 6) (v := 1) C dX0_fewestFor_6 (by decide) ?_
  refine g_istore_n (pc := 7) (lv' := [(3, .int 1), (2, .int r1), (0, .ref (aS 0)), (1, .int p1)]) C dX0_fewestFor_7 (by decide) rfl ?_
  obtain ⟨r2, h2, hf⟩ := bd_e hf
  refine g_lv [2, 3, 1, 0] (lv' := [(0, .ref (aS 0)), (1, .int p1), (2, .int r1), (3, .int 1)]) rfl ?_
  refine wlX0_fewestFor_8 C N aS v p1 r1 N 1 r2 h2 (fun t2 e => ?_) (fun t2 e => ?_)
  · subst e
    refine g_iconst (pc := 42) (v := 0) C dX0_fewestFor_42 (by decide) ?_
    obtain rfl := Option.some.inj hf
    exact g_iret (v := 0) C E dX0_fewestFor_43 (Nat.le_of_ble_eq_true rfl) (Nat.le_of_ble_eq_true rfl) ⟨rfl, rfl⟩
  · subst e
    refine g_iload (pc := 33) (x := t2) C dX0_fewestFor_33 rfl ?_
    obtain rfl := Option.some.inj hf
    exact g_iret (v := t2) C E dX0_fewestFor_35 (Nat.le_of_ble_eq_true rfl) (Nat.le_of_ble_eq_true rfl) ⟨rfl, rfl⟩
set_option maxRecDepth 100000 in
set_option maxHeartbeats 4000000 in
theorem cX0_fewestFor_ (l : Launch) (htr : l.stackTraces = false) (D : va_G) (N : Nat) (aS : Nat → Nat) (v : VS) (p1 : Int32) (r : Int32) (hf : fX0_fewestFor N v p1 = some r) : Tc l D yX0_fewestFor wsX0_fewestFor rmX0_fewestFor [.ref (aS 0), .int p1] (wS D aS v) (fun rv w => rv = some (.int r) ∧ w = (wS D aS v)) (fun _ _ => False) 0 0 := Tc_of htr (by decide +kernel) rfl (Nat.le_of_ble_eq_true rfl) (fun k C E hl hD => by subst hD; exact wkX0_fewestFor C N aS v p1 r hf E)
abbrev rmX0_zerosAtEnd : Room := { frames := 0, cells := 0, slots := 0, locals := 0 }
theorem hsX0_zerosAtEnd : yX0_zerosAtEnd.cls ≠ "java/lang/invoke/MethodHandle" ∧ yX0_zerosAtEnd.cls ≠ "java/lang/invoke/VarHandle" ∧ (parseMethodDescriptor yX0_zerosAtEnd.desc).map (fun d => d.parameters.length) = some 1 := by decide +kernel
def lX0_zerosAtEnd_4 (N : Nat)  : Nat → Int32 → Int32 → Option ((Int32))
  | 0, _, _ => none
  | n + 1, l1, l2 => (if (6 : Int32) ≤ l2 then some l2 else (if (l1 - l1 / 10 * 10) = (0 : Int32) then (lX0_zerosAtEnd_4 N n (l1 / 10) (l2 + 1)) else some l2))
set_option maxRecDepth 100000 in
set_option maxHeartbeats 4000000 in
theorem wlX0_zerosAtEnd_4 {k : Kt} (C : gC k cX0_zerosAtEnd 3 RX0 wsX0_zerosAtEnd rmX0_zerosAtEnd "zerosAtEnd") (N : Nat) : ∀ (n : Nat) (l1 : Int32) (l2 : Int32) (u : (Int32)) (hf : lX0_zerosAtEnd_4 N n l1 l2 = some u) (hk0 : gG k [] [(2, .int u)] 0 0 28 []), gG k [] [(1, .int l1), (2, .int l2)] 0 0 4 [] := by
  intro n
  induction n with
  | zero => intro l1 l2 u hf hk0; rw [lX0_zerosAtEnd_4] at hf; cases hf
  | succ n ih =>
    intro l1 l2 u hf hk0
    rw [lX0_zerosAtEnd_4] at hf
    refine g_iload_n (pc := 4) (x := l2) C dX0_zerosAtEnd_4 rfl ?_
    refine g_bipush (pc := 5) (v := 6) C dX0_zerosAtEnd_5 (by decide) ?_
    refine g_icmp_ge (pc := 7) (tgt := 28) (x := l2) (y := 6) hf C dX0_zerosAtEnd_7 (by decide) (fun hf => ?_) (fun hf => ?_)
    · obtain rfl := Option.some.inj hf
      refine g_lv [1] (lv' := [(2, .int l2)]) rfl ?_
      exact hk0
    · refine g_iload_n (pc := 10) (x := l1) C dX0_zerosAtEnd_10 rfl ?_
      refine g_bipush (pc := 11) (v := 10) C dX0_zerosAtEnd_11 (by decide) ?_
      refine g_irem (pc := 13) (x := l1) (y := 10) C dX0_zerosAtEnd_13 (by decide) ?_
      refine g_if_ne (pc := 14) (tgt := 28) (x := (l1 - l1 / 10 * 10)) hf C dX0_zerosAtEnd_14 (by decide) (fun hf => ?_) (fun hf => ?_)
      · obtain rfl := Option.some.inj hf
        refine g_lv [1] (lv' := [(2, .int l2)]) rfl ?_
        exact hk0
      · refine g_iload_n (pc := 17) (x := l1) C dX0_zerosAtEnd_17 rfl ?_
        refine g_bipush (pc := 18) (v := 10) C dX0_zerosAtEnd_18 (by decide) ?_
        refine g_idiv (pc := 20) (x := l1) (y := 10) C dX0_zerosAtEnd_20 (by decide) ?_
        refine g_istore_n (pc := 21) (lv' := [(1, .int (l1 / 10)), (2, .int l2)]) C dX0_zerosAtEnd_21 (by decide) rfl ?_
        refine g_iinc (pc := 22) (x := l2) (v := (l2 + 1)) (lv' := [(2, .int (l2 + 1)), (1, .int (l1 / 10))]) C dX0_zerosAtEnd_22 rfl rfl (by decide) rfl ?_
        refine g_goto (pc := 25) (tgt := 4) C dX0_zerosAtEnd_25 (by decide) ?_
        refine g_lv [1, 0] (lv' := [(1, .int (l1 / 10)), (2, .int (l2 + 1))]) rfl ?_
        exact ih (l1 / 10) (l2 + 1) u hf hk0
def fX0_zerosAtEnd (N : Nat) (p0 : Int32) : Option (Int32) := ((lX0_zerosAtEnd_4 N N p0 0).bind fun r1 => some r1)
set_option maxRecDepth 100000 in
set_option maxHeartbeats 4000000 in
theorem wkX0_zerosAtEnd {k : Kt} (C : gC k cX0_zerosAtEnd 3 RX0 wsX0_zerosAtEnd rmX0_zerosAtEnd "zerosAtEnd") (N : Nat) (p0 : Int32) (r : Int32) (hf : fX0_zerosAtEnd N p0 = some r) (E : gE k [] (fun rv w => rv = some (.int r) ∧ w = []) (fun _ _ => False) 0 0 (some .int) []) : gG k [] [(0, .int p0)] 0 0 0 [] := by
  unfold fX0_zerosAtEnd at hf
  refine g_iload_n (pc := 0) (x := p0) C dX0_zerosAtEnd_0 rfl ?_
  refine g_istore_n (pc := 1) (lv' := [(1, .int p0), (0, .int p0)]) C dX0_zerosAtEnd_1 (by decide) rfl ?_
  refine g_iconst (pc := 2) (v := 0) C dX0_zerosAtEnd_2 (by decide) ?_
  refine g_istore_n (pc := 3) (lv' := [(2, .int 0), (1, .int p0), (0, .int p0)]) C dX0_zerosAtEnd_3 (by decide) rfl ?_
  obtain ⟨r1, h1, hf⟩ := bd_e hf
  refine g_lv [1, 0] (lv' := [(1, .int p0), (2, .int 0)]) rfl ?_
  refine wlX0_zerosAtEnd_4 C N N p0 0 r1 h1 ?_
  refine g_iload_n (pc := 28) (x := r1) C dX0_zerosAtEnd_28 rfl ?_
  obtain rfl := Option.some.inj hf
  exact g_iret (v := r1) C E dX0_zerosAtEnd_29 (Nat.le_of_ble_eq_true rfl) (Nat.le_of_ble_eq_true rfl) ⟨rfl, rfl⟩
set_option maxRecDepth 100000 in
set_option maxHeartbeats 4000000 in
theorem cX0_zerosAtEnd_ (l : Launch) (htr : l.stackTraces = false) (D : va_G) (N : Nat) (p0 : Int32) (r : Int32) (hf : fX0_zerosAtEnd N p0 = some r) : Tc l D yX0_zerosAtEnd wsX0_zerosAtEnd rmX0_zerosAtEnd [.int p0] [] (fun rv w => rv = some (.int r) ∧ w = []) (fun _ _ => False) 0 0 := Tc_of htr (by decide +kernel) rfl (Nat.le_of_ble_eq_true rfl) (fun k C E hl hD => by subst hD; exact wkX0_zerosAtEnd C N p0 r hf E)
abbrev rmX0_nextOfOldWay : Room := { frames := 1, cells := 0, slots := 0, locals := 22 }
theorem inX0_nextOfOldWay_X3 : ∀ w ∈ wsX30, w ∈ wsX0_nextOfOldWay := by decide +kernel
theorem lkX0_nextOfOldWay_33 : Cond.fieldLink RX0 33 "GaugeBlocks$State" (TX3 8).2.1 (TX3 8).2.2.1 ∈ wsX0_nextOfOldWay := by decide +kernel
theorem lkX0_nextOfOldWay_15 : Cond.fieldLink RX0 15 "GaugeBlocks$State" (TX3 0).2.1 (TX3 0).2.2.1 ∈ wsX0_nextOfOldWay := by decide +kernel
theorem hsX0_nextOfOldWay : yX0_nextOfOldWay.cls ≠ "java/lang/invoke/MethodHandle" ∧ yX0_nextOfOldWay.cls ≠ "java/lang/invoke/VarHandle" ∧ (parseMethodDescriptor yX0_nextOfOldWay.desc).map (fun d => d.parameters.length) = some 3 := by decide +kernel
def lX0_nextOfOldWay_11 (N : Nat) (v : VS) (l1 : Int32) (l2 : Int32) (l3 : Int32) : Nat → Int32 → Int32 → Option ((Int32))
  | 0, _, _ => none
  | n + 1, l4, l5 => (if (sB v) ≤ l5 then some l4 else ck l5 20 (((fX3_isFree N v l5).bind fun r1 => (if r1 = true then (if ((l1 >>> (l5 &&& 31)) &&& 1) = (0 : Int32) then (if (1 : Int32) = (0 : Int32) then (if (0 : Int32) = (0 : Int32) then (lX0_nextOfOldWay_11 N v l1 l2 l3 n l4 (l5 + 1)) else (if l4 = ((-1) : Int32) then (lX0_nextOfOldWay_11 N v l1 l2 l3 n l5 (l5 + 1)) else ck l5 20 (ck l4 20 ((if ((sN v) (Int32.toNatClampNeg l5)) ≤ ((sN v) (Int32.toNatClampNeg l4)) then (lX0_nextOfOldWay_11 N v l1 l2 l3 n l4 (l5 + 1)) else (lX0_nextOfOldWay_11 N v l1 l2 l3 n l5 (l5 + 1))))))) else (if (l2 - ((sN v) (Int32.toNatClampNeg l5))) < (0 : Int32) then (if (0 : Int32) = (0 : Int32) then (lX0_nextOfOldWay_11 N v l1 l2 l3 n l4 (l5 + 1)) else (if l4 = ((-1) : Int32) then (lX0_nextOfOldWay_11 N v l1 l2 l3 n l5 (l5 + 1)) else ck l5 20 (ck l4 20 ((if ((sN v) (Int32.toNatClampNeg l5)) ≤ ((sN v) (Int32.toNatClampNeg l4)) then (lX0_nextOfOldWay_11 N v l1 l2 l3 n l4 (l5 + 1)) else (lX0_nextOfOldWay_11 N v l1 l2 l3 n l5 (l5 + 1))))))) else ((fX0_zerosAtEnd N (l2 - ((sN v) (Int32.toNatClampNeg l5)))).bind fun r4 => (if r4 ≤ l3 then (if (0 : Int32) = (0 : Int32) then (lX0_nextOfOldWay_11 N v l1 l2 l3 n l4 (l5 + 1)) else (if l4 = ((-1) : Int32) then (lX0_nextOfOldWay_11 N v l1 l2 l3 n l5 (l5 + 1)) else ck l5 20 (ck l4 20 ((if ((sN v) (Int32.toNatClampNeg l5)) ≤ ((sN v) (Int32.toNatClampNeg l4)) then (lX0_nextOfOldWay_11 N v l1 l2 l3 n l4 (l5 + 1)) else (lX0_nextOfOldWay_11 N v l1 l2 l3 n l5 (l5 + 1))))))) else (if (1 : Int32) = (0 : Int32) then (lX0_nextOfOldWay_11 N v l1 l2 l3 n l4 (l5 + 1)) else (if l4 = ((-1) : Int32) then (lX0_nextOfOldWay_11 N v l1 l2 l3 n l5 (l5 + 1)) else ck l5 20 (ck l4 20 ((if ((sN v) (Int32.toNatClampNeg l5)) ≤ ((sN v) (Int32.toNatClampNeg l4)) then (lX0_nextOfOldWay_11 N v l1 l2 l3 n l4 (l5 + 1)) else (lX0_nextOfOldWay_11 N v l1 l2 l3 n l5 (l5 + 1))))))))))) else (if (0 : Int32) = (0 : Int32) then (if (0 : Int32) = (0 : Int32) then (lX0_nextOfOldWay_11 N v l1 l2 l3 n l4 (l5 + 1)) else (if l4 = ((-1) : Int32) then (lX0_nextOfOldWay_11 N v l1 l2 l3 n l5 (l5 + 1)) else ck l5 20 (ck l4 20 ((if ((sN v) (Int32.toNatClampNeg l5)) ≤ ((sN v) (Int32.toNatClampNeg l4)) then (lX0_nextOfOldWay_11 N v l1 l2 l3 n l4 (l5 + 1)) else (lX0_nextOfOldWay_11 N v l1 l2 l3 n l5 (l5 + 1))))))) else (if (l2 - ((sN v) (Int32.toNatClampNeg l5))) < (0 : Int32) then (if (0 : Int32) = (0 : Int32) then (lX0_nextOfOldWay_11 N v l1 l2 l3 n l4 (l5 + 1)) else (if l4 = ((-1) : Int32) then (lX0_nextOfOldWay_11 N v l1 l2 l3 n l5 (l5 + 1)) else ck l5 20 (ck l4 20 ((if ((sN v) (Int32.toNatClampNeg l5)) ≤ ((sN v) (Int32.toNatClampNeg l4)) then (lX0_nextOfOldWay_11 N v l1 l2 l3 n l4 (l5 + 1)) else (lX0_nextOfOldWay_11 N v l1 l2 l3 n l5 (l5 + 1))))))) else ((fX0_zerosAtEnd N (l2 - ((sN v) (Int32.toNatClampNeg l5)))).bind fun r3 => (if r3 ≤ l3 then (if (0 : Int32) = (0 : Int32) then (lX0_nextOfOldWay_11 N v l1 l2 l3 n l4 (l5 + 1)) else (if l4 = ((-1) : Int32) then (lX0_nextOfOldWay_11 N v l1 l2 l3 n l5 (l5 + 1)) else ck l5 20 (ck l4 20 ((if ((sN v) (Int32.toNatClampNeg l5)) ≤ ((sN v) (Int32.toNatClampNeg l4)) then (lX0_nextOfOldWay_11 N v l1 l2 l3 n l4 (l5 + 1)) else (lX0_nextOfOldWay_11 N v l1 l2 l3 n l5 (l5 + 1))))))) else (if (1 : Int32) = (0 : Int32) then (lX0_nextOfOldWay_11 N v l1 l2 l3 n l4 (l5 + 1)) else (if l4 = ((-1) : Int32) then (lX0_nextOfOldWay_11 N v l1 l2 l3 n l5 (l5 + 1)) else ck l5 20 (ck l4 20 ((if ((sN v) (Int32.toNatClampNeg l5)) ≤ ((sN v) (Int32.toNatClampNeg l4)) then (lX0_nextOfOldWay_11 N v l1 l2 l3 n l4 (l5 + 1)) else (lX0_nextOfOldWay_11 N v l1 l2 l3 n l5 (l5 + 1)))))))))))) else (if (0 : Int32) = (0 : Int32) then (if (0 : Int32) = (0 : Int32) then (lX0_nextOfOldWay_11 N v l1 l2 l3 n l4 (l5 + 1)) else (if l4 = ((-1) : Int32) then (lX0_nextOfOldWay_11 N v l1 l2 l3 n l5 (l5 + 1)) else ck l5 20 (ck l4 20 ((if ((sN v) (Int32.toNatClampNeg l5)) ≤ ((sN v) (Int32.toNatClampNeg l4)) then (lX0_nextOfOldWay_11 N v l1 l2 l3 n l4 (l5 + 1)) else (lX0_nextOfOldWay_11 N v l1 l2 l3 n l5 (l5 + 1))))))) else (if (l2 - ((sN v) (Int32.toNatClampNeg l5))) < (0 : Int32) then (if (0 : Int32) = (0 : Int32) then (lX0_nextOfOldWay_11 N v l1 l2 l3 n l4 (l5 + 1)) else (if l4 = ((-1) : Int32) then (lX0_nextOfOldWay_11 N v l1 l2 l3 n l5 (l5 + 1)) else ck l5 20 (ck l4 20 ((if ((sN v) (Int32.toNatClampNeg l5)) ≤ ((sN v) (Int32.toNatClampNeg l4)) then (lX0_nextOfOldWay_11 N v l1 l2 l3 n l4 (l5 + 1)) else (lX0_nextOfOldWay_11 N v l1 l2 l3 n l5 (l5 + 1))))))) else ((fX0_zerosAtEnd N (l2 - ((sN v) (Int32.toNatClampNeg l5)))).bind fun r2 => (if r2 ≤ l3 then (if (0 : Int32) = (0 : Int32) then (lX0_nextOfOldWay_11 N v l1 l2 l3 n l4 (l5 + 1)) else (if l4 = ((-1) : Int32) then (lX0_nextOfOldWay_11 N v l1 l2 l3 n l5 (l5 + 1)) else ck l5 20 (ck l4 20 ((if ((sN v) (Int32.toNatClampNeg l5)) ≤ ((sN v) (Int32.toNatClampNeg l4)) then (lX0_nextOfOldWay_11 N v l1 l2 l3 n l4 (l5 + 1)) else (lX0_nextOfOldWay_11 N v l1 l2 l3 n l5 (l5 + 1))))))) else (if (1 : Int32) = (0 : Int32) then (lX0_nextOfOldWay_11 N v l1 l2 l3 n l4 (l5 + 1)) else (if l4 = ((-1) : Int32) then (lX0_nextOfOldWay_11 N v l1 l2 l3 n l5 (l5 + 1)) else ck l5 20 (ck l4 20 ((if ((sN v) (Int32.toNatClampNeg l5)) ≤ ((sN v) (Int32.toNatClampNeg l4)) then (lX0_nextOfOldWay_11 N v l1 l2 l3 n l4 (l5 + 1)) else (lX0_nextOfOldWay_11 N v l1 l2 l3 n l5 (l5 + 1)))))))))))))))
set_option maxRecDepth 100000 in
set_option maxHeartbeats 4000000 in
theorem wlX0_nextOfOldWay_11 {k : Kt} (C : gC k cX0_nextOfOldWay 9 RX0 wsX0_nextOfOldWay rmX0_nextOfOldWay "nextOfOldWay") (N : Nat) (aS : Nat → Nat) (v : VS) (l1 : Int32) (l2 : Int32) (l3 : Int32) : ∀ (n : Nat) (l4 : Int32) (l5 : Int32) (u : (Int32)) (hf : lX0_nextOfOldWay_11 N v l1 l2 l3 n l4 l5 = some u) (hk0 : gG k (wS (kD k) aS v) [(4, .int u)] 0 0 120 []), gG k (wS (kD k) aS v) [(0, .ref (aS 0)), (1, .int l1), (2, .int l2), (3, .int l3), (4, .int l4), (5, .int l5)] 0 0 11 [] := by
  intro n
  induction n with
  | zero => intro l4 l5 u hf hk0; rw [lX0_nextOfOldWay_11] at hf; cases hf
  | succ n ih =>
    intro l4 l5 u hf hk0
    rw [lX0_nextOfOldWay_11] at hf
    refine g_iload (pc := 11) (x := l5) C dX0_nextOfOldWay_11 rfl ?_
    refine g_aload_n (pc := 13) (x := (aS 0)) C dX0_nextOfOldWay_13 rfl ?_
    refine g_getf (pc := 14) C 0 rfl rfl inX0_nextOfOldWay_X3 8 (by decide) lkX0_nextOfOldWay_33 rfl rfl dX0_nextOfOldWay_14 ?_
    refine g_icmp_ge (pc := 17) (tgt := 120) (x := l5) (y := (sB v)) hf C dX0_nextOfOldWay_17 (by decide) (fun hf => ?_) (fun hf => ?_)
    · obtain rfl := Option.some.inj hf
      refine g_lv [4] (lv' := [(4, .int l4)]) rfl ?_
      exact hk0
    · refine g_iload_n (pc := 20) (x := l2) C dX0_nextOfOldWay_20 rfl ?_
      refine g_aload_n (pc := 21) (x := (aS 0)) C dX0_nextOfOldWay_21 rfl ?_
      refine g_getf (pc := 22) C 0 rfl rfl inX0_nextOfOldWay_X3 0 (by decide) lkX0_nextOfOldWay_15 rfl rfl dX0_nextOfOldWay_22 ?_
      refine g_iload (pc := 25) (x := l5) C dX0_nextOfOldWay_25 rfl ?_
      refine g_iald (pc := 27) (i := l5) hf C 1 rfl dX0_nextOfOldWay_27 (fun hf => ?_)
      refine g_isub (pc := 28) (x := l2) (y := ((sN v) (Int32.toNatClampNeg l5))) C dX0_nextOfOldWay_28 ?_
      refine g_istore (pc := 29) (lv' := [(6, .int (l2 - ((sN v) (Int32.toNatClampNeg l5)))), (0, .ref (aS 0)), (1, .int l1), (2, .int l2), (3, .int l3), (4, .int l4), (5, .int l5)]) C dX0_nextOfOldWay_29 (by decide) rfl ?_
      refine g_aload_n (pc := 31) (x := (aS 0)) C dX0_nextOfOldWay_31 rfl ?_
      refine g_iload (pc := 32) (x := l5) C dX0_nextOfOldWay_32 rfl ?_
      refine g_callR (pc' := 37) (cs' := 0) (sl' := 0) hf C (fun u => some (.int (b2i u))) (fun u hu => gr_V (rest := []) C (cX3_isFree_ (kL k) C.tr (kD k) N aS v l5 u hu) (fun ht => cwV 1 ht gX0_nextOfOldWay_X3_isFree rfl rfl rfl hdX3_isFree ⟨(Nat.le_of_ble_eq_true rfl), (Nat.le_of_ble_eq_true rfl)⟩) 0 rfl rfl [0, 1, 2, 3, 4, 5, 6, 7, 8] rfl (by decide) rfl rfl (Nat.le_of_ble_eq_true rfl) dX0_nextOfOldWay_34 ⟨(Nat.le_of_ble_eq_true rfl), (Nat.le_of_ble_eq_true rfl)⟩) [0, 1, 2, 3, 4, 5, 6, 7, 8] rfl rfl rfl rfl (fun u => [.int (b2i u)]) (fun u => rfl) (fun r1 hf => ?_)
      refine g_ifB_eq (pc := 37) (tgt := 53) (b := r1) hf C dX0_nextOfOldWay_37 (by decide) (fun hf => ?_) (fun hf => ?_)
      · refine g_iconst (pc := 53) (v := 0) C dX0_nextOfOldWay_53 (by decide) ?_
        refine g_istore (pc := 54) (lv' := [(7, .int 0), (6, .int (l2 - ((sN v) (Int32.toNatClampNeg l5)))), (0, .ref (aS 0)), (1, .int l1), (2, .int l2), (3, .int l3), (4, .int l4), (5, .int l5)]) C dX0_nextOfOldWay_54 (by decide) rfl ?_
        refine g_iload (pc := 56) (x := 0) C dX0_nextOfOldWay_56 rfl ?_
        refine g_if_eq (pc := 58) (tgt := 79) (x := 0) hf C dX0_nextOfOldWay_58 (by decide) (fun hf => ?_) (fun hf => ?_)
        · refine g_iconst (pc := 79) (v := 0) C dX0_nextOfOldWay_79 (by decide) ?_
          refine g_istore (pc := 80) (lv' := [(8, .int 0), (7, .int 0), (6, .int (l2 - ((sN v) (Int32.toNatClampNeg l5)))), (0, .ref (aS 0)), (1, .int l1), (2, .int l2), (3, .int l3), (4, .int l4), (5, .int l5)]) C dX0_nextOfOldWay_80 (by decide) rfl ?_
          refine g_iload (pc := 82) (x := 0) C dX0_nextOfOldWay_82 rfl ?_
          refine g_if_eq (pc := 84) (tgt := 114) (x := 0) hf C dX0_nextOfOldWay_84 (by decide) (fun hf => ?_) (fun hf => ?_)
          · refine g_iinc (pc := 114) (x := l5) (v := (l5 + 1)) (lv' := [(5, .int (l5 + 1)), (8, .int 0), (7, .int 0), (6, .int (l2 - ((sN v) (Int32.toNatClampNeg l5)))), (0, .ref (aS 0)), (1, .int l1), (2, .int l2), (3, .int l3), (4, .int l4)]) C dX0_nextOfOldWay_114 rfl rfl (by decide) rfl ?_
            refine g_goto (pc := 117) (tgt := 11) C dX0_nextOfOldWay_117 (by decide) ?_
            refine g_lv [4, 5, 6, 7, 8, 0] (lv' := [(0, .ref (aS 0)), (1, .int l1), (2, .int l2), (3, .int l3), (4, .int l4), (5, .int (l5 + 1))]) rfl ?_
            exact ih l4 (l5 + 1) u hf hk0
          · refine g_iload (pc := 87) (x := l4) C dX0_nextOfOldWay_87 rfl ?_
            refine g_iconst (pc := 89) (v := (-1)) C dX0_nextOfOldWay_89 (by decide) ?_
            refine g_icmp_eq (pc := 90) (tgt := 110) (x := l4) (y := (-1)) hf C dX0_nextOfOldWay_90 (by decide) (fun hf => ?_) (fun hf => ?_)
            · refine g_iload (pc := 110) (x := l5) C dX0_nextOfOldWay_110 rfl ?_
              refine g_istore (pc := 112) (lv' := [(4, .int l5), (8, .int 0), (7, .int 0), (6, .int (l2 - ((sN v) (Int32.toNatClampNeg l5)))), (0, .ref (aS 0)), (1, .int l1), (2, .int l2), (3, .int l3), (5, .int l5)]) C dX0_nextOfOldWay_112 (by decide) rfl ?_
              refine g_iinc (pc := 114) (x := l5) (v := (l5 + 1)) (lv' := [(5, .int (l5 + 1)), (4, .int l5), (8, .int 0), (7, .int 0), (6, .int (l2 - ((sN v) (Int32.toNatClampNeg l5)))), (0, .ref (aS 0)), (1, .int l1), (2, .int l2), (3, .int l3)]) C dX0_nextOfOldWay_114 rfl rfl (by decide) rfl ?_
              refine g_goto (pc := 117) (tgt := 11) C dX0_nextOfOldWay_117 (by decide) ?_
              refine g_lv [5, 6, 7, 8, 1, 0] (lv' := [(0, .ref (aS 0)), (1, .int l1), (2, .int l2), (3, .int l3), (4, .int l5), (5, .int (l5 + 1))]) rfl ?_
              exact ih l5 (l5 + 1) u hf hk0
            · refine g_aload_n (pc := 93) (x := (aS 0)) C dX0_nextOfOldWay_93 rfl ?_
              refine g_getf (pc := 94) C 0 rfl rfl inX0_nextOfOldWay_X3 0 (by decide) lkX0_nextOfOldWay_15 rfl rfl dX0_nextOfOldWay_94 ?_
              refine g_iload (pc := 97) (x := l5) C dX0_nextOfOldWay_97 rfl ?_
              refine g_iald (pc := 99) (i := l5) hf C 1 rfl dX0_nextOfOldWay_99 (fun hf => ?_)
              refine g_aload_n (pc := 100) (x := (aS 0)) C dX0_nextOfOldWay_100 rfl ?_
              refine g_getf (pc := 101) C 0 rfl rfl inX0_nextOfOldWay_X3 0 (by decide) lkX0_nextOfOldWay_15 rfl rfl dX0_nextOfOldWay_101 ?_
              refine g_iload (pc := 104) (x := l4) C dX0_nextOfOldWay_104 rfl ?_
              refine g_iald (pc := 106) (i := l4) hf C 1 rfl dX0_nextOfOldWay_106 (fun hf => ?_)
              refine g_icmp_le (pc := 107) (tgt := 114) (x := ((sN v) (Int32.toNatClampNeg l5))) (y := ((sN v) (Int32.toNatClampNeg l4))) hf C dX0_nextOfOldWay_107 (by decide) (fun hf => ?_) (fun hf => ?_)
              · refine g_iinc (pc := 114) (x := l5) (v := (l5 + 1)) (lv' := [(5, .int (l5 + 1)), (8, .int 0), (7, .int 0), (6, .int (l2 - ((sN v) (Int32.toNatClampNeg l5)))), (0, .ref (aS 0)), (1, .int l1), (2, .int l2), (3, .int l3), (4, .int l4)]) C dX0_nextOfOldWay_114 rfl rfl (by decide) rfl ?_
                refine g_goto (pc := 117) (tgt := 11) C dX0_nextOfOldWay_117 (by decide) ?_
                refine g_lv [4, 5, 6, 7, 8, 0] (lv' := [(0, .ref (aS 0)), (1, .int l1), (2, .int l2), (3, .int l3), (4, .int l4), (5, .int (l5 + 1))]) rfl ?_
                exact ih l4 (l5 + 1) u hf hk0
              · refine g_iload (pc := 110) (x := l5) C dX0_nextOfOldWay_110 rfl ?_
                refine g_istore (pc := 112) (lv' := [(4, .int l5), (8, .int 0), (7, .int 0), (6, .int (l2 - ((sN v) (Int32.toNatClampNeg l5)))), (0, .ref (aS 0)), (1, .int l1), (2, .int l2), (3, .int l3), (5, .int l5)]) C dX0_nextOfOldWay_112 (by decide) rfl ?_
                refine g_iinc (pc := 114) (x := l5) (v := (l5 + 1)) (lv' := [(5, .int (l5 + 1)), (4, .int l5), (8, .int 0), (7, .int 0), (6, .int (l2 - ((sN v) (Int32.toNatClampNeg l5)))), (0, .ref (aS 0)), (1, .int l1), (2, .int l2), (3, .int l3)]) C dX0_nextOfOldWay_114 rfl rfl (by decide) rfl ?_
                refine g_goto (pc := 117) (tgt := 11) C dX0_nextOfOldWay_117 (by decide) ?_
                refine g_lv [5, 6, 7, 8, 1, 0] (lv' := [(0, .ref (aS 0)), (1, .int l1), (2, .int l2), (3, .int l3), (4, .int l5), (5, .int (l5 + 1))]) rfl ?_
                exact ih l5 (l5 + 1) u hf hk0
        · refine g_iload (pc := 61) (x := (l2 - ((sN v) (Int32.toNatClampNeg l5)))) C dX0_nextOfOldWay_61 rfl ?_
          refine g_if_lt (pc := 63) (tgt := 79) (x := (l2 - ((sN v) (Int32.toNatClampNeg l5)))) hf C dX0_nextOfOldWay_63 (by decide) (fun hf => ?_) (fun hf => ?_)
          · refine g_iconst (pc := 79) (v := 0) C dX0_nextOfOldWay_79 (by decide) ?_
            refine g_istore (pc := 80) (lv' := [(8, .int 0), (7, .int 0), (6, .int (l2 - ((sN v) (Int32.toNatClampNeg l5)))), (0, .ref (aS 0)), (1, .int l1), (2, .int l2), (3, .int l3), (4, .int l4), (5, .int l5)]) C dX0_nextOfOldWay_80 (by decide) rfl ?_
            refine g_iload (pc := 82) (x := 0) C dX0_nextOfOldWay_82 rfl ?_
            refine g_if_eq (pc := 84) (tgt := 114) (x := 0) hf C dX0_nextOfOldWay_84 (by decide) (fun hf => ?_) (fun hf => ?_)
            · refine g_iinc (pc := 114) (x := l5) (v := (l5 + 1)) (lv' := [(5, .int (l5 + 1)), (8, .int 0), (7, .int 0), (6, .int (l2 - ((sN v) (Int32.toNatClampNeg l5)))), (0, .ref (aS 0)), (1, .int l1), (2, .int l2), (3, .int l3), (4, .int l4)]) C dX0_nextOfOldWay_114 rfl rfl (by decide) rfl ?_
              refine g_goto (pc := 117) (tgt := 11) C dX0_nextOfOldWay_117 (by decide) ?_
              refine g_lv [4, 5, 6, 7, 8, 0] (lv' := [(0, .ref (aS 0)), (1, .int l1), (2, .int l2), (3, .int l3), (4, .int l4), (5, .int (l5 + 1))]) rfl ?_
              exact ih l4 (l5 + 1) u hf hk0
            · refine g_iload (pc := 87) (x := l4) C dX0_nextOfOldWay_87 rfl ?_
              refine g_iconst (pc := 89) (v := (-1)) C dX0_nextOfOldWay_89 (by decide) ?_
              refine g_icmp_eq (pc := 90) (tgt := 110) (x := l4) (y := (-1)) hf C dX0_nextOfOldWay_90 (by decide) (fun hf => ?_) (fun hf => ?_)
              · refine g_iload (pc := 110) (x := l5) C dX0_nextOfOldWay_110 rfl ?_
                refine g_istore (pc := 112) (lv' := [(4, .int l5), (8, .int 0), (7, .int 0), (6, .int (l2 - ((sN v) (Int32.toNatClampNeg l5)))), (0, .ref (aS 0)), (1, .int l1), (2, .int l2), (3, .int l3), (5, .int l5)]) C dX0_nextOfOldWay_112 (by decide) rfl ?_
                refine g_iinc (pc := 114) (x := l5) (v := (l5 + 1)) (lv' := [(5, .int (l5 + 1)), (4, .int l5), (8, .int 0), (7, .int 0), (6, .int (l2 - ((sN v) (Int32.toNatClampNeg l5)))), (0, .ref (aS 0)), (1, .int l1), (2, .int l2), (3, .int l3)]) C dX0_nextOfOldWay_114 rfl rfl (by decide) rfl ?_
                refine g_goto (pc := 117) (tgt := 11) C dX0_nextOfOldWay_117 (by decide) ?_
                refine g_lv [5, 6, 7, 8, 1, 0] (lv' := [(0, .ref (aS 0)), (1, .int l1), (2, .int l2), (3, .int l3), (4, .int l5), (5, .int (l5 + 1))]) rfl ?_
                exact ih l5 (l5 + 1) u hf hk0
              · refine g_aload_n (pc := 93) (x := (aS 0)) C dX0_nextOfOldWay_93 rfl ?_
                refine g_getf (pc := 94) C 0 rfl rfl inX0_nextOfOldWay_X3 0 (by decide) lkX0_nextOfOldWay_15 rfl rfl dX0_nextOfOldWay_94 ?_
                refine g_iload (pc := 97) (x := l5) C dX0_nextOfOldWay_97 rfl ?_
                refine g_iald (pc := 99) (i := l5) hf C 1 rfl dX0_nextOfOldWay_99 (fun hf => ?_)
                refine g_aload_n (pc := 100) (x := (aS 0)) C dX0_nextOfOldWay_100 rfl ?_
                refine g_getf (pc := 101) C 0 rfl rfl inX0_nextOfOldWay_X3 0 (by decide) lkX0_nextOfOldWay_15 rfl rfl dX0_nextOfOldWay_101 ?_
                refine g_iload (pc := 104) (x := l4) C dX0_nextOfOldWay_104 rfl ?_
                refine g_iald (pc := 106) (i := l4) hf C 1 rfl dX0_nextOfOldWay_106 (fun hf => ?_)
                refine g_icmp_le (pc := 107) (tgt := 114) (x := ((sN v) (Int32.toNatClampNeg l5))) (y := ((sN v) (Int32.toNatClampNeg l4))) hf C dX0_nextOfOldWay_107 (by decide) (fun hf => ?_) (fun hf => ?_)
                · refine g_iinc (pc := 114) (x := l5) (v := (l5 + 1)) (lv' := [(5, .int (l5 + 1)), (8, .int 0), (7, .int 0), (6, .int (l2 - ((sN v) (Int32.toNatClampNeg l5)))), (0, .ref (aS 0)), (1, .int l1), (2, .int l2), (3, .int l3), (4, .int l4)]) C dX0_nextOfOldWay_114 rfl rfl (by decide) rfl ?_
                  refine g_goto (pc := 117) (tgt := 11) C dX0_nextOfOldWay_117 (by decide) ?_
                  refine g_lv [4, 5, 6, 7, 8, 0] (lv' := [(0, .ref (aS 0)), (1, .int l1), (2, .int l2), (3, .int l3), (4, .int l4), (5, .int (l5 + 1))]) rfl ?_
                  exact ih l4 (l5 + 1) u hf hk0
                · refine g_iload (pc := 110) (x := l5) C dX0_nextOfOldWay_110 rfl ?_
                  refine g_istore (pc := 112) (lv' := [(4, .int l5), (8, .int 0), (7, .int 0), (6, .int (l2 - ((sN v) (Int32.toNatClampNeg l5)))), (0, .ref (aS 0)), (1, .int l1), (2, .int l2), (3, .int l3), (5, .int l5)]) C dX0_nextOfOldWay_112 (by decide) rfl ?_
                  refine g_iinc (pc := 114) (x := l5) (v := (l5 + 1)) (lv' := [(5, .int (l5 + 1)), (4, .int l5), (8, .int 0), (7, .int 0), (6, .int (l2 - ((sN v) (Int32.toNatClampNeg l5)))), (0, .ref (aS 0)), (1, .int l1), (2, .int l2), (3, .int l3)]) C dX0_nextOfOldWay_114 rfl rfl (by decide) rfl ?_
                  refine g_goto (pc := 117) (tgt := 11) C dX0_nextOfOldWay_117 (by decide) ?_
                  refine g_lv [5, 6, 7, 8, 1, 0] (lv' := [(0, .ref (aS 0)), (1, .int l1), (2, .int l2), (3, .int l3), (4, .int l5), (5, .int (l5 + 1))]) rfl ?_
                  exact ih l5 (l5 + 1) u hf hk0
          · refine g_iload (pc := 66) (x := (l2 - ((sN v) (Int32.toNatClampNeg l5)))) C dX0_nextOfOldWay_66 rfl ?_
            refine g_callR (pc' := 71) (cs' := 0) (sl' := 0) hf C (fun u => some (.int u)) (fun u hu => gr_S (rest := []) C (cX0_zerosAtEnd_ (kL k) C.tr (kD k) N (l2 - ((sN v) (Int32.toNatClampNeg l5))) u hu) (fun ht => va_cwS 1 ht gX0_nextOfOldWay_X0_zerosAtEnd rfl rfl rfl hsX0_zerosAtEnd ⟨(Nat.le_of_ble_eq_true rfl), (Nat.le_of_ble_eq_true rfl)⟩) [] rfl (by decide) rfl rfl (Nat.le_of_ble_eq_true rfl) dX0_nextOfOldWay_68 ⟨(Nat.le_of_ble_eq_true rfl), (Nat.le_of_ble_eq_true rfl)⟩) [] rfl rfl rfl rfl (fun u => [.int u]) (fun u => rfl) (fun r2 hf => ?_)
            refine g_iload_n (pc := 71) (x := l3) C dX0_nextOfOldWay_71 rfl ?_
            refine g_icmp_le (pc := 72) (tgt := 79) (x := r2) (y := l3) hf C dX0_nextOfOldWay_72 (by decide) (fun hf => ?_) (fun hf => ?_)
            · refine g_iconst (pc := 79) (v := 0) C dX0_nextOfOldWay_79 (by decide) ?_
              refine g_istore (pc := 80) (lv' := [(8, .int 0), (7, .int 0), (6, .int (l2 - ((sN v) (Int32.toNatClampNeg l5)))), (0, .ref (aS 0)), (1, .int l1), (2, .int l2), (3, .int l3), (4, .int l4), (5, .int l5)]) C dX0_nextOfOldWay_80 (by decide) rfl ?_
              refine g_iload (pc := 82) (x := 0) C dX0_nextOfOldWay_82 rfl ?_
              refine g_if_eq (pc := 84) (tgt := 114) (x := 0) hf C dX0_nextOfOldWay_84 (by decide) (fun hf => ?_) (fun hf => ?_)
              · refine g_iinc (pc := 114) (x := l5) (v := (l5 + 1)) (lv' := [(5, .int (l5 + 1)), (8, .int 0), (7, .int 0), (6, .int (l2 - ((sN v) (Int32.toNatClampNeg l5)))), (0, .ref (aS 0)), (1, .int l1), (2, .int l2), (3, .int l3), (4, .int l4)]) C dX0_nextOfOldWay_114 rfl rfl (by decide) rfl ?_
                refine g_goto (pc := 117) (tgt := 11) C dX0_nextOfOldWay_117 (by decide) ?_
                refine g_lv [4, 5, 6, 7, 8, 0] (lv' := [(0, .ref (aS 0)), (1, .int l1), (2, .int l2), (3, .int l3), (4, .int l4), (5, .int (l5 + 1))]) rfl ?_
                exact ih l4 (l5 + 1) u hf hk0
              · refine g_iload (pc := 87) (x := l4) C dX0_nextOfOldWay_87 rfl ?_
                refine g_iconst (pc := 89) (v := (-1)) C dX0_nextOfOldWay_89 (by decide) ?_
                refine g_icmp_eq (pc := 90) (tgt := 110) (x := l4) (y := (-1)) hf C dX0_nextOfOldWay_90 (by decide) (fun hf => ?_) (fun hf => ?_)
                · refine g_iload (pc := 110) (x := l5) C dX0_nextOfOldWay_110 rfl ?_
                  refine g_istore (pc := 112) (lv' := [(4, .int l5), (8, .int 0), (7, .int 0), (6, .int (l2 - ((sN v) (Int32.toNatClampNeg l5)))), (0, .ref (aS 0)), (1, .int l1), (2, .int l2), (3, .int l3), (5, .int l5)]) C dX0_nextOfOldWay_112 (by decide) rfl ?_
                  refine g_iinc (pc := 114) (x := l5) (v := (l5 + 1)) (lv' := [(5, .int (l5 + 1)), (4, .int l5), (8, .int 0), (7, .int 0), (6, .int (l2 - ((sN v) (Int32.toNatClampNeg l5)))), (0, .ref (aS 0)), (1, .int l1), (2, .int l2), (3, .int l3)]) C dX0_nextOfOldWay_114 rfl rfl (by decide) rfl ?_
                  refine g_goto (pc := 117) (tgt := 11) C dX0_nextOfOldWay_117 (by decide) ?_
                  refine g_lv [5, 6, 7, 8, 1, 0] (lv' := [(0, .ref (aS 0)), (1, .int l1), (2, .int l2), (3, .int l3), (4, .int l5), (5, .int (l5 + 1))]) rfl ?_
                  exact ih l5 (l5 + 1) u hf hk0
                · refine g_aload_n (pc := 93) (x := (aS 0)) C dX0_nextOfOldWay_93 rfl ?_
                  refine g_getf (pc := 94) C 0 rfl rfl inX0_nextOfOldWay_X3 0 (by decide) lkX0_nextOfOldWay_15 rfl rfl dX0_nextOfOldWay_94 ?_
                  refine g_iload (pc := 97) (x := l5) C dX0_nextOfOldWay_97 rfl ?_
                  refine g_iald (pc := 99) (i := l5) hf C 1 rfl dX0_nextOfOldWay_99 (fun hf => ?_)
                  refine g_aload_n (pc := 100) (x := (aS 0)) C dX0_nextOfOldWay_100 rfl ?_
                  refine g_getf (pc := 101) C 0 rfl rfl inX0_nextOfOldWay_X3 0 (by decide) lkX0_nextOfOldWay_15 rfl rfl dX0_nextOfOldWay_101 ?_
                  refine g_iload (pc := 104) (x := l4) C dX0_nextOfOldWay_104 rfl ?_
                  refine g_iald (pc := 106) (i := l4) hf C 1 rfl dX0_nextOfOldWay_106 (fun hf => ?_)
                  refine g_icmp_le (pc := 107) (tgt := 114) (x := ((sN v) (Int32.toNatClampNeg l5))) (y := ((sN v) (Int32.toNatClampNeg l4))) hf C dX0_nextOfOldWay_107 (by decide) (fun hf => ?_) (fun hf => ?_)
                  · refine g_iinc (pc := 114) (x := l5) (v := (l5 + 1)) (lv' := [(5, .int (l5 + 1)), (8, .int 0), (7, .int 0), (6, .int (l2 - ((sN v) (Int32.toNatClampNeg l5)))), (0, .ref (aS 0)), (1, .int l1), (2, .int l2), (3, .int l3), (4, .int l4)]) C dX0_nextOfOldWay_114 rfl rfl (by decide) rfl ?_
                    refine g_goto (pc := 117) (tgt := 11) C dX0_nextOfOldWay_117 (by decide) ?_
                    refine g_lv [4, 5, 6, 7, 8, 0] (lv' := [(0, .ref (aS 0)), (1, .int l1), (2, .int l2), (3, .int l3), (4, .int l4), (5, .int (l5 + 1))]) rfl ?_
                    exact ih l4 (l5 + 1) u hf hk0
                  · refine g_iload (pc := 110) (x := l5) C dX0_nextOfOldWay_110 rfl ?_
                    refine g_istore (pc := 112) (lv' := [(4, .int l5), (8, .int 0), (7, .int 0), (6, .int (l2 - ((sN v) (Int32.toNatClampNeg l5)))), (0, .ref (aS 0)), (1, .int l1), (2, .int l2), (3, .int l3), (5, .int l5)]) C dX0_nextOfOldWay_112 (by decide) rfl ?_
                    refine g_iinc (pc := 114) (x := l5) (v := (l5 + 1)) (lv' := [(5, .int (l5 + 1)), (4, .int l5), (8, .int 0), (7, .int 0), (6, .int (l2 - ((sN v) (Int32.toNatClampNeg l5)))), (0, .ref (aS 0)), (1, .int l1), (2, .int l2), (3, .int l3)]) C dX0_nextOfOldWay_114 rfl rfl (by decide) rfl ?_
                    refine g_goto (pc := 117) (tgt := 11) C dX0_nextOfOldWay_117 (by decide) ?_
                    refine g_lv [5, 6, 7, 8, 1, 0] (lv' := [(0, .ref (aS 0)), (1, .int l1), (2, .int l2), (3, .int l3), (4, .int l5), (5, .int (l5 + 1))]) rfl ?_
                    exact ih l5 (l5 + 1) u hf hk0
            · refine g_iconst (pc := 75) (v := 1) C dX0_nextOfOldWay_75 (by decide) ?_
              refine g_goto (pc := 76) (tgt := 80) C dX0_nextOfOldWay_76 (by decide) ?_
              refine g_istore (pc := 80) (lv' := [(8, .int 1), (7, .int 0), (6, .int (l2 - ((sN v) (Int32.toNatClampNeg l5)))), (0, .ref (aS 0)), (1, .int l1), (2, .int l2), (3, .int l3), (4, .int l4), (5, .int l5)]) C dX0_nextOfOldWay_80 (by decide) rfl ?_
              refine g_iload (pc := 82) (x := 1) C dX0_nextOfOldWay_82 rfl ?_
              refine g_if_eq (pc := 84) (tgt := 114) (x := 1) hf C dX0_nextOfOldWay_84 (by decide) (fun hf => ?_) (fun hf => ?_)
              · refine g_iinc (pc := 114) (x := l5) (v := (l5 + 1)) (lv' := [(5, .int (l5 + 1)), (8, .int 1), (7, .int 0), (6, .int (l2 - ((sN v) (Int32.toNatClampNeg l5)))), (0, .ref (aS 0)), (1, .int l1), (2, .int l2), (3, .int l3), (4, .int l4)]) C dX0_nextOfOldWay_114 rfl rfl (by decide) rfl ?_
                refine g_goto (pc := 117) (tgt := 11) C dX0_nextOfOldWay_117 (by decide) ?_
                refine g_lv [4, 5, 6, 7, 8, 0] (lv' := [(0, .ref (aS 0)), (1, .int l1), (2, .int l2), (3, .int l3), (4, .int l4), (5, .int (l5 + 1))]) rfl ?_
                exact ih l4 (l5 + 1) u hf hk0
              · refine g_iload (pc := 87) (x := l4) C dX0_nextOfOldWay_87 rfl ?_
                refine g_iconst (pc := 89) (v := (-1)) C dX0_nextOfOldWay_89 (by decide) ?_
                refine g_icmp_eq (pc := 90) (tgt := 110) (x := l4) (y := (-1)) hf C dX0_nextOfOldWay_90 (by decide) (fun hf => ?_) (fun hf => ?_)
                · refine g_iload (pc := 110) (x := l5) C dX0_nextOfOldWay_110 rfl ?_
                  refine g_istore (pc := 112) (lv' := [(4, .int l5), (8, .int 1), (7, .int 0), (6, .int (l2 - ((sN v) (Int32.toNatClampNeg l5)))), (0, .ref (aS 0)), (1, .int l1), (2, .int l2), (3, .int l3), (5, .int l5)]) C dX0_nextOfOldWay_112 (by decide) rfl ?_
                  refine g_iinc (pc := 114) (x := l5) (v := (l5 + 1)) (lv' := [(5, .int (l5 + 1)), (4, .int l5), (8, .int 1), (7, .int 0), (6, .int (l2 - ((sN v) (Int32.toNatClampNeg l5)))), (0, .ref (aS 0)), (1, .int l1), (2, .int l2), (3, .int l3)]) C dX0_nextOfOldWay_114 rfl rfl (by decide) rfl ?_
                  refine g_goto (pc := 117) (tgt := 11) C dX0_nextOfOldWay_117 (by decide) ?_
                  refine g_lv [5, 6, 7, 8, 1, 0] (lv' := [(0, .ref (aS 0)), (1, .int l1), (2, .int l2), (3, .int l3), (4, .int l5), (5, .int (l5 + 1))]) rfl ?_
                  exact ih l5 (l5 + 1) u hf hk0
                · refine g_aload_n (pc := 93) (x := (aS 0)) C dX0_nextOfOldWay_93 rfl ?_
                  refine g_getf (pc := 94) C 0 rfl rfl inX0_nextOfOldWay_X3 0 (by decide) lkX0_nextOfOldWay_15 rfl rfl dX0_nextOfOldWay_94 ?_
                  refine g_iload (pc := 97) (x := l5) C dX0_nextOfOldWay_97 rfl ?_
                  refine g_iald (pc := 99) (i := l5) hf C 1 rfl dX0_nextOfOldWay_99 (fun hf => ?_)
                  refine g_aload_n (pc := 100) (x := (aS 0)) C dX0_nextOfOldWay_100 rfl ?_
                  refine g_getf (pc := 101) C 0 rfl rfl inX0_nextOfOldWay_X3 0 (by decide) lkX0_nextOfOldWay_15 rfl rfl dX0_nextOfOldWay_101 ?_
                  refine g_iload (pc := 104) (x := l4) C dX0_nextOfOldWay_104 rfl ?_
                  refine g_iald (pc := 106) (i := l4) hf C 1 rfl dX0_nextOfOldWay_106 (fun hf => ?_)
                  refine g_icmp_le (pc := 107) (tgt := 114) (x := ((sN v) (Int32.toNatClampNeg l5))) (y := ((sN v) (Int32.toNatClampNeg l4))) hf C dX0_nextOfOldWay_107 (by decide) (fun hf => ?_) (fun hf => ?_)
                  · refine g_iinc (pc := 114) (x := l5) (v := (l5 + 1)) (lv' := [(5, .int (l5 + 1)), (8, .int 1), (7, .int 0), (6, .int (l2 - ((sN v) (Int32.toNatClampNeg l5)))), (0, .ref (aS 0)), (1, .int l1), (2, .int l2), (3, .int l3), (4, .int l4)]) C dX0_nextOfOldWay_114 rfl rfl (by decide) rfl ?_
                    refine g_goto (pc := 117) (tgt := 11) C dX0_nextOfOldWay_117 (by decide) ?_
                    refine g_lv [4, 5, 6, 7, 8, 0] (lv' := [(0, .ref (aS 0)), (1, .int l1), (2, .int l2), (3, .int l3), (4, .int l4), (5, .int (l5 + 1))]) rfl ?_
                    exact ih l4 (l5 + 1) u hf hk0
                  · refine g_iload (pc := 110) (x := l5) C dX0_nextOfOldWay_110 rfl ?_
                    refine g_istore (pc := 112) (lv' := [(4, .int l5), (8, .int 1), (7, .int 0), (6, .int (l2 - ((sN v) (Int32.toNatClampNeg l5)))), (0, .ref (aS 0)), (1, .int l1), (2, .int l2), (3, .int l3), (5, .int l5)]) C dX0_nextOfOldWay_112 (by decide) rfl ?_
                    refine g_iinc (pc := 114) (x := l5) (v := (l5 + 1)) (lv' := [(5, .int (l5 + 1)), (4, .int l5), (8, .int 1), (7, .int 0), (6, .int (l2 - ((sN v) (Int32.toNatClampNeg l5)))), (0, .ref (aS 0)), (1, .int l1), (2, .int l2), (3, .int l3)]) C dX0_nextOfOldWay_114 rfl rfl (by decide) rfl ?_
                    refine g_goto (pc := 117) (tgt := 11) C dX0_nextOfOldWay_117 (by decide) ?_
                    refine g_lv [5, 6, 7, 8, 1, 0] (lv' := [(0, .ref (aS 0)), (1, .int l1), (2, .int l2), (3, .int l3), (4, .int l5), (5, .int (l5 + 1))]) rfl ?_
                    exact ih l5 (l5 + 1) u hf hk0
      · refine g_iload_n (pc := 40) (x := l1) C dX0_nextOfOldWay_40 rfl ?_
        refine g_iload (pc := 41) (x := l5) C dX0_nextOfOldWay_41 rfl ?_
        refine g_ishr (pc := 43) (x := l1) (y := l5) C dX0_nextOfOldWay_43 ?_
        refine g_iconst (pc := 44) (v := 1) C dX0_nextOfOldWay_44 (by decide) ?_
        refine g_iand (pc := 45) (x := (l1 >>> (l5 &&& 31))) (y := 1) C dX0_nextOfOldWay_45 ?_
        refine g_if_ne (pc := 46) (tgt := 53) (x := ((l1 >>> (l5 &&& 31)) &&& 1)) hf C dX0_nextOfOldWay_46 (by decide) (fun hf => ?_) (fun hf => ?_)
        · refine g_iconst (pc := 53) (v := 0) C dX0_nextOfOldWay_53 (by decide) ?_
          refine g_istore (pc := 54) (lv' := [(7, .int 0), (6, .int (l2 - ((sN v) (Int32.toNatClampNeg l5)))), (0, .ref (aS 0)), (1, .int l1), (2, .int l2), (3, .int l3), (4, .int l4), (5, .int l5)]) C dX0_nextOfOldWay_54 (by decide) rfl ?_
          refine g_iload (pc := 56) (x := 0) C dX0_nextOfOldWay_56 rfl ?_
          refine g_if_eq (pc := 58) (tgt := 79) (x := 0) hf C dX0_nextOfOldWay_58 (by decide) (fun hf => ?_) (fun hf => ?_)
          · refine g_iconst (pc := 79) (v := 0) C dX0_nextOfOldWay_79 (by decide) ?_
            refine g_istore (pc := 80) (lv' := [(8, .int 0), (7, .int 0), (6, .int (l2 - ((sN v) (Int32.toNatClampNeg l5)))), (0, .ref (aS 0)), (1, .int l1), (2, .int l2), (3, .int l3), (4, .int l4), (5, .int l5)]) C dX0_nextOfOldWay_80 (by decide) rfl ?_
            refine g_iload (pc := 82) (x := 0) C dX0_nextOfOldWay_82 rfl ?_
            refine g_if_eq (pc := 84) (tgt := 114) (x := 0) hf C dX0_nextOfOldWay_84 (by decide) (fun hf => ?_) (fun hf => ?_)
            · refine g_iinc (pc := 114) (x := l5) (v := (l5 + 1)) (lv' := [(5, .int (l5 + 1)), (8, .int 0), (7, .int 0), (6, .int (l2 - ((sN v) (Int32.toNatClampNeg l5)))), (0, .ref (aS 0)), (1, .int l1), (2, .int l2), (3, .int l3), (4, .int l4)]) C dX0_nextOfOldWay_114 rfl rfl (by decide) rfl ?_
              refine g_goto (pc := 117) (tgt := 11) C dX0_nextOfOldWay_117 (by decide) ?_
              refine g_lv [4, 5, 6, 7, 8, 0] (lv' := [(0, .ref (aS 0)), (1, .int l1), (2, .int l2), (3, .int l3), (4, .int l4), (5, .int (l5 + 1))]) rfl ?_
              exact ih l4 (l5 + 1) u hf hk0
            · refine g_iload (pc := 87) (x := l4) C dX0_nextOfOldWay_87 rfl ?_
              refine g_iconst (pc := 89) (v := (-1)) C dX0_nextOfOldWay_89 (by decide) ?_
              refine g_icmp_eq (pc := 90) (tgt := 110) (x := l4) (y := (-1)) hf C dX0_nextOfOldWay_90 (by decide) (fun hf => ?_) (fun hf => ?_)
              · refine g_iload (pc := 110) (x := l5) C dX0_nextOfOldWay_110 rfl ?_
                refine g_istore (pc := 112) (lv' := [(4, .int l5), (8, .int 0), (7, .int 0), (6, .int (l2 - ((sN v) (Int32.toNatClampNeg l5)))), (0, .ref (aS 0)), (1, .int l1), (2, .int l2), (3, .int l3), (5, .int l5)]) C dX0_nextOfOldWay_112 (by decide) rfl ?_
                refine g_iinc (pc := 114) (x := l5) (v := (l5 + 1)) (lv' := [(5, .int (l5 + 1)), (4, .int l5), (8, .int 0), (7, .int 0), (6, .int (l2 - ((sN v) (Int32.toNatClampNeg l5)))), (0, .ref (aS 0)), (1, .int l1), (2, .int l2), (3, .int l3)]) C dX0_nextOfOldWay_114 rfl rfl (by decide) rfl ?_
                refine g_goto (pc := 117) (tgt := 11) C dX0_nextOfOldWay_117 (by decide) ?_
                refine g_lv [5, 6, 7, 8, 1, 0] (lv' := [(0, .ref (aS 0)), (1, .int l1), (2, .int l2), (3, .int l3), (4, .int l5), (5, .int (l5 + 1))]) rfl ?_
                exact ih l5 (l5 + 1) u hf hk0
              · refine g_aload_n (pc := 93) (x := (aS 0)) C dX0_nextOfOldWay_93 rfl ?_
                refine g_getf (pc := 94) C 0 rfl rfl inX0_nextOfOldWay_X3 0 (by decide) lkX0_nextOfOldWay_15 rfl rfl dX0_nextOfOldWay_94 ?_
                refine g_iload (pc := 97) (x := l5) C dX0_nextOfOldWay_97 rfl ?_
                refine g_iald (pc := 99) (i := l5) hf C 1 rfl dX0_nextOfOldWay_99 (fun hf => ?_)
                refine g_aload_n (pc := 100) (x := (aS 0)) C dX0_nextOfOldWay_100 rfl ?_
                refine g_getf (pc := 101) C 0 rfl rfl inX0_nextOfOldWay_X3 0 (by decide) lkX0_nextOfOldWay_15 rfl rfl dX0_nextOfOldWay_101 ?_
                refine g_iload (pc := 104) (x := l4) C dX0_nextOfOldWay_104 rfl ?_
                refine g_iald (pc := 106) (i := l4) hf C 1 rfl dX0_nextOfOldWay_106 (fun hf => ?_)
                refine g_icmp_le (pc := 107) (tgt := 114) (x := ((sN v) (Int32.toNatClampNeg l5))) (y := ((sN v) (Int32.toNatClampNeg l4))) hf C dX0_nextOfOldWay_107 (by decide) (fun hf => ?_) (fun hf => ?_)
                · refine g_iinc (pc := 114) (x := l5) (v := (l5 + 1)) (lv' := [(5, .int (l5 + 1)), (8, .int 0), (7, .int 0), (6, .int (l2 - ((sN v) (Int32.toNatClampNeg l5)))), (0, .ref (aS 0)), (1, .int l1), (2, .int l2), (3, .int l3), (4, .int l4)]) C dX0_nextOfOldWay_114 rfl rfl (by decide) rfl ?_
                  refine g_goto (pc := 117) (tgt := 11) C dX0_nextOfOldWay_117 (by decide) ?_
                  refine g_lv [4, 5, 6, 7, 8, 0] (lv' := [(0, .ref (aS 0)), (1, .int l1), (2, .int l2), (3, .int l3), (4, .int l4), (5, .int (l5 + 1))]) rfl ?_
                  exact ih l4 (l5 + 1) u hf hk0
                · refine g_iload (pc := 110) (x := l5) C dX0_nextOfOldWay_110 rfl ?_
                  refine g_istore (pc := 112) (lv' := [(4, .int l5), (8, .int 0), (7, .int 0), (6, .int (l2 - ((sN v) (Int32.toNatClampNeg l5)))), (0, .ref (aS 0)), (1, .int l1), (2, .int l2), (3, .int l3), (5, .int l5)]) C dX0_nextOfOldWay_112 (by decide) rfl ?_
                  refine g_iinc (pc := 114) (x := l5) (v := (l5 + 1)) (lv' := [(5, .int (l5 + 1)), (4, .int l5), (8, .int 0), (7, .int 0), (6, .int (l2 - ((sN v) (Int32.toNatClampNeg l5)))), (0, .ref (aS 0)), (1, .int l1), (2, .int l2), (3, .int l3)]) C dX0_nextOfOldWay_114 rfl rfl (by decide) rfl ?_
                  refine g_goto (pc := 117) (tgt := 11) C dX0_nextOfOldWay_117 (by decide) ?_
                  refine g_lv [5, 6, 7, 8, 1, 0] (lv' := [(0, .ref (aS 0)), (1, .int l1), (2, .int l2), (3, .int l3), (4, .int l5), (5, .int (l5 + 1))]) rfl ?_
                  exact ih l5 (l5 + 1) u hf hk0
          · refine g_iload (pc := 61) (x := (l2 - ((sN v) (Int32.toNatClampNeg l5)))) C dX0_nextOfOldWay_61 rfl ?_
            refine g_if_lt (pc := 63) (tgt := 79) (x := (l2 - ((sN v) (Int32.toNatClampNeg l5)))) hf C dX0_nextOfOldWay_63 (by decide) (fun hf => ?_) (fun hf => ?_)
            · refine g_iconst (pc := 79) (v := 0) C dX0_nextOfOldWay_79 (by decide) ?_
              refine g_istore (pc := 80) (lv' := [(8, .int 0), (7, .int 0), (6, .int (l2 - ((sN v) (Int32.toNatClampNeg l5)))), (0, .ref (aS 0)), (1, .int l1), (2, .int l2), (3, .int l3), (4, .int l4), (5, .int l5)]) C dX0_nextOfOldWay_80 (by decide) rfl ?_
              refine g_iload (pc := 82) (x := 0) C dX0_nextOfOldWay_82 rfl ?_
              refine g_if_eq (pc := 84) (tgt := 114) (x := 0) hf C dX0_nextOfOldWay_84 (by decide) (fun hf => ?_) (fun hf => ?_)
              · refine g_iinc (pc := 114) (x := l5) (v := (l5 + 1)) (lv' := [(5, .int (l5 + 1)), (8, .int 0), (7, .int 0), (6, .int (l2 - ((sN v) (Int32.toNatClampNeg l5)))), (0, .ref (aS 0)), (1, .int l1), (2, .int l2), (3, .int l3), (4, .int l4)]) C dX0_nextOfOldWay_114 rfl rfl (by decide) rfl ?_
                refine g_goto (pc := 117) (tgt := 11) C dX0_nextOfOldWay_117 (by decide) ?_
                refine g_lv [4, 5, 6, 7, 8, 0] (lv' := [(0, .ref (aS 0)), (1, .int l1), (2, .int l2), (3, .int l3), (4, .int l4), (5, .int (l5 + 1))]) rfl ?_
                exact ih l4 (l5 + 1) u hf hk0
              · refine g_iload (pc := 87) (x := l4) C dX0_nextOfOldWay_87 rfl ?_
                refine g_iconst (pc := 89) (v := (-1)) C dX0_nextOfOldWay_89 (by decide) ?_
                refine g_icmp_eq (pc := 90) (tgt := 110) (x := l4) (y := (-1)) hf C dX0_nextOfOldWay_90 (by decide) (fun hf => ?_) (fun hf => ?_)
                · refine g_iload (pc := 110) (x := l5) C dX0_nextOfOldWay_110 rfl ?_
                  refine g_istore (pc := 112) (lv' := [(4, .int l5), (8, .int 0), (7, .int 0), (6, .int (l2 - ((sN v) (Int32.toNatClampNeg l5)))), (0, .ref (aS 0)), (1, .int l1), (2, .int l2), (3, .int l3), (5, .int l5)]) C dX0_nextOfOldWay_112 (by decide) rfl ?_
                  refine g_iinc (pc := 114) (x := l5) (v := (l5 + 1)) (lv' := [(5, .int (l5 + 1)), (4, .int l5), (8, .int 0), (7, .int 0), (6, .int (l2 - ((sN v) (Int32.toNatClampNeg l5)))), (0, .ref (aS 0)), (1, .int l1), (2, .int l2), (3, .int l3)]) C dX0_nextOfOldWay_114 rfl rfl (by decide) rfl ?_
                  refine g_goto (pc := 117) (tgt := 11) C dX0_nextOfOldWay_117 (by decide) ?_
                  refine g_lv [5, 6, 7, 8, 1, 0] (lv' := [(0, .ref (aS 0)), (1, .int l1), (2, .int l2), (3, .int l3), (4, .int l5), (5, .int (l5 + 1))]) rfl ?_
                  exact ih l5 (l5 + 1) u hf hk0
                · refine g_aload_n (pc := 93) (x := (aS 0)) C dX0_nextOfOldWay_93 rfl ?_
                  refine g_getf (pc := 94) C 0 rfl rfl inX0_nextOfOldWay_X3 0 (by decide) lkX0_nextOfOldWay_15 rfl rfl dX0_nextOfOldWay_94 ?_
                  refine g_iload (pc := 97) (x := l5) C dX0_nextOfOldWay_97 rfl ?_
                  refine g_iald (pc := 99) (i := l5) hf C 1 rfl dX0_nextOfOldWay_99 (fun hf => ?_)
                  refine g_aload_n (pc := 100) (x := (aS 0)) C dX0_nextOfOldWay_100 rfl ?_
                  refine g_getf (pc := 101) C 0 rfl rfl inX0_nextOfOldWay_X3 0 (by decide) lkX0_nextOfOldWay_15 rfl rfl dX0_nextOfOldWay_101 ?_
                  refine g_iload (pc := 104) (x := l4) C dX0_nextOfOldWay_104 rfl ?_
                  refine g_iald (pc := 106) (i := l4) hf C 1 rfl dX0_nextOfOldWay_106 (fun hf => ?_)
                  refine g_icmp_le (pc := 107) (tgt := 114) (x := ((sN v) (Int32.toNatClampNeg l5))) (y := ((sN v) (Int32.toNatClampNeg l4))) hf C dX0_nextOfOldWay_107 (by decide) (fun hf => ?_) (fun hf => ?_)
                  · refine g_iinc (pc := 114) (x := l5) (v := (l5 + 1)) (lv' := [(5, .int (l5 + 1)), (8, .int 0), (7, .int 0), (6, .int (l2 - ((sN v) (Int32.toNatClampNeg l5)))), (0, .ref (aS 0)), (1, .int l1), (2, .int l2), (3, .int l3), (4, .int l4)]) C dX0_nextOfOldWay_114 rfl rfl (by decide) rfl ?_
                    refine g_goto (pc := 117) (tgt := 11) C dX0_nextOfOldWay_117 (by decide) ?_
                    refine g_lv [4, 5, 6, 7, 8, 0] (lv' := [(0, .ref (aS 0)), (1, .int l1), (2, .int l2), (3, .int l3), (4, .int l4), (5, .int (l5 + 1))]) rfl ?_
                    exact ih l4 (l5 + 1) u hf hk0
                  · refine g_iload (pc := 110) (x := l5) C dX0_nextOfOldWay_110 rfl ?_
                    refine g_istore (pc := 112) (lv' := [(4, .int l5), (8, .int 0), (7, .int 0), (6, .int (l2 - ((sN v) (Int32.toNatClampNeg l5)))), (0, .ref (aS 0)), (1, .int l1), (2, .int l2), (3, .int l3), (5, .int l5)]) C dX0_nextOfOldWay_112 (by decide) rfl ?_
                    refine g_iinc (pc := 114) (x := l5) (v := (l5 + 1)) (lv' := [(5, .int (l5 + 1)), (4, .int l5), (8, .int 0), (7, .int 0), (6, .int (l2 - ((sN v) (Int32.toNatClampNeg l5)))), (0, .ref (aS 0)), (1, .int l1), (2, .int l2), (3, .int l3)]) C dX0_nextOfOldWay_114 rfl rfl (by decide) rfl ?_
                    refine g_goto (pc := 117) (tgt := 11) C dX0_nextOfOldWay_117 (by decide) ?_
                    refine g_lv [5, 6, 7, 8, 1, 0] (lv' := [(0, .ref (aS 0)), (1, .int l1), (2, .int l2), (3, .int l3), (4, .int l5), (5, .int (l5 + 1))]) rfl ?_
                    exact ih l5 (l5 + 1) u hf hk0
            · refine g_iload (pc := 66) (x := (l2 - ((sN v) (Int32.toNatClampNeg l5)))) C dX0_nextOfOldWay_66 rfl ?_
              refine g_callR (pc' := 71) (cs' := 0) (sl' := 0) hf C (fun u => some (.int u)) (fun u hu => gr_S (rest := []) C (cX0_zerosAtEnd_ (kL k) C.tr (kD k) N (l2 - ((sN v) (Int32.toNatClampNeg l5))) u hu) (fun ht => va_cwS 1 ht gX0_nextOfOldWay_X0_zerosAtEnd rfl rfl rfl hsX0_zerosAtEnd ⟨(Nat.le_of_ble_eq_true rfl), (Nat.le_of_ble_eq_true rfl)⟩) [] rfl (by decide) rfl rfl (Nat.le_of_ble_eq_true rfl) dX0_nextOfOldWay_68 ⟨(Nat.le_of_ble_eq_true rfl), (Nat.le_of_ble_eq_true rfl)⟩) [] rfl rfl rfl rfl (fun u => [.int u]) (fun u => rfl) (fun r3 hf => ?_)
              refine g_iload_n (pc := 71) (x := l3) C dX0_nextOfOldWay_71 rfl ?_
              refine g_icmp_le (pc := 72) (tgt := 79) (x := r3) (y := l3) hf C dX0_nextOfOldWay_72 (by decide) (fun hf => ?_) (fun hf => ?_)
              · refine g_iconst (pc := 79) (v := 0) C dX0_nextOfOldWay_79 (by decide) ?_
                refine g_istore (pc := 80) (lv' := [(8, .int 0), (7, .int 0), (6, .int (l2 - ((sN v) (Int32.toNatClampNeg l5)))), (0, .ref (aS 0)), (1, .int l1), (2, .int l2), (3, .int l3), (4, .int l4), (5, .int l5)]) C dX0_nextOfOldWay_80 (by decide) rfl ?_
                refine g_iload (pc := 82) (x := 0) C dX0_nextOfOldWay_82 rfl ?_
                refine g_if_eq (pc := 84) (tgt := 114) (x := 0) hf C dX0_nextOfOldWay_84 (by decide) (fun hf => ?_) (fun hf => ?_)
                · refine g_iinc (pc := 114) (x := l5) (v := (l5 + 1)) (lv' := [(5, .int (l5 + 1)), (8, .int 0), (7, .int 0), (6, .int (l2 - ((sN v) (Int32.toNatClampNeg l5)))), (0, .ref (aS 0)), (1, .int l1), (2, .int l2), (3, .int l3), (4, .int l4)]) C dX0_nextOfOldWay_114 rfl rfl (by decide) rfl ?_
                  refine g_goto (pc := 117) (tgt := 11) C dX0_nextOfOldWay_117 (by decide) ?_
                  refine g_lv [4, 5, 6, 7, 8, 0] (lv' := [(0, .ref (aS 0)), (1, .int l1), (2, .int l2), (3, .int l3), (4, .int l4), (5, .int (l5 + 1))]) rfl ?_
                  exact ih l4 (l5 + 1) u hf hk0
                · refine g_iload (pc := 87) (x := l4) C dX0_nextOfOldWay_87 rfl ?_
                  refine g_iconst (pc := 89) (v := (-1)) C dX0_nextOfOldWay_89 (by decide) ?_
                  refine g_icmp_eq (pc := 90) (tgt := 110) (x := l4) (y := (-1)) hf C dX0_nextOfOldWay_90 (by decide) (fun hf => ?_) (fun hf => ?_)
                  · refine g_iload (pc := 110) (x := l5) C dX0_nextOfOldWay_110 rfl ?_
                    refine g_istore (pc := 112) (lv' := [(4, .int l5), (8, .int 0), (7, .int 0), (6, .int (l2 - ((sN v) (Int32.toNatClampNeg l5)))), (0, .ref (aS 0)), (1, .int l1), (2, .int l2), (3, .int l3), (5, .int l5)]) C dX0_nextOfOldWay_112 (by decide) rfl ?_
                    refine g_iinc (pc := 114) (x := l5) (v := (l5 + 1)) (lv' := [(5, .int (l5 + 1)), (4, .int l5), (8, .int 0), (7, .int 0), (6, .int (l2 - ((sN v) (Int32.toNatClampNeg l5)))), (0, .ref (aS 0)), (1, .int l1), (2, .int l2), (3, .int l3)]) C dX0_nextOfOldWay_114 rfl rfl (by decide) rfl ?_
                    refine g_goto (pc := 117) (tgt := 11) C dX0_nextOfOldWay_117 (by decide) ?_
                    refine g_lv [5, 6, 7, 8, 1, 0] (lv' := [(0, .ref (aS 0)), (1, .int l1), (2, .int l2), (3, .int l3), (4, .int l5), (5, .int (l5 + 1))]) rfl ?_
                    exact ih l5 (l5 + 1) u hf hk0
                  · refine g_aload_n (pc := 93) (x := (aS 0)) C dX0_nextOfOldWay_93 rfl ?_
                    refine g_getf (pc := 94) C 0 rfl rfl inX0_nextOfOldWay_X3 0 (by decide) lkX0_nextOfOldWay_15 rfl rfl dX0_nextOfOldWay_94 ?_
                    refine g_iload (pc := 97) (x := l5) C dX0_nextOfOldWay_97 rfl ?_
                    refine g_iald (pc := 99) (i := l5) hf C 1 rfl dX0_nextOfOldWay_99 (fun hf => ?_)
                    refine g_aload_n (pc := 100) (x := (aS 0)) C dX0_nextOfOldWay_100 rfl ?_
                    refine g_getf (pc := 101) C 0 rfl rfl inX0_nextOfOldWay_X3 0 (by decide) lkX0_nextOfOldWay_15 rfl rfl dX0_nextOfOldWay_101 ?_
                    refine g_iload (pc := 104) (x := l4) C dX0_nextOfOldWay_104 rfl ?_
                    refine g_iald (pc := 106) (i := l4) hf C 1 rfl dX0_nextOfOldWay_106 (fun hf => ?_)
                    refine g_icmp_le (pc := 107) (tgt := 114) (x := ((sN v) (Int32.toNatClampNeg l5))) (y := ((sN v) (Int32.toNatClampNeg l4))) hf C dX0_nextOfOldWay_107 (by decide) (fun hf => ?_) (fun hf => ?_)
                    · refine g_iinc (pc := 114) (x := l5) (v := (l5 + 1)) (lv' := [(5, .int (l5 + 1)), (8, .int 0), (7, .int 0), (6, .int (l2 - ((sN v) (Int32.toNatClampNeg l5)))), (0, .ref (aS 0)), (1, .int l1), (2, .int l2), (3, .int l3), (4, .int l4)]) C dX0_nextOfOldWay_114 rfl rfl (by decide) rfl ?_
                      refine g_goto (pc := 117) (tgt := 11) C dX0_nextOfOldWay_117 (by decide) ?_
                      refine g_lv [4, 5, 6, 7, 8, 0] (lv' := [(0, .ref (aS 0)), (1, .int l1), (2, .int l2), (3, .int l3), (4, .int l4), (5, .int (l5 + 1))]) rfl ?_
                      exact ih l4 (l5 + 1) u hf hk0
                    · refine g_iload (pc := 110) (x := l5) C dX0_nextOfOldWay_110 rfl ?_
                      refine g_istore (pc := 112) (lv' := [(4, .int l5), (8, .int 0), (7, .int 0), (6, .int (l2 - ((sN v) (Int32.toNatClampNeg l5)))), (0, .ref (aS 0)), (1, .int l1), (2, .int l2), (3, .int l3), (5, .int l5)]) C dX0_nextOfOldWay_112 (by decide) rfl ?_
                      refine g_iinc (pc := 114) (x := l5) (v := (l5 + 1)) (lv' := [(5, .int (l5 + 1)), (4, .int l5), (8, .int 0), (7, .int 0), (6, .int (l2 - ((sN v) (Int32.toNatClampNeg l5)))), (0, .ref (aS 0)), (1, .int l1), (2, .int l2), (3, .int l3)]) C dX0_nextOfOldWay_114 rfl rfl (by decide) rfl ?_
                      refine g_goto (pc := 117) (tgt := 11) C dX0_nextOfOldWay_117 (by decide) ?_
                      refine g_lv [5, 6, 7, 8, 1, 0] (lv' := [(0, .ref (aS 0)), (1, .int l1), (2, .int l2), (3, .int l3), (4, .int l5), (5, .int (l5 + 1))]) rfl ?_
                      exact ih l5 (l5 + 1) u hf hk0
              · refine g_iconst (pc := 75) (v := 1) C dX0_nextOfOldWay_75 (by decide) ?_
                refine g_goto (pc := 76) (tgt := 80) C dX0_nextOfOldWay_76 (by decide) ?_
                refine g_istore (pc := 80) (lv' := [(8, .int 1), (7, .int 0), (6, .int (l2 - ((sN v) (Int32.toNatClampNeg l5)))), (0, .ref (aS 0)), (1, .int l1), (2, .int l2), (3, .int l3), (4, .int l4), (5, .int l5)]) C dX0_nextOfOldWay_80 (by decide) rfl ?_
                refine g_iload (pc := 82) (x := 1) C dX0_nextOfOldWay_82 rfl ?_
                refine g_if_eq (pc := 84) (tgt := 114) (x := 1) hf C dX0_nextOfOldWay_84 (by decide) (fun hf => ?_) (fun hf => ?_)
                · refine g_iinc (pc := 114) (x := l5) (v := (l5 + 1)) (lv' := [(5, .int (l5 + 1)), (8, .int 1), (7, .int 0), (6, .int (l2 - ((sN v) (Int32.toNatClampNeg l5)))), (0, .ref (aS 0)), (1, .int l1), (2, .int l2), (3, .int l3), (4, .int l4)]) C dX0_nextOfOldWay_114 rfl rfl (by decide) rfl ?_
                  refine g_goto (pc := 117) (tgt := 11) C dX0_nextOfOldWay_117 (by decide) ?_
                  refine g_lv [4, 5, 6, 7, 8, 0] (lv' := [(0, .ref (aS 0)), (1, .int l1), (2, .int l2), (3, .int l3), (4, .int l4), (5, .int (l5 + 1))]) rfl ?_
                  exact ih l4 (l5 + 1) u hf hk0
                · refine g_iload (pc := 87) (x := l4) C dX0_nextOfOldWay_87 rfl ?_
                  refine g_iconst (pc := 89) (v := (-1)) C dX0_nextOfOldWay_89 (by decide) ?_
                  refine g_icmp_eq (pc := 90) (tgt := 110) (x := l4) (y := (-1)) hf C dX0_nextOfOldWay_90 (by decide) (fun hf => ?_) (fun hf => ?_)
                  · refine g_iload (pc := 110) (x := l5) C dX0_nextOfOldWay_110 rfl ?_
                    refine g_istore (pc := 112) (lv' := [(4, .int l5), (8, .int 1), (7, .int 0), (6, .int (l2 - ((sN v) (Int32.toNatClampNeg l5)))), (0, .ref (aS 0)), (1, .int l1), (2, .int l2), (3, .int l3), (5, .int l5)]) C dX0_nextOfOldWay_112 (by decide) rfl ?_
                    refine g_iinc (pc := 114) (x := l5) (v := (l5 + 1)) (lv' := [(5, .int (l5 + 1)), (4, .int l5), (8, .int 1), (7, .int 0), (6, .int (l2 - ((sN v) (Int32.toNatClampNeg l5)))), (0, .ref (aS 0)), (1, .int l1), (2, .int l2), (3, .int l3)]) C dX0_nextOfOldWay_114 rfl rfl (by decide) rfl ?_
                    refine g_goto (pc := 117) (tgt := 11) C dX0_nextOfOldWay_117 (by decide) ?_
                    refine g_lv [5, 6, 7, 8, 1, 0] (lv' := [(0, .ref (aS 0)), (1, .int l1), (2, .int l2), (3, .int l3), (4, .int l5), (5, .int (l5 + 1))]) rfl ?_
                    exact ih l5 (l5 + 1) u hf hk0
                  · refine g_aload_n (pc := 93) (x := (aS 0)) C dX0_nextOfOldWay_93 rfl ?_
                    refine g_getf (pc := 94) C 0 rfl rfl inX0_nextOfOldWay_X3 0 (by decide) lkX0_nextOfOldWay_15 rfl rfl dX0_nextOfOldWay_94 ?_
                    refine g_iload (pc := 97) (x := l5) C dX0_nextOfOldWay_97 rfl ?_
                    refine g_iald (pc := 99) (i := l5) hf C 1 rfl dX0_nextOfOldWay_99 (fun hf => ?_)
                    refine g_aload_n (pc := 100) (x := (aS 0)) C dX0_nextOfOldWay_100 rfl ?_
                    refine g_getf (pc := 101) C 0 rfl rfl inX0_nextOfOldWay_X3 0 (by decide) lkX0_nextOfOldWay_15 rfl rfl dX0_nextOfOldWay_101 ?_
                    refine g_iload (pc := 104) (x := l4) C dX0_nextOfOldWay_104 rfl ?_
                    refine g_iald (pc := 106) (i := l4) hf C 1 rfl dX0_nextOfOldWay_106 (fun hf => ?_)
                    refine g_icmp_le (pc := 107) (tgt := 114) (x := ((sN v) (Int32.toNatClampNeg l5))) (y := ((sN v) (Int32.toNatClampNeg l4))) hf C dX0_nextOfOldWay_107 (by decide) (fun hf => ?_) (fun hf => ?_)
                    · refine g_iinc (pc := 114) (x := l5) (v := (l5 + 1)) (lv' := [(5, .int (l5 + 1)), (8, .int 1), (7, .int 0), (6, .int (l2 - ((sN v) (Int32.toNatClampNeg l5)))), (0, .ref (aS 0)), (1, .int l1), (2, .int l2), (3, .int l3), (4, .int l4)]) C dX0_nextOfOldWay_114 rfl rfl (by decide) rfl ?_
                      refine g_goto (pc := 117) (tgt := 11) C dX0_nextOfOldWay_117 (by decide) ?_
                      refine g_lv [4, 5, 6, 7, 8, 0] (lv' := [(0, .ref (aS 0)), (1, .int l1), (2, .int l2), (3, .int l3), (4, .int l4), (5, .int (l5 + 1))]) rfl ?_
                      exact ih l4 (l5 + 1) u hf hk0
                    · refine g_iload (pc := 110) (x := l5) C dX0_nextOfOldWay_110 rfl ?_
                      refine g_istore (pc := 112) (lv' := [(4, .int l5), (8, .int 1), (7, .int 0), (6, .int (l2 - ((sN v) (Int32.toNatClampNeg l5)))), (0, .ref (aS 0)), (1, .int l1), (2, .int l2), (3, .int l3), (5, .int l5)]) C dX0_nextOfOldWay_112 (by decide) rfl ?_
                      refine g_iinc (pc := 114) (x := l5) (v := (l5 + 1)) (lv' := [(5, .int (l5 + 1)), (4, .int l5), (8, .int 1), (7, .int 0), (6, .int (l2 - ((sN v) (Int32.toNatClampNeg l5)))), (0, .ref (aS 0)), (1, .int l1), (2, .int l2), (3, .int l3)]) C dX0_nextOfOldWay_114 rfl rfl (by decide) rfl ?_
                      refine g_goto (pc := 117) (tgt := 11) C dX0_nextOfOldWay_117 (by decide) ?_
                      refine g_lv [5, 6, 7, 8, 1, 0] (lv' := [(0, .ref (aS 0)), (1, .int l1), (2, .int l2), (3, .int l3), (4, .int l5), (5, .int (l5 + 1))]) rfl ?_
                      exact ih l5 (l5 + 1) u hf hk0
        · refine g_iconst (pc := 49) (v := 1) C dX0_nextOfOldWay_49 (by decide) ?_
          refine g_goto (pc := 50) (tgt := 54) C dX0_nextOfOldWay_50 (by decide) ?_
          refine g_istore (pc := 54) (lv' := [(7, .int 1), (6, .int (l2 - ((sN v) (Int32.toNatClampNeg l5)))), (0, .ref (aS 0)), (1, .int l1), (2, .int l2), (3, .int l3), (4, .int l4), (5, .int l5)]) C dX0_nextOfOldWay_54 (by decide) rfl ?_
          refine g_iload (pc := 56) (x := 1) C dX0_nextOfOldWay_56 rfl ?_
          refine g_if_eq (pc := 58) (tgt := 79) (x := 1) hf C dX0_nextOfOldWay_58 (by decide) (fun hf => ?_) (fun hf => ?_)
          · refine g_iconst (pc := 79) (v := 0) C dX0_nextOfOldWay_79 (by decide) ?_
            refine g_istore (pc := 80) (lv' := [(8, .int 0), (7, .int 1), (6, .int (l2 - ((sN v) (Int32.toNatClampNeg l5)))), (0, .ref (aS 0)), (1, .int l1), (2, .int l2), (3, .int l3), (4, .int l4), (5, .int l5)]) C dX0_nextOfOldWay_80 (by decide) rfl ?_
            refine g_iload (pc := 82) (x := 0) C dX0_nextOfOldWay_82 rfl ?_
            refine g_if_eq (pc := 84) (tgt := 114) (x := 0) hf C dX0_nextOfOldWay_84 (by decide) (fun hf => ?_) (fun hf => ?_)
            · refine g_iinc (pc := 114) (x := l5) (v := (l5 + 1)) (lv' := [(5, .int (l5 + 1)), (8, .int 0), (7, .int 1), (6, .int (l2 - ((sN v) (Int32.toNatClampNeg l5)))), (0, .ref (aS 0)), (1, .int l1), (2, .int l2), (3, .int l3), (4, .int l4)]) C dX0_nextOfOldWay_114 rfl rfl (by decide) rfl ?_
              refine g_goto (pc := 117) (tgt := 11) C dX0_nextOfOldWay_117 (by decide) ?_
              refine g_lv [4, 5, 6, 7, 8, 0] (lv' := [(0, .ref (aS 0)), (1, .int l1), (2, .int l2), (3, .int l3), (4, .int l4), (5, .int (l5 + 1))]) rfl ?_
              exact ih l4 (l5 + 1) u hf hk0
            · refine g_iload (pc := 87) (x := l4) C dX0_nextOfOldWay_87 rfl ?_
              refine g_iconst (pc := 89) (v := (-1)) C dX0_nextOfOldWay_89 (by decide) ?_
              refine g_icmp_eq (pc := 90) (tgt := 110) (x := l4) (y := (-1)) hf C dX0_nextOfOldWay_90 (by decide) (fun hf => ?_) (fun hf => ?_)
              · refine g_iload (pc := 110) (x := l5) C dX0_nextOfOldWay_110 rfl ?_
                refine g_istore (pc := 112) (lv' := [(4, .int l5), (8, .int 0), (7, .int 1), (6, .int (l2 - ((sN v) (Int32.toNatClampNeg l5)))), (0, .ref (aS 0)), (1, .int l1), (2, .int l2), (3, .int l3), (5, .int l5)]) C dX0_nextOfOldWay_112 (by decide) rfl ?_
                refine g_iinc (pc := 114) (x := l5) (v := (l5 + 1)) (lv' := [(5, .int (l5 + 1)), (4, .int l5), (8, .int 0), (7, .int 1), (6, .int (l2 - ((sN v) (Int32.toNatClampNeg l5)))), (0, .ref (aS 0)), (1, .int l1), (2, .int l2), (3, .int l3)]) C dX0_nextOfOldWay_114 rfl rfl (by decide) rfl ?_
                refine g_goto (pc := 117) (tgt := 11) C dX0_nextOfOldWay_117 (by decide) ?_
                refine g_lv [5, 6, 7, 8, 1, 0] (lv' := [(0, .ref (aS 0)), (1, .int l1), (2, .int l2), (3, .int l3), (4, .int l5), (5, .int (l5 + 1))]) rfl ?_
                exact ih l5 (l5 + 1) u hf hk0
              · refine g_aload_n (pc := 93) (x := (aS 0)) C dX0_nextOfOldWay_93 rfl ?_
                refine g_getf (pc := 94) C 0 rfl rfl inX0_nextOfOldWay_X3 0 (by decide) lkX0_nextOfOldWay_15 rfl rfl dX0_nextOfOldWay_94 ?_
                refine g_iload (pc := 97) (x := l5) C dX0_nextOfOldWay_97 rfl ?_
                refine g_iald (pc := 99) (i := l5) hf C 1 rfl dX0_nextOfOldWay_99 (fun hf => ?_)
                refine g_aload_n (pc := 100) (x := (aS 0)) C dX0_nextOfOldWay_100 rfl ?_
                refine g_getf (pc := 101) C 0 rfl rfl inX0_nextOfOldWay_X3 0 (by decide) lkX0_nextOfOldWay_15 rfl rfl dX0_nextOfOldWay_101 ?_
                refine g_iload (pc := 104) (x := l4) C dX0_nextOfOldWay_104 rfl ?_
                refine g_iald (pc := 106) (i := l4) hf C 1 rfl dX0_nextOfOldWay_106 (fun hf => ?_)
                refine g_icmp_le (pc := 107) (tgt := 114) (x := ((sN v) (Int32.toNatClampNeg l5))) (y := ((sN v) (Int32.toNatClampNeg l4))) hf C dX0_nextOfOldWay_107 (by decide) (fun hf => ?_) (fun hf => ?_)
                · refine g_iinc (pc := 114) (x := l5) (v := (l5 + 1)) (lv' := [(5, .int (l5 + 1)), (8, .int 0), (7, .int 1), (6, .int (l2 - ((sN v) (Int32.toNatClampNeg l5)))), (0, .ref (aS 0)), (1, .int l1), (2, .int l2), (3, .int l3), (4, .int l4)]) C dX0_nextOfOldWay_114 rfl rfl (by decide) rfl ?_
                  refine g_goto (pc := 117) (tgt := 11) C dX0_nextOfOldWay_117 (by decide) ?_
                  refine g_lv [4, 5, 6, 7, 8, 0] (lv' := [(0, .ref (aS 0)), (1, .int l1), (2, .int l2), (3, .int l3), (4, .int l4), (5, .int (l5 + 1))]) rfl ?_
                  exact ih l4 (l5 + 1) u hf hk0
                · refine g_iload (pc := 110) (x := l5) C dX0_nextOfOldWay_110 rfl ?_
                  refine g_istore (pc := 112) (lv' := [(4, .int l5), (8, .int 0), (7, .int 1), (6, .int (l2 - ((sN v) (Int32.toNatClampNeg l5)))), (0, .ref (aS 0)), (1, .int l1), (2, .int l2), (3, .int l3), (5, .int l5)]) C dX0_nextOfOldWay_112 (by decide) rfl ?_
                  refine g_iinc (pc := 114) (x := l5) (v := (l5 + 1)) (lv' := [(5, .int (l5 + 1)), (4, .int l5), (8, .int 0), (7, .int 1), (6, .int (l2 - ((sN v) (Int32.toNatClampNeg l5)))), (0, .ref (aS 0)), (1, .int l1), (2, .int l2), (3, .int l3)]) C dX0_nextOfOldWay_114 rfl rfl (by decide) rfl ?_
                  refine g_goto (pc := 117) (tgt := 11) C dX0_nextOfOldWay_117 (by decide) ?_
                  refine g_lv [5, 6, 7, 8, 1, 0] (lv' := [(0, .ref (aS 0)), (1, .int l1), (2, .int l2), (3, .int l3), (4, .int l5), (5, .int (l5 + 1))]) rfl ?_
                  exact ih l5 (l5 + 1) u hf hk0
          · refine g_iload (pc := 61) (x := (l2 - ((sN v) (Int32.toNatClampNeg l5)))) C dX0_nextOfOldWay_61 rfl ?_
            refine g_if_lt (pc := 63) (tgt := 79) (x := (l2 - ((sN v) (Int32.toNatClampNeg l5)))) hf C dX0_nextOfOldWay_63 (by decide) (fun hf => ?_) (fun hf => ?_)
            · refine g_iconst (pc := 79) (v := 0) C dX0_nextOfOldWay_79 (by decide) ?_
              refine g_istore (pc := 80) (lv' := [(8, .int 0), (7, .int 1), (6, .int (l2 - ((sN v) (Int32.toNatClampNeg l5)))), (0, .ref (aS 0)), (1, .int l1), (2, .int l2), (3, .int l3), (4, .int l4), (5, .int l5)]) C dX0_nextOfOldWay_80 (by decide) rfl ?_
              refine g_iload (pc := 82) (x := 0) C dX0_nextOfOldWay_82 rfl ?_
              refine g_if_eq (pc := 84) (tgt := 114) (x := 0) hf C dX0_nextOfOldWay_84 (by decide) (fun hf => ?_) (fun hf => ?_)
              · refine g_iinc (pc := 114) (x := l5) (v := (l5 + 1)) (lv' := [(5, .int (l5 + 1)), (8, .int 0), (7, .int 1), (6, .int (l2 - ((sN v) (Int32.toNatClampNeg l5)))), (0, .ref (aS 0)), (1, .int l1), (2, .int l2), (3, .int l3), (4, .int l4)]) C dX0_nextOfOldWay_114 rfl rfl (by decide) rfl ?_
                refine g_goto (pc := 117) (tgt := 11) C dX0_nextOfOldWay_117 (by decide) ?_
                refine g_lv [4, 5, 6, 7, 8, 0] (lv' := [(0, .ref (aS 0)), (1, .int l1), (2, .int l2), (3, .int l3), (4, .int l4), (5, .int (l5 + 1))]) rfl ?_
                exact ih l4 (l5 + 1) u hf hk0
              · refine g_iload (pc := 87) (x := l4) C dX0_nextOfOldWay_87 rfl ?_
                refine g_iconst (pc := 89) (v := (-1)) C dX0_nextOfOldWay_89 (by decide) ?_
                refine g_icmp_eq (pc := 90) (tgt := 110) (x := l4) (y := (-1)) hf C dX0_nextOfOldWay_90 (by decide) (fun hf => ?_) (fun hf => ?_)
                · refine g_iload (pc := 110) (x := l5) C dX0_nextOfOldWay_110 rfl ?_
                  refine g_istore (pc := 112) (lv' := [(4, .int l5), (8, .int 0), (7, .int 1), (6, .int (l2 - ((sN v) (Int32.toNatClampNeg l5)))), (0, .ref (aS 0)), (1, .int l1), (2, .int l2), (3, .int l3), (5, .int l5)]) C dX0_nextOfOldWay_112 (by decide) rfl ?_
                  refine g_iinc (pc := 114) (x := l5) (v := (l5 + 1)) (lv' := [(5, .int (l5 + 1)), (4, .int l5), (8, .int 0), (7, .int 1), (6, .int (l2 - ((sN v) (Int32.toNatClampNeg l5)))), (0, .ref (aS 0)), (1, .int l1), (2, .int l2), (3, .int l3)]) C dX0_nextOfOldWay_114 rfl rfl (by decide) rfl ?_
                  refine g_goto (pc := 117) (tgt := 11) C dX0_nextOfOldWay_117 (by decide) ?_
                  refine g_lv [5, 6, 7, 8, 1, 0] (lv' := [(0, .ref (aS 0)), (1, .int l1), (2, .int l2), (3, .int l3), (4, .int l5), (5, .int (l5 + 1))]) rfl ?_
                  exact ih l5 (l5 + 1) u hf hk0
                · refine g_aload_n (pc := 93) (x := (aS 0)) C dX0_nextOfOldWay_93 rfl ?_
                  refine g_getf (pc := 94) C 0 rfl rfl inX0_nextOfOldWay_X3 0 (by decide) lkX0_nextOfOldWay_15 rfl rfl dX0_nextOfOldWay_94 ?_
                  refine g_iload (pc := 97) (x := l5) C dX0_nextOfOldWay_97 rfl ?_
                  refine g_iald (pc := 99) (i := l5) hf C 1 rfl dX0_nextOfOldWay_99 (fun hf => ?_)
                  refine g_aload_n (pc := 100) (x := (aS 0)) C dX0_nextOfOldWay_100 rfl ?_
                  refine g_getf (pc := 101) C 0 rfl rfl inX0_nextOfOldWay_X3 0 (by decide) lkX0_nextOfOldWay_15 rfl rfl dX0_nextOfOldWay_101 ?_
                  refine g_iload (pc := 104) (x := l4) C dX0_nextOfOldWay_104 rfl ?_
                  refine g_iald (pc := 106) (i := l4) hf C 1 rfl dX0_nextOfOldWay_106 (fun hf => ?_)
                  refine g_icmp_le (pc := 107) (tgt := 114) (x := ((sN v) (Int32.toNatClampNeg l5))) (y := ((sN v) (Int32.toNatClampNeg l4))) hf C dX0_nextOfOldWay_107 (by decide) (fun hf => ?_) (fun hf => ?_)
                  · refine g_iinc (pc := 114) (x := l5) (v := (l5 + 1)) (lv' := [(5, .int (l5 + 1)), (8, .int 0), (7, .int 1), (6, .int (l2 - ((sN v) (Int32.toNatClampNeg l5)))), (0, .ref (aS 0)), (1, .int l1), (2, .int l2), (3, .int l3), (4, .int l4)]) C dX0_nextOfOldWay_114 rfl rfl (by decide) rfl ?_
                    refine g_goto (pc := 117) (tgt := 11) C dX0_nextOfOldWay_117 (by decide) ?_
                    refine g_lv [4, 5, 6, 7, 8, 0] (lv' := [(0, .ref (aS 0)), (1, .int l1), (2, .int l2), (3, .int l3), (4, .int l4), (5, .int (l5 + 1))]) rfl ?_
                    exact ih l4 (l5 + 1) u hf hk0
                  · refine g_iload (pc := 110) (x := l5) C dX0_nextOfOldWay_110 rfl ?_
                    refine g_istore (pc := 112) (lv' := [(4, .int l5), (8, .int 0), (7, .int 1), (6, .int (l2 - ((sN v) (Int32.toNatClampNeg l5)))), (0, .ref (aS 0)), (1, .int l1), (2, .int l2), (3, .int l3), (5, .int l5)]) C dX0_nextOfOldWay_112 (by decide) rfl ?_
                    refine g_iinc (pc := 114) (x := l5) (v := (l5 + 1)) (lv' := [(5, .int (l5 + 1)), (4, .int l5), (8, .int 0), (7, .int 1), (6, .int (l2 - ((sN v) (Int32.toNatClampNeg l5)))), (0, .ref (aS 0)), (1, .int l1), (2, .int l2), (3, .int l3)]) C dX0_nextOfOldWay_114 rfl rfl (by decide) rfl ?_
                    refine g_goto (pc := 117) (tgt := 11) C dX0_nextOfOldWay_117 (by decide) ?_
                    refine g_lv [5, 6, 7, 8, 1, 0] (lv' := [(0, .ref (aS 0)), (1, .int l1), (2, .int l2), (3, .int l3), (4, .int l5), (5, .int (l5 + 1))]) rfl ?_
                    exact ih l5 (l5 + 1) u hf hk0
            · refine g_iload (pc := 66) (x := (l2 - ((sN v) (Int32.toNatClampNeg l5)))) C dX0_nextOfOldWay_66 rfl ?_
              refine g_callR (pc' := 71) (cs' := 0) (sl' := 0) hf C (fun u => some (.int u)) (fun u hu => gr_S (rest := []) C (cX0_zerosAtEnd_ (kL k) C.tr (kD k) N (l2 - ((sN v) (Int32.toNatClampNeg l5))) u hu) (fun ht => va_cwS 1 ht gX0_nextOfOldWay_X0_zerosAtEnd rfl rfl rfl hsX0_zerosAtEnd ⟨(Nat.le_of_ble_eq_true rfl), (Nat.le_of_ble_eq_true rfl)⟩) [] rfl (by decide) rfl rfl (Nat.le_of_ble_eq_true rfl) dX0_nextOfOldWay_68 ⟨(Nat.le_of_ble_eq_true rfl), (Nat.le_of_ble_eq_true rfl)⟩) [] rfl rfl rfl rfl (fun u => [.int u]) (fun u => rfl) (fun r4 hf => ?_)
              refine g_iload_n (pc := 71) (x := l3) C dX0_nextOfOldWay_71 rfl ?_
              refine g_icmp_le (pc := 72) (tgt := 79) (x := r4) (y := l3) hf C dX0_nextOfOldWay_72 (by decide) (fun hf => ?_) (fun hf => ?_)
              · refine g_iconst (pc := 79) (v := 0) C dX0_nextOfOldWay_79 (by decide) ?_
                refine g_istore (pc := 80) (lv' := [(8, .int 0), (7, .int 1), (6, .int (l2 - ((sN v) (Int32.toNatClampNeg l5)))), (0, .ref (aS 0)), (1, .int l1), (2, .int l2), (3, .int l3), (4, .int l4), (5, .int l5)]) C dX0_nextOfOldWay_80 (by decide) rfl ?_
                refine g_iload (pc := 82) (x := 0) C dX0_nextOfOldWay_82 rfl ?_
                refine g_if_eq (pc := 84) (tgt := 114) (x := 0) hf C dX0_nextOfOldWay_84 (by decide) (fun hf => ?_) (fun hf => ?_)
                · refine g_iinc (pc := 114) (x := l5) (v := (l5 + 1)) (lv' := [(5, .int (l5 + 1)), (8, .int 0), (7, .int 1), (6, .int (l2 - ((sN v) (Int32.toNatClampNeg l5)))), (0, .ref (aS 0)), (1, .int l1), (2, .int l2), (3, .int l3), (4, .int l4)]) C dX0_nextOfOldWay_114 rfl rfl (by decide) rfl ?_
                  refine g_goto (pc := 117) (tgt := 11) C dX0_nextOfOldWay_117 (by decide) ?_
                  refine g_lv [4, 5, 6, 7, 8, 0] (lv' := [(0, .ref (aS 0)), (1, .int l1), (2, .int l2), (3, .int l3), (4, .int l4), (5, .int (l5 + 1))]) rfl ?_
                  exact ih l4 (l5 + 1) u hf hk0
                · refine g_iload (pc := 87) (x := l4) C dX0_nextOfOldWay_87 rfl ?_
                  refine g_iconst (pc := 89) (v := (-1)) C dX0_nextOfOldWay_89 (by decide) ?_
                  refine g_icmp_eq (pc := 90) (tgt := 110) (x := l4) (y := (-1)) hf C dX0_nextOfOldWay_90 (by decide) (fun hf => ?_) (fun hf => ?_)
                  · refine g_iload (pc := 110) (x := l5) C dX0_nextOfOldWay_110 rfl ?_
                    refine g_istore (pc := 112) (lv' := [(4, .int l5), (8, .int 0), (7, .int 1), (6, .int (l2 - ((sN v) (Int32.toNatClampNeg l5)))), (0, .ref (aS 0)), (1, .int l1), (2, .int l2), (3, .int l3), (5, .int l5)]) C dX0_nextOfOldWay_112 (by decide) rfl ?_
                    refine g_iinc (pc := 114) (x := l5) (v := (l5 + 1)) (lv' := [(5, .int (l5 + 1)), (4, .int l5), (8, .int 0), (7, .int 1), (6, .int (l2 - ((sN v) (Int32.toNatClampNeg l5)))), (0, .ref (aS 0)), (1, .int l1), (2, .int l2), (3, .int l3)]) C dX0_nextOfOldWay_114 rfl rfl (by decide) rfl ?_
                    refine g_goto (pc := 117) (tgt := 11) C dX0_nextOfOldWay_117 (by decide) ?_
                    refine g_lv [5, 6, 7, 8, 1, 0] (lv' := [(0, .ref (aS 0)), (1, .int l1), (2, .int l2), (3, .int l3), (4, .int l5), (5, .int (l5 + 1))]) rfl ?_
                    exact ih l5 (l5 + 1) u hf hk0
                  · refine g_aload_n (pc := 93) (x := (aS 0)) C dX0_nextOfOldWay_93 rfl ?_
                    refine g_getf (pc := 94) C 0 rfl rfl inX0_nextOfOldWay_X3 0 (by decide) lkX0_nextOfOldWay_15 rfl rfl dX0_nextOfOldWay_94 ?_
                    refine g_iload (pc := 97) (x := l5) C dX0_nextOfOldWay_97 rfl ?_
                    refine g_iald (pc := 99) (i := l5) hf C 1 rfl dX0_nextOfOldWay_99 (fun hf => ?_)
                    refine g_aload_n (pc := 100) (x := (aS 0)) C dX0_nextOfOldWay_100 rfl ?_
                    refine g_getf (pc := 101) C 0 rfl rfl inX0_nextOfOldWay_X3 0 (by decide) lkX0_nextOfOldWay_15 rfl rfl dX0_nextOfOldWay_101 ?_
                    refine g_iload (pc := 104) (x := l4) C dX0_nextOfOldWay_104 rfl ?_
                    refine g_iald (pc := 106) (i := l4) hf C 1 rfl dX0_nextOfOldWay_106 (fun hf => ?_)
                    refine g_icmp_le (pc := 107) (tgt := 114) (x := ((sN v) (Int32.toNatClampNeg l5))) (y := ((sN v) (Int32.toNatClampNeg l4))) hf C dX0_nextOfOldWay_107 (by decide) (fun hf => ?_) (fun hf => ?_)
                    · refine g_iinc (pc := 114) (x := l5) (v := (l5 + 1)) (lv' := [(5, .int (l5 + 1)), (8, .int 0), (7, .int 1), (6, .int (l2 - ((sN v) (Int32.toNatClampNeg l5)))), (0, .ref (aS 0)), (1, .int l1), (2, .int l2), (3, .int l3), (4, .int l4)]) C dX0_nextOfOldWay_114 rfl rfl (by decide) rfl ?_
                      refine g_goto (pc := 117) (tgt := 11) C dX0_nextOfOldWay_117 (by decide) ?_
                      refine g_lv [4, 5, 6, 7, 8, 0] (lv' := [(0, .ref (aS 0)), (1, .int l1), (2, .int l2), (3, .int l3), (4, .int l4), (5, .int (l5 + 1))]) rfl ?_
                      exact ih l4 (l5 + 1) u hf hk0
                    · refine g_iload (pc := 110) (x := l5) C dX0_nextOfOldWay_110 rfl ?_
                      refine g_istore (pc := 112) (lv' := [(4, .int l5), (8, .int 0), (7, .int 1), (6, .int (l2 - ((sN v) (Int32.toNatClampNeg l5)))), (0, .ref (aS 0)), (1, .int l1), (2, .int l2), (3, .int l3), (5, .int l5)]) C dX0_nextOfOldWay_112 (by decide) rfl ?_
                      refine g_iinc (pc := 114) (x := l5) (v := (l5 + 1)) (lv' := [(5, .int (l5 + 1)), (4, .int l5), (8, .int 0), (7, .int 1), (6, .int (l2 - ((sN v) (Int32.toNatClampNeg l5)))), (0, .ref (aS 0)), (1, .int l1), (2, .int l2), (3, .int l3)]) C dX0_nextOfOldWay_114 rfl rfl (by decide) rfl ?_
                      refine g_goto (pc := 117) (tgt := 11) C dX0_nextOfOldWay_117 (by decide) ?_
                      refine g_lv [5, 6, 7, 8, 1, 0] (lv' := [(0, .ref (aS 0)), (1, .int l1), (2, .int l2), (3, .int l3), (4, .int l5), (5, .int (l5 + 1))]) rfl ?_
                      exact ih l5 (l5 + 1) u hf hk0
              · refine g_iconst (pc := 75) (v := 1) C dX0_nextOfOldWay_75 (by decide) ?_
                refine g_goto (pc := 76) (tgt := 80) C dX0_nextOfOldWay_76 (by decide) ?_
                refine g_istore (pc := 80) (lv' := [(8, .int 1), (7, .int 1), (6, .int (l2 - ((sN v) (Int32.toNatClampNeg l5)))), (0, .ref (aS 0)), (1, .int l1), (2, .int l2), (3, .int l3), (4, .int l4), (5, .int l5)]) C dX0_nextOfOldWay_80 (by decide) rfl ?_
                refine g_iload (pc := 82) (x := 1) C dX0_nextOfOldWay_82 rfl ?_
                refine g_if_eq (pc := 84) (tgt := 114) (x := 1) hf C dX0_nextOfOldWay_84 (by decide) (fun hf => ?_) (fun hf => ?_)
                · refine g_iinc (pc := 114) (x := l5) (v := (l5 + 1)) (lv' := [(5, .int (l5 + 1)), (8, .int 1), (7, .int 1), (6, .int (l2 - ((sN v) (Int32.toNatClampNeg l5)))), (0, .ref (aS 0)), (1, .int l1), (2, .int l2), (3, .int l3), (4, .int l4)]) C dX0_nextOfOldWay_114 rfl rfl (by decide) rfl ?_
                  refine g_goto (pc := 117) (tgt := 11) C dX0_nextOfOldWay_117 (by decide) ?_
                  refine g_lv [4, 5, 6, 7, 8, 0] (lv' := [(0, .ref (aS 0)), (1, .int l1), (2, .int l2), (3, .int l3), (4, .int l4), (5, .int (l5 + 1))]) rfl ?_
                  exact ih l4 (l5 + 1) u hf hk0
                · refine g_iload (pc := 87) (x := l4) C dX0_nextOfOldWay_87 rfl ?_
                  refine g_iconst (pc := 89) (v := (-1)) C dX0_nextOfOldWay_89 (by decide) ?_
                  refine g_icmp_eq (pc := 90) (tgt := 110) (x := l4) (y := (-1)) hf C dX0_nextOfOldWay_90 (by decide) (fun hf => ?_) (fun hf => ?_)
                  · refine g_iload (pc := 110) (x := l5) C dX0_nextOfOldWay_110 rfl ?_
                    refine g_istore (pc := 112) (lv' := [(4, .int l5), (8, .int 1), (7, .int 1), (6, .int (l2 - ((sN v) (Int32.toNatClampNeg l5)))), (0, .ref (aS 0)), (1, .int l1), (2, .int l2), (3, .int l3), (5, .int l5)]) C dX0_nextOfOldWay_112 (by decide) rfl ?_
                    refine g_iinc (pc := 114) (x := l5) (v := (l5 + 1)) (lv' := [(5, .int (l5 + 1)), (4, .int l5), (8, .int 1), (7, .int 1), (6, .int (l2 - ((sN v) (Int32.toNatClampNeg l5)))), (0, .ref (aS 0)), (1, .int l1), (2, .int l2), (3, .int l3)]) C dX0_nextOfOldWay_114 rfl rfl (by decide) rfl ?_
                    refine g_goto (pc := 117) (tgt := 11) C dX0_nextOfOldWay_117 (by decide) ?_
                    refine g_lv [5, 6, 7, 8, 1, 0] (lv' := [(0, .ref (aS 0)), (1, .int l1), (2, .int l2), (3, .int l3), (4, .int l5), (5, .int (l5 + 1))]) rfl ?_
                    exact ih l5 (l5 + 1) u hf hk0
                  · refine g_aload_n (pc := 93) (x := (aS 0)) C dX0_nextOfOldWay_93 rfl ?_
                    refine g_getf (pc := 94) C 0 rfl rfl inX0_nextOfOldWay_X3 0 (by decide) lkX0_nextOfOldWay_15 rfl rfl dX0_nextOfOldWay_94 ?_
                    refine g_iload (pc := 97) (x := l5) C dX0_nextOfOldWay_97 rfl ?_
                    refine g_iald (pc := 99) (i := l5) hf C 1 rfl dX0_nextOfOldWay_99 (fun hf => ?_)
                    refine g_aload_n (pc := 100) (x := (aS 0)) C dX0_nextOfOldWay_100 rfl ?_
                    refine g_getf (pc := 101) C 0 rfl rfl inX0_nextOfOldWay_X3 0 (by decide) lkX0_nextOfOldWay_15 rfl rfl dX0_nextOfOldWay_101 ?_
                    refine g_iload (pc := 104) (x := l4) C dX0_nextOfOldWay_104 rfl ?_
                    refine g_iald (pc := 106) (i := l4) hf C 1 rfl dX0_nextOfOldWay_106 (fun hf => ?_)
                    refine g_icmp_le (pc := 107) (tgt := 114) (x := ((sN v) (Int32.toNatClampNeg l5))) (y := ((sN v) (Int32.toNatClampNeg l4))) hf C dX0_nextOfOldWay_107 (by decide) (fun hf => ?_) (fun hf => ?_)
                    · refine g_iinc (pc := 114) (x := l5) (v := (l5 + 1)) (lv' := [(5, .int (l5 + 1)), (8, .int 1), (7, .int 1), (6, .int (l2 - ((sN v) (Int32.toNatClampNeg l5)))), (0, .ref (aS 0)), (1, .int l1), (2, .int l2), (3, .int l3), (4, .int l4)]) C dX0_nextOfOldWay_114 rfl rfl (by decide) rfl ?_
                      refine g_goto (pc := 117) (tgt := 11) C dX0_nextOfOldWay_117 (by decide) ?_
                      refine g_lv [4, 5, 6, 7, 8, 0] (lv' := [(0, .ref (aS 0)), (1, .int l1), (2, .int l2), (3, .int l3), (4, .int l4), (5, .int (l5 + 1))]) rfl ?_
                      exact ih l4 (l5 + 1) u hf hk0
                    · refine g_iload (pc := 110) (x := l5) C dX0_nextOfOldWay_110 rfl ?_
                      refine g_istore (pc := 112) (lv' := [(4, .int l5), (8, .int 1), (7, .int 1), (6, .int (l2 - ((sN v) (Int32.toNatClampNeg l5)))), (0, .ref (aS 0)), (1, .int l1), (2, .int l2), (3, .int l3), (5, .int l5)]) C dX0_nextOfOldWay_112 (by decide) rfl ?_
                      refine g_iinc (pc := 114) (x := l5) (v := (l5 + 1)) (lv' := [(5, .int (l5 + 1)), (4, .int l5), (8, .int 1), (7, .int 1), (6, .int (l2 - ((sN v) (Int32.toNatClampNeg l5)))), (0, .ref (aS 0)), (1, .int l1), (2, .int l2), (3, .int l3)]) C dX0_nextOfOldWay_114 rfl rfl (by decide) rfl ?_
                      refine g_goto (pc := 117) (tgt := 11) C dX0_nextOfOldWay_117 (by decide) ?_
                      refine g_lv [5, 6, 7, 8, 1, 0] (lv' := [(0, .ref (aS 0)), (1, .int l1), (2, .int l2), (3, .int l3), (4, .int l5), (5, .int (l5 + 1))]) rfl ?_
                      exact ih l5 (l5 + 1) u hf hk0
def fX0_nextOfOldWay (N : Nat) (v : VS) (p1 : Int32) (p2 : Int32) : Option (Int32) := ((fX0_zerosAtEnd N p2).bind fun r1 => ((lX0_nextOfOldWay_11 N v p1 p2 r1 N (-1) 0).bind fun r2 => some r2))
set_option maxRecDepth 100000 in
set_option maxHeartbeats 4000000 in
theorem wkX0_nextOfOldWay {k : Kt} (C : gC k cX0_nextOfOldWay 9 RX0 wsX0_nextOfOldWay rmX0_nextOfOldWay "nextOfOldWay") (N : Nat) (aS : Nat → Nat) (v : VS) (p1 : Int32) (p2 : Int32) (r : Int32) (hf : fX0_nextOfOldWay N v p1 p2 = some r) (E : gE k (wS (kD k) aS v) (fun rv w => rv = some (.int r) ∧ w = (wS (kD k) aS v)) (fun _ _ => False) 0 0 (some .int) []) : gG k (wS (kD k) aS v) [(0, .ref (aS 0)), (1, .int p1), (2, .int p2)] 0 0 0 [] := by
  unfold fX0_nextOfOldWay at hf
  refine g_iload_n (pc := 0) (x := p2) C dX0_nextOfOldWay_0 rfl ?_
  refine g_callR (pc' := 4) (cs' := 0) (sl' := 0) hf C (fun u => some (.int u)) (fun u hu => gr_S (rest := []) C (cX0_zerosAtEnd_ (kL k) C.tr (kD k) N p2 u hu) (fun ht => va_cwS 1 ht gX0_nextOfOldWay_X0_zerosAtEnd rfl rfl rfl hsX0_zerosAtEnd ⟨(Nat.le_of_ble_eq_true rfl), (Nat.le_of_ble_eq_true rfl)⟩) [] rfl (by decide) rfl rfl (Nat.le_of_ble_eq_true rfl) dX0_nextOfOldWay_1 ⟨(Nat.le_of_ble_eq_true rfl), (Nat.le_of_ble_eq_true rfl)⟩) [] rfl rfl rfl rfl (fun u => [.int u]) (fun u => rfl) (fun r1 hf => ?_)
  refine g_istore_n (pc := 4) (lv' := [(3, .int r1), (0, .ref (aS 0)), (1, .int p1), (2, .int p2)]) C dX0_nextOfOldWay_4 (by decide) rfl ?_
  refine g_iconst (pc := 5) (v := (-1)) C dX0_nextOfOldWay_5 (by decide) ?_
  refine g_istore (pc := 6) (lv' := [(4, .int (-1)), (3, .int r1), (0, .ref (aS 0)), (1, .int p1), (2, .int p2)]) C dX0_nextOfOldWay_6 (by decide) rfl ?_
  refine g_iconst (pc := 8) (v := 0) C dX0_nextOfOldWay_8 (by decide) ?_
  refine g_istore (pc := 9) (lv' := [(5, .int 0), (4, .int (-1)), (3, .int r1), (0, .ref (aS 0)), (1, .int p1), (2, .int p2)]) C dX0_nextOfOldWay_9 (by decide) rfl ?_
  obtain ⟨r2, h2, hf⟩ := bd_e hf
  refine g_lv [3, 4, 5, 2, 1, 0] (lv' := [(0, .ref (aS 0)), (1, .int p1), (2, .int p2), (3, .int r1), (4, .int (-1)), (5, .int 0)]) rfl ?_
  refine wlX0_nextOfOldWay_11 C N aS v p1 p2 r1 N (-1) 0 r2 h2 ?_
  refine g_iload (pc := 120) (x := r2) C dX0_nextOfOldWay_120 rfl ?_
  obtain rfl := Option.some.inj hf
  exact g_iret (v := r2) C E dX0_nextOfOldWay_122 (Nat.le_of_ble_eq_true rfl) (Nat.le_of_ble_eq_true rfl) ⟨rfl, rfl⟩
set_option maxRecDepth 100000 in
set_option maxHeartbeats 4000000 in
theorem cX0_nextOfOldWay_ (l : Launch) (htr : l.stackTraces = false) (D : va_G) (N : Nat) (aS : Nat → Nat) (v : VS) (p1 : Int32) (p2 : Int32) (r : Int32) (hf : fX0_nextOfOldWay N v p1 p2 = some r) : Tc l D yX0_nextOfOldWay wsX0_nextOfOldWay rmX0_nextOfOldWay [.ref (aS 0), .int p1, .int p2] (wS D aS v) (fun rv w => rv = some (.int r) ∧ w = (wS D aS v)) (fun _ _ => False) 0 0 := Tc_of htr (by decide +kernel) rfl (Nat.le_of_ble_eq_true rfl) (fun k C E hl hD => by subst hD; exact wkX0_nextOfOldWay C N aS v p1 p2 r hf E)
abbrev rmX0_takenByOldWay : Room := { frames := 2, cells := 0, slots := 0, locals := 50 }
theorem inX0_takenByOldWay_X3 : ∀ w ∈ wsX30, w ∈ wsX0_takenByOldWay := by decide +kernel
theorem lkX0_takenByOldWay_15 : Cond.fieldLink RX0 15 "GaugeBlocks$State" (TX3 0).2.1 (TX3 0).2.2.1 ∈ wsX0_takenByOldWay := by decide +kernel
theorem hsX0_takenByOldWay : yX0_takenByOldWay.cls ≠ "java/lang/invoke/MethodHandle" ∧ yX0_takenByOldWay.cls ≠ "java/lang/invoke/VarHandle" ∧ (parseMethodDescriptor yX0_takenByOldWay.desc).map (fun d => d.parameters.length) = some 2 := by decide +kernel
def lX0_takenByOldWay_7 (N : Nat) (v : VS) : Nat → Int32 → Int32 → Int32 → Option ((Int32) ⊕ (Int32))
  | 0, _, _, _ => none
  | n + 1, l2, l3, l4 => (if (6 : Int32) ≤ l4 then some (.inl l3) else (if l2 ≤ (0 : Int32) then some (.inl l3) else ((fX0_nextOfOldWay N v l3 l2).bind fun r1 => (if r1 = ((-1) : Int32) then some (.inr l3) else ck r1 20 ((lX0_takenByOldWay_7 N v n (l2 - ((sN v) (Int32.toNatClampNeg r1))) (l3 ||| ((1 : Int32) <<< (r1 &&& 31))) (l4 + 1)))))))
set_option maxRecDepth 100000 in
set_option maxHeartbeats 4000000 in
theorem wlX0_takenByOldWay_7 {k : Kt} (C : gC k cX0_takenByOldWay 6 RX0 wsX0_takenByOldWay rmX0_takenByOldWay "takenByOldWay") (N : Nat) (aS : Nat → Nat) (v : VS) : ∀ (n : Nat) (l2 : Int32) (l3 : Int32) (l4 : Int32) (u : (Int32) ⊕ (Int32)) (hf : lX0_takenByOldWay_7 N v n l2 l3 l4 = some u) (hk0 : ∀ t : (Int32), u = (.inl t) → gG k (wS (kD k) aS v) [(3, .int t)] 0 0 57 []) (hk1 : ∀ t : (Int32), u = (.inr t) → gG k (wS (kD k) aS v) [(3, .int t)] 0 0 32 []), gG k (wS (kD k) aS v) [(0, .ref (aS 0)), (2, .int l2), (3, .int l3), (4, .int l4)] 0 0 7 [] := by
  intro n
  induction n with
  | zero => intro l2 l3 l4 u hf hk0 hk1; rw [lX0_takenByOldWay_7] at hf; cases hf
  | succ n ih =>
    intro l2 l3 l4 u hf hk0 hk1
    rw [lX0_takenByOldWay_7] at hf
    refine g_iload (pc := 7) (x := l4) C dX0_takenByOldWay_7 rfl ?_
    refine g_bipush (pc := 9) (v := 6) C dX0_takenByOldWay_9 (by decide) ?_
    refine g_icmp_ge (pc := 11) (tgt := 57) (x := l4) (y := 6) hf C dX0_takenByOldWay_11 (by decide) (fun hf => ?_) (fun hf => ?_)
    · obtain rfl := Option.some.inj hf
      refine g_lv [2] (lv' := [(3, .int l3)]) rfl ?_
      exact hk0 _ rfl
    · refine g_iload_n (pc := 14) (x := l2) C dX0_takenByOldWay_14 rfl ?_
      refine g_if_le (pc := 15) (tgt := 57) (x := l2) hf C dX0_takenByOldWay_15 (by decide) (fun hf => ?_) (fun hf => ?_)
      · obtain rfl := Option.some.inj hf
        refine g_lv [2] (lv' := [(3, .int l3)]) rfl ?_
        exact hk0 _ rfl
      · refine g_aload_n (pc := 18) (x := (aS 0)) C dX0_takenByOldWay_18 rfl ?_
        refine g_iload_n (pc := 19) (x := l3) C dX0_takenByOldWay_19 rfl ?_
        refine g_iload_n (pc := 20) (x := l2) C dX0_takenByOldWay_20 rfl ?_
        refine g_callR (pc' := 24) (cs' := 0) (sl' := 0) hf C (fun u => some (.int u)) (fun u hu => gr_S (rest := []) C (cX0_nextOfOldWay_ (kL k) C.tr (kD k) N aS v l3 l2 u hu) (fun ht => va_cwS 3 ht gX0_takenByOldWay_X0_nextOfOldWay rfl rfl rfl hsX0_nextOfOldWay ⟨(Nat.le_of_ble_eq_true rfl), (Nat.le_of_ble_eq_true rfl)⟩) [0, 1, 2, 3, 4, 5, 6, 7, 8] rfl (by decide) rfl rfl (Nat.le_of_ble_eq_true rfl) dX0_takenByOldWay_21 ⟨(Nat.le_of_ble_eq_true rfl), (Nat.le_of_ble_eq_true rfl)⟩) [0, 1, 2, 3, 4, 5, 6, 7, 8] rfl rfl rfl rfl (fun u => [.int u]) (fun u => rfl) (fun r1 hf => ?_)
        refine g_istore (pc := 24) (lv' := [(5, .int r1), (0, .ref (aS 0)), (2, .int l2), (3, .int l3), (4, .int l4)]) C dX0_takenByOldWay_24 (by decide) rfl ?_
        refine g_iload (pc := 26) (x := r1) C dX0_takenByOldWay_26 rfl ?_
        refine g_iconst (pc := 28) (v := (-1)) C dX0_takenByOldWay_28 (by decide) ?_
        refine g_icmp_ne (pc := 29) (tgt := 34) (x := r1) (y := (-1)) hf C dX0_takenByOldWay_29 (by decide) (fun hf => ?_) (fun hf => ?_)
        · refine g_iload_n (pc := 34) (x := l3) C dX0_takenByOldWay_34 rfl ?_
          refine g_iconst (pc := 35) (v := 1) C dX0_takenByOldWay_35 (by decide) ?_
          refine g_iload (pc := 36) (x := r1) C dX0_takenByOldWay_36 rfl ?_
          refine g_ishl (pc := 38) (x := (1 : Int32)) (y := r1) C dX0_takenByOldWay_38 ?_
          refine g_ior (pc := 39) (x := l3) (y := ((1 : Int32) <<< (r1 &&& 31))) C dX0_takenByOldWay_39 ?_
          refine g_istore_n (pc := 40) (lv' := [(3, .int (l3 ||| ((1 : Int32) <<< (r1 &&& 31)))), (5, .int r1), (0, .ref (aS 0)), (2, .int l2), (4, .int l4)]) C dX0_takenByOldWay_40 (by decide) rfl ?_
          refine g_iload_n (pc := 41) (x := l2) C dX0_takenByOldWay_41 rfl ?_
          refine g_aload_n (pc := 42) (x := (aS 0)) C dX0_takenByOldWay_42 rfl ?_
          refine g_getf (pc := 43) C 0 rfl rfl inX0_takenByOldWay_X3 0 (by decide) lkX0_takenByOldWay_15 rfl rfl dX0_takenByOldWay_43 ?_
          refine g_iload (pc := 46) (x := r1) C dX0_takenByOldWay_46 rfl ?_
          refine g_iald (pc := 48) (i := r1) hf C 1 rfl dX0_takenByOldWay_48 (fun hf => ?_)
          refine g_isub (pc := 49) (x := l2) (y := ((sN v) (Int32.toNatClampNeg r1))) C dX0_takenByOldWay_49 ?_
          refine g_istore_n (pc := 50) (lv' := [(2, .int (l2 - ((sN v) (Int32.toNatClampNeg r1)))), (3, .int (l3 ||| ((1 : Int32) <<< (r1 &&& 31)))), (5, .int r1), (0, .ref (aS 0)), (4, .int l4)]) C dX0_takenByOldWay_50 (by decide) rfl ?_
          refine g_iinc (pc := 51) (x := l4) (v := (l4 + 1)) (lv' := [(4, .int (l4 + 1)), (2, .int (l2 - ((sN v) (Int32.toNatClampNeg r1)))), (3, .int (l3 ||| ((1 : Int32) <<< (r1 &&& 31)))), (5, .int r1), (0, .ref (aS 0))]) C dX0_takenByOldWay_51 rfl rfl (by decide) rfl ?_
          refine g_goto (pc := 54) (tgt := 7) C dX0_takenByOldWay_54 (by decide) ?_
          refine g_lv [4, 1, 2, 0] (lv' := [(0, .ref (aS 0)), (2, .int (l2 - ((sN v) (Int32.toNatClampNeg r1)))), (3, .int (l3 ||| ((1 : Int32) <<< (r1 &&& 31)))), (4, .int (l4 + 1))]) rfl ?_
          exact ih (l2 - ((sN v) (Int32.toNatClampNeg r1))) (l3 ||| ((1 : Int32) <<< (r1 &&& 31))) (l4 + 1) u hf hk0 hk1
        · obtain rfl := Option.some.inj hf
          refine g_lv [3] (lv' := [(3, .int l3)]) rfl ?_
          exact hk1 _ rfl
def fX0_takenByOldWay (N : Nat) (v : VS) (p1 : Int32) : Option (Int32) := ((lX0_takenByOldWay_7 N v N p1 0 0).bind fun r1 => Sum.elim (fun (t1 : (Int32)) => some t1) (fun (y0 : (Int32)) => (fun (t1 : (Int32)) => some t1) y0) r1)
set_option maxRecDepth 100000 in
set_option maxHeartbeats 4000000 in
theorem wkX0_takenByOldWay {k : Kt} (C : gC k cX0_takenByOldWay 6 RX0 wsX0_takenByOldWay rmX0_takenByOldWay "takenByOldWay") (N : Nat) (aS : Nat → Nat) (v : VS) (p1 : Int32) (r : Int32) (hf : fX0_takenByOldWay N v p1 = some r) (E : gE k (wS (kD k) aS v) (fun rv w => rv = some (.int r) ∧ w = (wS (kD k) aS v)) (fun _ _ => False) 0 0 (some .int) []) : gG k (wS (kD k) aS v) [(0, .ref (aS 0)), (1, .int p1)] 0 0 0 [] := by
  unfold fX0_takenByOldWay at hf
  refine g_iload_n (pc := 0) (x := p1) C dX0_takenByOldWay_0 rfl ?_
  refine g_istore_n (pc := 1) (lv' := [(2, .int p1), (0, .ref (aS 0)), (1, .int p1)]) C dX0_takenByOldWay_1 (by decide) rfl ?_
  refine g_iconst (pc := 2) (v := 0) C dX0_takenByOldWay_2 (by decide) ?_
  refine g_istore_n (pc := 3) (lv' := [(3, .int 0), (2, .int p1), (0, .ref (aS 0)), (1, .int p1)]) C dX0_takenByOldWay_3 (by decide) rfl ?_
  refine g_iconst (pc := 4) (v := 0) C dX0_takenByOldWay_4 (by decide) ?_
  refine g_istore (pc := 5) (lv' := [(4, .int 0), (3, .int 0), (2, .int p1), (0, .ref (aS 0)), (1, .int p1)]) C dX0_takenByOldWay_5 (by decide) rfl ?_
  obtain ⟨r1, h1, hf⟩ := bd_e hf
  refine g_lv [3, 2, 1, 0] (lv' := [(0, .ref (aS 0)), (2, .int p1), (3, .int 0), (4, .int 0)]) rfl ?_
  refine wlX0_takenByOldWay_7 C N aS v N p1 0 0 r1 h1 (fun t1 e => ?_) (fun t1 e => ?_)
  · subst e
    refine g_iload_n (pc := 57) (x := t1) C dX0_takenByOldWay_57 rfl ?_
    obtain rfl := Option.some.inj hf
    exact g_iret (v := t1) C E dX0_takenByOldWay_58 (Nat.le_of_ble_eq_true rfl) (Nat.le_of_ble_eq_true rfl) ⟨rfl, rfl⟩
  · subst e
    refine g_iload_n (pc := 32) (x := t1) C dX0_takenByOldWay_32 rfl ?_
    obtain rfl := Option.some.inj hf
    exact g_iret (v := t1) C E dX0_takenByOldWay_33 (Nat.le_of_ble_eq_true rfl) (Nat.le_of_ble_eq_true rfl) ⟨rfl, rfl⟩
set_option maxRecDepth 100000 in
set_option maxHeartbeats 4000000 in
theorem cX0_takenByOldWay_ (l : Launch) (htr : l.stackTraces = false) (D : va_G) (N : Nat) (aS : Nat → Nat) (v : VS) (p1 : Int32) (r : Int32) (hf : fX0_takenByOldWay N v p1 = some r) : Tc l D yX0_takenByOldWay wsX0_takenByOldWay rmX0_takenByOldWay [.ref (aS 0), .int p1] (wS D aS v) (fun rv w => rv = some (.int r) ∧ w = (wS D aS v)) (fun _ _ => False) 0 0 := Tc_of htr (by decide +kernel) rfl (Nat.le_of_ble_eq_true rfl) (fun k C E hl hD => by subst hD; exact wkX0_takenByOldWay C N aS v p1 r hf E)
abbrev rmX0_nearer : Room := { frames := 1, cells := 0, slots := 0, locals := 14 }
theorem mkX0_nearer_45 : Cond.methodLink RX0 45 Lib.Math.abs.name ∈ wsX0_nearer ∧ Cond.static Lib.Math.abs.name ∈ wsX0_nearer ∧ Cond.initialized "java/lang/Math" ∈ wsX0_nearer ∧ Cond.code Lib.Math.abs.name Lib.Math.abs.code 1 (some .int) ∈ wsX0_nearer := by decide +kernel
theorem mkX0_nearer_50 : Cond.methodLink RX0 50 Lib.Math.min.name ∈ wsX0_nearer ∧ Cond.static Lib.Math.min.name ∈ wsX0_nearer ∧ Cond.initialized "java/lang/Math" ∈ wsX0_nearer ∧ Cond.code Lib.Math.min.name Lib.Math.min.code 2 (some .int) ∈ wsX0_nearer := by decide +kernel
theorem hsX0_nearer : yX0_nearer.cls ≠ "java/lang/invoke/MethodHandle" ∧ yX0_nearer.cls ≠ "java/lang/invoke/VarHandle" ∧ (parseMethodDescriptor yX0_nearer.desc).map (fun d => d.parameters.length) = some 3 := by decide +kernel
def fX0_nearer (N : Nat) (p0 : Int32) (p1 : Int32) (p2 : Int32) : Option (Int32) := (if p0 = ((-1) : Int32) then some p1 else (if ((jabs (p0 - p2)) - (jabs (p1 - p2))) = (0 : Int32) then some (jmin p0 p1) else (if ((jabs (p0 - p2)) - (jabs (p1 - p2))) ≤ (0 : Int32) then some p0 else some p1)))
set_option maxRecDepth 100000 in
set_option maxHeartbeats 4000000 in
theorem wkX0_nearer {k : Kt} (C : gC k cX0_nearer 4 RX0 wsX0_nearer rmX0_nearer "nearer") (N : Nat) (p0 : Int32) (p1 : Int32) (p2 : Int32) (r : Int32) (hf : fX0_nearer N p0 p1 p2 = some r) (E : gE k [] (fun rv w => rv = some (.int r) ∧ w = []) (fun _ _ => False) 0 0 (some .int) []) : gG k [] [(0, .int p0), (1, .int p1), (2, .int p2)] 0 0 0 [] := by
  unfold fX0_nearer at hf
  refine g_iload_n (pc := 0) (x := p0) C dX0_nearer_0 rfl ?_
  refine g_iconst (pc := 1) (v := (-1)) C dX0_nearer_1 (by decide) ?_
  refine g_icmp_ne (pc := 2) (tgt := 7) (x := p0) (y := (-1)) hf C dX0_nearer_2 (by decide) (fun hf => ?_) (fun hf => ?_)
  · refine g_iload_n (pc := 7) (x := p0) C dX0_nearer_7 rfl ?_
    refine g_iload_n (pc := 8) (x := p2) C dX0_nearer_8 rfl ?_
    refine g_isub (pc := 9) (x := p0) (y := p2) C dX0_nearer_9 ?_
    refine g_abs (pc := 10) (x := (p0 - p2)) C mkX0_nearer_45 (Nat.le_of_ble_eq_true rfl) (Nat.le_of_ble_eq_true rfl) (Nat.le_of_ble_eq_true rfl) (Nat.le_of_ble_eq_true rfl) dX0_nearer_10 ?_
    refine g_iload_n (pc := 13) (x := p1) C dX0_nearer_13 rfl ?_
    refine g_iload_n (pc := 14) (x := p2) C dX0_nearer_14 rfl ?_
    refine g_isub (pc := 15) (x := p1) (y := p2) C dX0_nearer_15 ?_
    refine g_abs (pc := 16) (x := (p1 - p2)) C mkX0_nearer_45 (Nat.le_of_ble_eq_true rfl) (Nat.le_of_ble_eq_true rfl) (Nat.le_of_ble_eq_true rfl) (Nat.le_of_ble_eq_true rfl) dX0_nearer_16 ?_
    refine g_isub (pc := 19) (x := (jabs (p0 - p2))) (y := (jabs (p1 - p2))) C dX0_nearer_19 ?_
    refine g_istore_n (pc := 20) (lv' := [(3, .int ((jabs (p0 - p2)) - (jabs (p1 - p2)))), (0, .int p0), (1, .int p1), (2, .int p2)]) C dX0_nearer_20 (by decide) rfl ?_
    refine g_iload_n (pc := 21) (x := ((jabs (p0 - p2)) - (jabs (p1 - p2)))) C dX0_nearer_21 rfl ?_
    refine g_if_ne (pc := 22) (tgt := 31) (x := ((jabs (p0 - p2)) - (jabs (p1 - p2)))) hf C dX0_nearer_22 (by decide) (fun hf => ?_) (fun hf => ?_)
    · refine g_iload_n (pc := 31) (x := ((jabs (p0 - p2)) - (jabs (p1 - p2)))) C dX0_nearer_31 rfl ?_
      refine g_if_le (pc := 32) (tgt := 39) (x := ((jabs (p0 - p2)) - (jabs (p1 - p2)))) hf C dX0_nearer_32 (by decide) (fun hf => ?_) (fun hf => ?_)
      · refine g_iload_n (pc := 39) (x := p0) C dX0_nearer_39 rfl ?_
        obtain rfl := Option.some.inj hf
        exact g_iret (v := p0) C E dX0_nearer_40 (Nat.le_of_ble_eq_true rfl) (Nat.le_of_ble_eq_true rfl) ⟨rfl, rfl⟩
      · refine g_iload_n (pc := 35) (x := p1) C dX0_nearer_35 rfl ?_
        refine g_goto (pc := 36) (tgt := 40) C dX0_nearer_36 (by decide) ?_
        obtain rfl := Option.some.inj hf
        exact g_iret (v := p1) C E dX0_nearer_40 (Nat.le_of_ble_eq_true rfl) (Nat.le_of_ble_eq_true rfl) ⟨rfl, rfl⟩
    · refine g_iload_n (pc := 25) (x := p0) C dX0_nearer_25 rfl ?_
      refine g_iload_n (pc := 26) (x := p1) C dX0_nearer_26 rfl ?_
      refine g_min (pc := 27) (x := p0) (y := p1) C mkX0_nearer_50 (Nat.le_of_ble_eq_true rfl) (Nat.le_of_ble_eq_true rfl) (Nat.le_of_ble_eq_true rfl) (Nat.le_of_ble_eq_true rfl) dX0_nearer_27 ?_
      obtain rfl := Option.some.inj hf
      exact g_iret (v := (jmin p0 p1)) C E dX0_nearer_30 (Nat.le_of_ble_eq_true rfl) (Nat.le_of_ble_eq_true rfl) ⟨rfl, rfl⟩
  · refine g_iload_n (pc := 5) (x := p1) C dX0_nearer_5 rfl ?_
    obtain rfl := Option.some.inj hf
    exact g_iret (v := p1) C E dX0_nearer_6 (Nat.le_of_ble_eq_true rfl) (Nat.le_of_ble_eq_true rfl) ⟨rfl, rfl⟩
set_option maxRecDepth 100000 in
set_option maxHeartbeats 4000000 in
theorem cX0_nearer_ (l : Launch) (htr : l.stackTraces = false) (D : va_G) (N : Nat) (p0 : Int32) (p1 : Int32) (p2 : Int32) (r : Int32) (hf : fX0_nearer N p0 p1 p2 = some r) : Tc l D yX0_nearer wsX0_nearer rmX0_nearer [.int p0, .int p1, .int p2] [] (fun rv w => rv = some (.int r) ∧ w = []) (fun _ _ => False) 0 0 := Tc_of htr (by decide +kernel) rfl (Nat.le_of_ble_eq_true rfl) (fun k C E hl hD => by subst hD; exact wkX0_nearer C N p0 p1 p2 r hf E)
abbrev rmX0_nearestTo : Room := { frames := 2, cells := 0, slots := 0, locals := 37 }
theorem inX0_nearestTo_X3 : ∀ w ∈ wsX30, w ∈ wsX0_nearestTo := by decide +kernel
theorem lkX0_nearestTo_33 : Cond.fieldLink RX0 33 "GaugeBlocks$State" (TX3 8).2.1 (TX3 8).2.2.1 ∈ wsX0_nearestTo := by decide +kernel
theorem lkX0_nearestTo_15 : Cond.fieldLink RX0 15 "GaugeBlocks$State" (TX3 0).2.1 (TX3 0).2.2.1 ∈ wsX0_nearestTo := by decide +kernel
theorem hsX0_nearestTo : yX0_nearestTo.cls ≠ "java/lang/invoke/MethodHandle" ∧ yX0_nearestTo.cls ≠ "java/lang/invoke/VarHandle" ∧ (parseMethodDescriptor yX0_nearestTo.desc).map (fun d => d.parameters.length) = some 2 := by decide +kernel
def lX0_nearestTo_35 (N : Nat) (v : VS) (l1 : Int32) (l3 : Int32) : Nat → Int32 → Int32 → Option ((Int32))
  | 0, _, _ => none
  | n + 1, l2, l4 => (if l3 ≤ l4 then some l2 else ((fX3_isFree N v l4).bind fun r1 => (if r1 = true then ck l3 20 (ck l4 20 (((fX0_nearer N l2 (((sN v) (Int32.toNatClampNeg l3)) + ((sN v) (Int32.toNatClampNeg l4))) l1).bind fun r2 => (lX0_nearestTo_35 N v l1 l3 n r2 (l4 + 1))))) else (lX0_nearestTo_35 N v l1 l3 n l2 (l4 + 1)))))
set_option maxRecDepth 100000 in
set_option maxHeartbeats 4000000 in
theorem wlX0_nearestTo_35 {k : Kt} (C : gC k cX0_nearestTo 5 RX0 wsX0_nearestTo rmX0_nearestTo "nearestTo") (N : Nat) (aS : Nat → Nat) (v : VS) (l1 : Int32) (l3 : Int32) : ∀ (n : Nat) (l2 : Int32) (l4 : Int32) (u : (Int32)) (hf : lX0_nearestTo_35 N v l1 l3 n l2 l4 = some u) (hk0 : gG k (wS (kD k) aS v) [(0, .ref (aS 0)), (1, .int l1), (2, .int u), (3, .int l3)] 0 0 76 []), gG k (wS (kD k) aS v) [(0, .ref (aS 0)), (1, .int l1), (2, .int l2), (3, .int l3), (4, .int l4)] 0 0 35 [] := by
  intro n
  induction n with
  | zero => intro l2 l4 u hf hk0; rw [lX0_nearestTo_35] at hf; cases hf
  | succ n ih =>
    intro l2 l4 u hf hk0
    rw [lX0_nearestTo_35] at hf
    refine g_iload (pc := 35) (x := l4) C dX0_nearestTo_35 rfl ?_
    refine g_iload_n (pc := 37) (x := l3) C dX0_nearestTo_37 rfl ?_
    refine g_icmp_ge (pc := 38) (tgt := 76) (x := l4) (y := l3) hf C dX0_nearestTo_38 (by decide) (fun hf => ?_) (fun hf => ?_)
    · obtain rfl := Option.some.inj hf
      refine g_lv [0, 1, 2, 3] (lv' := [(0, .ref (aS 0)), (1, .int l1), (2, .int l2), (3, .int l3)]) rfl ?_
      exact hk0
    · refine g_aload_n (pc := 41) (x := (aS 0)) C dX0_nearestTo_41 rfl ?_
      refine g_iload (pc := 42) (x := l4) C dX0_nearestTo_42 rfl ?_
      refine g_callR (pc' := 47) (cs' := 0) (sl' := 0) hf C (fun u => some (.int (b2i u))) (fun u hu => gr_V (rest := []) C (cX3_isFree_ (kL k) C.tr (kD k) N aS v l4 u hu) (fun ht => cwV 1 ht gX0_nearestTo_X3_isFree rfl rfl rfl hdX3_isFree ⟨(Nat.le_of_ble_eq_true rfl), (Nat.le_of_ble_eq_true rfl)⟩) 0 rfl rfl [0, 1, 2, 3, 4, 5, 6, 7, 8] rfl (by decide) rfl rfl (Nat.le_of_ble_eq_true rfl) dX0_nearestTo_44 ⟨(Nat.le_of_ble_eq_true rfl), (Nat.le_of_ble_eq_true rfl)⟩) [0, 1, 2, 3, 4, 5, 6, 7, 8] rfl rfl rfl rfl (fun u => [.int (b2i u)]) (fun u => rfl) (fun r1 hf => ?_)
      refine g_ifB_eq (pc := 47) (tgt := 70) (b := r1) hf C dX0_nearestTo_47 (by decide) (fun hf => ?_) (fun hf => ?_)
      · refine g_iinc (pc := 70) (x := l4) (v := (l4 + 1)) (lv' := [(4, .int (l4 + 1)), (0, .ref (aS 0)), (1, .int l1), (2, .int l2), (3, .int l3)]) C dX0_nearestTo_70 rfl rfl (by decide) rfl ?_
        refine g_goto (pc := 73) (tgt := 35) C dX0_nearestTo_73 (by decide) ?_
        refine g_lv [1, 2, 3, 4, 0] (lv' := [(0, .ref (aS 0)), (1, .int l1), (2, .int l2), (3, .int l3), (4, .int (l4 + 1))]) rfl ?_
        exact ih l2 (l4 + 1) u hf hk0
      · refine g_iload_n (pc := 50) (x := l2) C dX0_nearestTo_50 rfl ?_
        refine g_aload_n (pc := 51) (x := (aS 0)) C dX0_nearestTo_51 rfl ?_
        refine g_getf (pc := 52) C 0 rfl rfl inX0_nearestTo_X3 0 (by decide) lkX0_nearestTo_15 rfl rfl dX0_nearestTo_52 ?_
        refine g_iload_n (pc := 55) (x := l3) C dX0_nearestTo_55 rfl ?_
        refine g_iald (pc := 56) (i := l3) hf C 1 rfl dX0_nearestTo_56 (fun hf => ?_)
        refine g_aload_n (pc := 57) (x := (aS 0)) C dX0_nearestTo_57 rfl ?_
        refine g_getf (pc := 58) C 0 rfl rfl inX0_nearestTo_X3 0 (by decide) lkX0_nearestTo_15 rfl rfl dX0_nearestTo_58 ?_
        refine g_iload (pc := 61) (x := l4) C dX0_nearestTo_61 rfl ?_
        refine g_iald (pc := 63) (i := l4) hf C 1 rfl dX0_nearestTo_63 (fun hf => ?_)
        refine g_iadd (pc := 64) (x := ((sN v) (Int32.toNatClampNeg l3))) (y := ((sN v) (Int32.toNatClampNeg l4))) C dX0_nearestTo_64 ?_
        refine g_iload_n (pc := 65) (x := l1) C dX0_nearestTo_65 rfl ?_
        refine g_callR (pc' := 69) (cs' := 0) (sl' := 0) hf C (fun u => some (.int u)) (fun u hu => gr_S (rest := []) C (cX0_nearer_ (kL k) C.tr (kD k) N l2 (((sN v) (Int32.toNatClampNeg l3)) + ((sN v) (Int32.toNatClampNeg l4))) l1 u hu) (fun ht => va_cwS 3 ht gX0_nearestTo_X0_nearer rfl rfl rfl hsX0_nearer ⟨(Nat.le_of_ble_eq_true rfl), (Nat.le_of_ble_eq_true rfl)⟩) [] rfl (by decide) rfl rfl (Nat.le_of_ble_eq_true rfl) dX0_nearestTo_66 ⟨(Nat.le_of_ble_eq_true rfl), (Nat.le_of_ble_eq_true rfl)⟩) [] rfl rfl rfl rfl (fun u => [.int u]) (fun u => rfl) (fun r2 hf => ?_)
        refine g_istore_n (pc := 69) (lv' := [(2, .int r2), (0, .ref (aS 0)), (1, .int l1), (3, .int l3), (4, .int l4)]) C dX0_nearestTo_69 (by decide) rfl ?_
        refine g_iinc (pc := 70) (x := l4) (v := (l4 + 1)) (lv' := [(4, .int (l4 + 1)), (2, .int r2), (0, .ref (aS 0)), (1, .int l1), (3, .int l3)]) C dX0_nearestTo_70 rfl rfl (by decide) rfl ?_
        refine g_goto (pc := 73) (tgt := 35) C dX0_nearestTo_73 (by decide) ?_
        refine g_lv [2, 3, 1, 4, 0] (lv' := [(0, .ref (aS 0)), (1, .int l1), (2, .int r2), (3, .int l3), (4, .int (l4 + 1))]) rfl ?_
        exact ih r2 (l4 + 1) u hf hk0
def lX0_nearestTo_4 (N : Nat) (v : VS) (l1 : Int32) : Nat → Int32 → Int32 → Option ((Int32))
  | 0, _, _ => none
  | n + 1, l2, l3 => (if (sB v) ≤ l3 then some l2 else ((fX3_isFree N v l3).bind fun r1 => (if r1 = true then ck l3 20 (((fX0_nearer N l2 ((sN v) (Int32.toNatClampNeg l3)) l1).bind fun r2 => ((lX0_nearestTo_35 N v l1 l3 N r2 0).bind fun r3 => (lX0_nearestTo_4 N v l1 n r3 (l3 + 1))))) else (lX0_nearestTo_4 N v l1 n l2 (l3 + 1)))))
set_option maxRecDepth 100000 in
set_option maxHeartbeats 4000000 in
theorem wlX0_nearestTo_4 {k : Kt} (C : gC k cX0_nearestTo 5 RX0 wsX0_nearestTo rmX0_nearestTo "nearestTo") (N : Nat) (aS : Nat → Nat) (v : VS) (l1 : Int32) : ∀ (n : Nat) (l2 : Int32) (l3 : Int32) (u : (Int32)) (hf : lX0_nearestTo_4 N v l1 n l2 l3 = some u) (hk0 : gG k (wS (kD k) aS v) [(2, .int u)] 0 0 82 []), gG k (wS (kD k) aS v) [(0, .ref (aS 0)), (1, .int l1), (2, .int l2), (3, .int l3)] 0 0 4 [] := by
  intro n
  induction n with
  | zero => intro l2 l3 u hf hk0; rw [lX0_nearestTo_4] at hf; cases hf
  | succ n ih =>
    intro l2 l3 u hf hk0
    rw [lX0_nearestTo_4] at hf
    refine g_iload_n (pc := 4) (x := l3) C dX0_nearestTo_4 rfl ?_
    refine g_aload_n (pc := 5) (x := (aS 0)) C dX0_nearestTo_5 rfl ?_
    refine g_getf (pc := 6) C 0 rfl rfl inX0_nearestTo_X3 8 (by decide) lkX0_nearestTo_33 rfl rfl dX0_nearestTo_6 ?_
    refine g_icmp_ge (pc := 9) (tgt := 82) (x := l3) (y := (sB v)) hf C dX0_nearestTo_9 (by decide) (fun hf => ?_) (fun hf => ?_)
    · obtain rfl := Option.some.inj hf
      refine g_lv [2] (lv' := [(2, .int l2)]) rfl ?_
      exact hk0
    · refine g_aload_n (pc := 12) (x := (aS 0)) C dX0_nearestTo_12 rfl ?_
      refine g_iload_n (pc := 13) (x := l3) C dX0_nearestTo_13 rfl ?_
      refine g_callR (pc' := 17) (cs' := 0) (sl' := 0) hf C (fun u => some (.int (b2i u))) (fun u hu => gr_V (rest := []) C (cX3_isFree_ (kL k) C.tr (kD k) N aS v l3 u hu) (fun ht => cwV 1 ht gX0_nearestTo_X3_isFree rfl rfl rfl hdX3_isFree ⟨(Nat.le_of_ble_eq_true rfl), (Nat.le_of_ble_eq_true rfl)⟩) 0 rfl rfl [0, 1, 2, 3, 4, 5, 6, 7, 8] rfl (by decide) rfl rfl (Nat.le_of_ble_eq_true rfl) dX0_nearestTo_14 ⟨(Nat.le_of_ble_eq_true rfl), (Nat.le_of_ble_eq_true rfl)⟩) [0, 1, 2, 3, 4, 5, 6, 7, 8] rfl rfl rfl rfl (fun u => [.int (b2i u)]) (fun u => rfl) (fun r1 hf => ?_)
      refine g_ifB_eq (pc := 17) (tgt := 76) (b := r1) hf C dX0_nearestTo_17 (by decide) (fun hf => ?_) (fun hf => ?_)
      · refine g_iinc (pc := 76) (x := l3) (v := (l3 + 1)) (lv' := [(3, .int (l3 + 1)), (0, .ref (aS 0)), (1, .int l1), (2, .int l2)]) C dX0_nearestTo_76 rfl rfl (by decide) rfl ?_
        refine g_goto (pc := 79) (tgt := 4) C dX0_nearestTo_79 (by decide) ?_
        refine g_lv [1, 2, 3, 0] (lv' := [(0, .ref (aS 0)), (1, .int l1), (2, .int l2), (3, .int (l3 + 1))]) rfl ?_
        exact ih l2 (l3 + 1) u hf hk0
      · refine g_iload_n (pc := 20) (x := l2) C dX0_nearestTo_20 rfl ?_
        refine g_aload_n (pc := 21) (x := (aS 0)) C dX0_nearestTo_21 rfl ?_
        refine g_getf (pc := 22) C 0 rfl rfl inX0_nearestTo_X3 0 (by decide) lkX0_nearestTo_15 rfl rfl dX0_nearestTo_22 ?_
        refine g_iload_n (pc := 25) (x := l3) C dX0_nearestTo_25 rfl ?_
        refine g_iald (pc := 26) (i := l3) hf C 1 rfl dX0_nearestTo_26 (fun hf => ?_)
        refine g_iload_n (pc := 27) (x := l1) C dX0_nearestTo_27 rfl ?_
        refine g_callR (pc' := 31) (cs' := 0) (sl' := 0) hf C (fun u => some (.int u)) (fun u hu => gr_S (rest := []) C (cX0_nearer_ (kL k) C.tr (kD k) N l2 ((sN v) (Int32.toNatClampNeg l3)) l1 u hu) (fun ht => va_cwS 3 ht gX0_nearestTo_X0_nearer rfl rfl rfl hsX0_nearer ⟨(Nat.le_of_ble_eq_true rfl), (Nat.le_of_ble_eq_true rfl)⟩) [] rfl (by decide) rfl rfl (Nat.le_of_ble_eq_true rfl) dX0_nearestTo_28 ⟨(Nat.le_of_ble_eq_true rfl), (Nat.le_of_ble_eq_true rfl)⟩) [] rfl rfl rfl rfl (fun u => [.int u]) (fun u => rfl) (fun r2 hf => ?_)
        refine g_istore_n (pc := 31) (lv' := [(2, .int r2), (0, .ref (aS 0)), (1, .int l1), (3, .int l3)]) C dX0_nearestTo_31 (by decide) rfl ?_
        refine g_iconst (pc := 32) (v := 0) C dX0_nearestTo_32 (by decide) ?_
        refine g_istore (pc := 33) (lv' := [(4, .int 0), (2, .int r2), (0, .ref (aS 0)), (1, .int l1), (3, .int l3)]) C dX0_nearestTo_33 (by decide) rfl ?_
        obtain ⟨r3, h3, hf⟩ := bd_e hf
        refine g_lv [2, 3, 1, 4, 0] (lv' := [(0, .ref (aS 0)), (1, .int l1), (2, .int r2), (3, .int l3), (4, .int 0)]) rfl ?_
        refine wlX0_nearestTo_35 C N aS v l1 l3 N r2 0 r3 h3 ?_
        refine g_iinc (pc := 76) (x := l3) (v := (l3 + 1)) (lv' := [(3, .int (l3 + 1)), (0, .ref (aS 0)), (1, .int l1), (2, .int r3)]) C dX0_nearestTo_76 rfl rfl (by decide) rfl ?_
        refine g_goto (pc := 79) (tgt := 4) C dX0_nearestTo_79 (by decide) ?_
        refine g_lv [1, 2, 3, 0] (lv' := [(0, .ref (aS 0)), (1, .int l1), (2, .int r3), (3, .int (l3 + 1))]) rfl ?_
        exact ih r3 (l3 + 1) u hf hk0
def fX0_nearestTo (N : Nat) (v : VS) (p1 : Int32) : Option (Int32) := ((lX0_nearestTo_4 N v p1 N (-1) 0).bind fun r1 => some r1)
set_option maxRecDepth 100000 in
set_option maxHeartbeats 4000000 in
theorem wkX0_nearestTo {k : Kt} (C : gC k cX0_nearestTo 5 RX0 wsX0_nearestTo rmX0_nearestTo "nearestTo") (N : Nat) (aS : Nat → Nat) (v : VS) (p1 : Int32) (r : Int32) (hf : fX0_nearestTo N v p1 = some r) (E : gE k (wS (kD k) aS v) (fun rv w => rv = some (.int r) ∧ w = (wS (kD k) aS v)) (fun _ _ => False) 0 0 (some .int) []) : gG k (wS (kD k) aS v) [(0, .ref (aS 0)), (1, .int p1)] 0 0 0 [] := by
  unfold fX0_nearestTo at hf
  refine g_iconst (pc := 0) (v := (-1)) C dX0_nearestTo_0 (by decide) ?_
  refine g_istore_n (pc := 1) (lv' := [(2, .int (-1)), (0, .ref (aS 0)), (1, .int p1)]) C dX0_nearestTo_1 (by decide) rfl ?_
  refine g_iconst (pc := 2) (v := 0) C dX0_nearestTo_2 (by decide) ?_
  refine g_istore_n (pc := 3) (lv' := [(3, .int 0), (2, .int (-1)), (0, .ref (aS 0)), (1, .int p1)]) C dX0_nearestTo_3 (by decide) rfl ?_
  obtain ⟨r1, h1, hf⟩ := bd_e hf
  refine g_lv [2, 3, 1, 0] (lv' := [(0, .ref (aS 0)), (1, .int p1), (2, .int (-1)), (3, .int 0)]) rfl ?_
  refine wlX0_nearestTo_4 C N aS v p1 N (-1) 0 r1 h1 ?_
  refine g_iload_n (pc := 82) (x := r1) C dX0_nearestTo_82 rfl ?_
  obtain rfl := Option.some.inj hf
  exact g_iret (v := r1) C E dX0_nearestTo_83 (Nat.le_of_ble_eq_true rfl) (Nat.le_of_ble_eq_true rfl) ⟨rfl, rfl⟩
set_option maxRecDepth 100000 in
set_option maxHeartbeats 4000000 in
theorem cX0_nearestTo_ (l : Launch) (htr : l.stackTraces = false) (D : va_G) (N : Nat) (aS : Nat → Nat) (v : VS) (p1 : Int32) (r : Int32) (hf : fX0_nearestTo N v p1 = some r) : Tc l D yX0_nearestTo wsX0_nearestTo rmX0_nearestTo [.ref (aS 0), .int p1] (wS D aS v) (fun rv w => rv = some (.int r) ∧ w = (wS D aS v)) (fun _ _ => False) 0 0 := Tc_of htr (by decide +kernel) rfl (Nat.le_of_ble_eq_true rfl) (fun k C E hl hD => by subst hD; exact wkX0_nearestTo C N aS v p1 r hf E)
abbrev rmX0_sortKey : Room := { frames := 2, cells := 0, slots := 0, locals := 42 }
theorem inX0_sortKey_X3 : ∀ w ∈ wsX30, w ∈ wsX0_sortKey := by decide +kernel
theorem lkX0_sortKey_60 : Cond.fieldLink RX0 60 "GaugeBlocks$State" (TX3 3).2.1 (TX3 3).2.2.1 ∈ wsX0_sortKey := by decide +kernel
theorem lkX0_sortKey_15 : Cond.fieldLink RX0 15 "GaugeBlocks$State" (TX3 0).2.1 (TX3 0).2.2.1 ∈ wsX0_sortKey := by decide +kernel
theorem hsX0_sortKey : yX0_sortKey.cls ≠ "java/lang/invoke/MethodHandle" ∧ yX0_sortKey.cls ≠ "java/lang/invoke/VarHandle" ∧ (parseMethodDescriptor yX0_sortKey.desc).map (fun d => d.parameters.length) = some 3 := by decide +kernel
def fX0_sortKey (N : Nat) (v : VS) (p1 : Int32) (p2 : Int32) : Option (Int32) := (if p1 = 1 then ck p2 20 (some (-((sH v) (Int32.toNatClampNeg p2)))) else (if p1 = 2 then ((fX3_sizeOfError N v p2).bind fun r1 => some (-r1)) else ck p2 20 (some ((sN v) (Int32.toNatClampNeg p2)))))
set_option maxRecDepth 100000 in
set_option maxHeartbeats 4000000 in
theorem wkX0_sortKey {k : Kt} (C : gC k cX0_sortKey 3 RX0 wsX0_sortKey rmX0_sortKey "sortKey") (N : Nat) (aS : Nat → Nat) (v : VS) (p1 : Int32) (p2 : Int32) (r : Int32) (hf : fX0_sortKey N v p1 p2 = some r) (E : gE k (wS (kD k) aS v) (fun rv w => rv = some (.int r) ∧ w = (wS (kD k) aS v)) (fun _ _ => False) 0 0 (some .int) []) : gG k (wS (kD k) aS v) [(0, .ref (aS 0)), (1, .int p1), (2, .int p2)] 0 0 0 [] := by
  unfold fX0_sortKey at hf
  refine g_iload_n (pc := 0) (x := p1) C dX0_sortKey_0 rfl ?_
  refine g_split hf (fun e hf => ?_) (fun n1_1 hf => ?_)
  · refine g_lsw (pc := 1) (tgt := 28) (off := 27) C dX0_sortKey_1 e (by decide) (by decide) (by decide) ?_
    refine g_aload_n (pc := 28) (x := (aS 0)) C dX0_sortKey_28 rfl ?_
    refine g_getf (pc := 29) C 0 rfl rfl inX0_sortKey_X3 3 (by decide) lkX0_sortKey_60 rfl rfl dX0_sortKey_29 ?_
    refine g_iload_n (pc := 32) (x := p2) C dX0_sortKey_32 rfl ?_
    refine g_iald (pc := 33) (i := p2) hf C 4 rfl dX0_sortKey_33 (fun hf => ?_)
    refine g_ineg (pc := 34) C dX0_sortKey_34 ?_
    obtain rfl := Option.some.inj hf
    exact g_iret (v := (-((sH v) (Int32.toNatClampNeg p2)))) C E dX0_sortKey_35 (Nat.le_of_ble_eq_true rfl) (Nat.le_of_ble_eq_true rfl) ⟨rfl, rfl⟩
  refine g_split hf (fun e hf => ?_) (fun n1_2 hf => ?_)
  · refine g_lsw (pc := 1) (tgt := 36) (off := 35) C dX0_sortKey_1 e (by decide) (by decide) (by decide) ?_
    refine g_aload_n (pc := 36) (x := (aS 0)) C dX0_sortKey_36 rfl ?_
    refine g_iload_n (pc := 37) (x := p2) C dX0_sortKey_37 rfl ?_
    refine g_callR (pc' := 41) (cs' := 0) (sl' := 0) hf C (fun u => some (.int u)) (fun u hu => gr_V (rest := []) C (cX3_sizeOfError_ (kL k) C.tr (kD k) N aS v p2 u hu) (fun ht => cwV 1 ht gX0_sortKey_X3_sizeOfError rfl rfl rfl hdX3_sizeOfError ⟨(Nat.le_of_ble_eq_true rfl), (Nat.le_of_ble_eq_true rfl)⟩) 0 rfl rfl [0, 1, 2, 3, 4, 5, 6, 7, 8] rfl (by decide) rfl rfl (Nat.le_of_ble_eq_true rfl) dX0_sortKey_38 ⟨(Nat.le_of_ble_eq_true rfl), (Nat.le_of_ble_eq_true rfl)⟩) [0, 1, 2, 3, 4, 5, 6, 7, 8] rfl rfl rfl rfl (fun u => [.int u]) (fun u => rfl) (fun r1 hf => ?_)
    refine g_ineg (pc := 41) C dX0_sortKey_41 ?_
    obtain rfl := Option.some.inj hf
    exact g_iret (v := (-r1)) C E dX0_sortKey_42 (Nat.le_of_ble_eq_true rfl) (Nat.le_of_ble_eq_true rfl) ⟨rfl, rfl⟩
  refine g_lswd (pc := 1) (x := p1) (tgt := 43) C dX0_sortKey_1 (by have e1_1 : (p1).toInt ≠ 1 := fun h => n1_1 (Int32.toInt_inj.mp (h.trans (by decide))); have e1_2 : (p1).toInt ≠ 2 := fun h => n1_2 (Int32.toInt_inj.mp (h.trans (by decide))); simp [Op.lookupswitch.offset, e1_1, e1_2, Ne.symm e1_1, Ne.symm e1_2]) (by decide) ?_
  refine g_aload_n (pc := 43) (x := (aS 0)) C dX0_sortKey_43 rfl ?_
  refine g_getf (pc := 44) C 0 rfl rfl inX0_sortKey_X3 0 (by decide) lkX0_sortKey_15 rfl rfl dX0_sortKey_44 ?_
  refine g_iload_n (pc := 47) (x := p2) C dX0_sortKey_47 rfl ?_
  refine g_iald (pc := 48) (i := p2) hf C 1 rfl dX0_sortKey_48 (fun hf => ?_)
  obtain rfl := Option.some.inj hf
  exact g_iret (v := ((sN v) (Int32.toNatClampNeg p2))) C E dX0_sortKey_49 (Nat.le_of_ble_eq_true rfl) (Nat.le_of_ble_eq_true rfl) ⟨rfl, rfl⟩
set_option maxRecDepth 100000 in
set_option maxHeartbeats 4000000 in
theorem cX0_sortKey_ (l : Launch) (htr : l.stackTraces = false) (D : va_G) (N : Nat) (aS : Nat → Nat) (v : VS) (p1 : Int32) (p2 : Int32) (r : Int32) (hf : fX0_sortKey N v p1 p2 = some r) : Tc l D yX0_sortKey wsX0_sortKey rmX0_sortKey [.ref (aS 0), .int p1, .int p2] (wS D aS v) (fun rv w => rv = some (.int r) ∧ w = (wS D aS v)) (fun _ _ => False) 0 0 := Tc_of htr (by decide +kernel) rfl (Nat.le_of_ble_eq_true rfl) (fun k C E hl hD => by subst hD; exact wkX0_sortKey C N aS v p1 p2 r hf E)
abbrev rmX0_manyBefore : Room := { frames := 3, cells := 0, slots := 0, locals := 64 }
theorem inX0_manyBefore_X3 : ∀ w ∈ wsX30, w ∈ wsX0_manyBefore := by decide +kernel
theorem lkX0_manyBefore_33 : Cond.fieldLink RX0 33 "GaugeBlocks$State" (TX3 8).2.1 (TX3 8).2.2.1 ∈ wsX0_manyBefore := by decide +kernel
theorem hsX0_manyBefore : yX0_manyBefore.cls ≠ "java/lang/invoke/MethodHandle" ∧ yX0_manyBefore.cls ≠ "java/lang/invoke/VarHandle" ∧ (parseMethodDescriptor yX0_manyBefore.desc).map (fun d => d.parameters.length) = some 3 := by decide +kernel
def lX0_manyBefore_5 (N : Nat) (v : VS) (l1 : Int32) (l2 : Int32) : Nat → Int32 → Int32 → Option ((Int32))
  | 0, _, _ => none
  | n + 1, l3, l4 => (if (sB v) ≤ l4 then some l3 else ((fX0_sortKey N v l1 l4).bind fun r1 => ((fX0_sortKey N v l1 l2).bind fun r2 => (if (r1 - r2) < (0 : Int32) then (lX0_manyBefore_5 N v l1 l2 n (l3 + 1) (l4 + 1)) else (if (r1 - r2) = (0 : Int32) then (if l2 ≤ l4 then (lX0_manyBefore_5 N v l1 l2 n l3 (l4 + 1)) else (lX0_manyBefore_5 N v l1 l2 n (l3 + 1) (l4 + 1))) else (lX0_manyBefore_5 N v l1 l2 n l3 (l4 + 1)))))))
set_option maxRecDepth 100000 in
set_option maxHeartbeats 4000000 in
theorem wlX0_manyBefore_5 {k : Kt} (C : gC k cX0_manyBefore 6 RX0 wsX0_manyBefore rmX0_manyBefore "manyBefore") (N : Nat) (aS : Nat → Nat) (v : VS) (l1 : Int32) (l2 : Int32) : ∀ (n : Nat) (l3 : Int32) (l4 : Int32) (u : (Int32)) (hf : lX0_manyBefore_5 N v l1 l2 n l3 l4 = some u) (hk0 : gG k (wS (kD k) aS v) [(3, .int u)] 0 0 55 []), gG k (wS (kD k) aS v) [(0, .ref (aS 0)), (1, .int l1), (2, .int l2), (3, .int l3), (4, .int l4)] 0 0 5 [] := by
  intro n
  induction n with
  | zero => intro l3 l4 u hf hk0; rw [lX0_manyBefore_5] at hf; cases hf
  | succ n ih =>
    intro l3 l4 u hf hk0
    rw [lX0_manyBefore_5] at hf
    refine g_iload (pc := 5) (x := l4) C dX0_manyBefore_5 rfl ?_
    refine g_aload_n (pc := 7) (x := (aS 0)) C dX0_manyBefore_7 rfl ?_
    refine g_getf (pc := 8) C 0 rfl rfl inX0_manyBefore_X3 8 (by decide) lkX0_manyBefore_33 rfl rfl dX0_manyBefore_8 ?_
    refine g_icmp_ge (pc := 11) (tgt := 55) (x := l4) (y := (sB v)) hf C dX0_manyBefore_11 (by decide) (fun hf => ?_) (fun hf => ?_)
    · obtain rfl := Option.some.inj hf
      refine g_lv [3] (lv' := [(3, .int l3)]) rfl ?_
      exact hk0
    · refine g_aload_n (pc := 14) (x := (aS 0)) C dX0_manyBefore_14 rfl ?_
      refine g_iload_n (pc := 15) (x := l1) C dX0_manyBefore_15 rfl ?_
      refine g_iload (pc := 16) (x := l4) C dX0_manyBefore_16 rfl ?_
      refine g_callR (pc' := 21) (cs' := 0) (sl' := 0) hf C (fun u => some (.int u)) (fun u hu => gr_S (rest := []) C (cX0_sortKey_ (kL k) C.tr (kD k) N aS v l1 l4 u hu) (fun ht => va_cwS 3 ht gX0_manyBefore_X0_sortKey rfl rfl rfl hsX0_sortKey ⟨(Nat.le_of_ble_eq_true rfl), (Nat.le_of_ble_eq_true rfl)⟩) [0, 1, 2, 3, 4, 5, 6, 7, 8] rfl (by decide) rfl rfl (Nat.le_of_ble_eq_true rfl) dX0_manyBefore_18 ⟨(Nat.le_of_ble_eq_true rfl), (Nat.le_of_ble_eq_true rfl)⟩) [0, 1, 2, 3, 4, 5, 6, 7, 8] rfl rfl rfl rfl (fun u => [.int u]) (fun u => rfl) (fun r1 hf => ?_)
      refine g_aload_n (pc := 21) (x := (aS 0)) C dX0_manyBefore_21 rfl ?_
      refine g_iload_n (pc := 22) (x := l1) C dX0_manyBefore_22 rfl ?_
      refine g_iload_n (pc := 23) (x := l2) C dX0_manyBefore_23 rfl ?_
      refine g_callR (pc' := 27) (cs' := 0) (sl' := 0) hf C (fun u => some (.int u)) (fun u hu => gr_S (rest := [.int r1]) C (cX0_sortKey_ (kL k) C.tr (kD k) N aS v l1 l2 u hu) (fun ht => va_cwS 3 ht gX0_manyBefore_X0_sortKey rfl rfl rfl hsX0_sortKey ⟨(Nat.le_of_ble_eq_true rfl), (Nat.le_of_ble_eq_true rfl)⟩) [0, 1, 2, 3, 4, 5, 6, 7, 8] rfl (by decide) rfl rfl (Nat.le_of_ble_eq_true rfl) dX0_manyBefore_24 ⟨(Nat.le_of_ble_eq_true rfl), (Nat.le_of_ble_eq_true rfl)⟩) [0, 1, 2, 3, 4, 5, 6, 7, 8] rfl rfl rfl rfl (fun u => [.int u, .int r1]) (fun u => rfl) (fun r2 hf => ?_)
      refine g_isub (pc := 27) (x := r1) (y := r2) C dX0_manyBefore_27 ?_
      refine g_istore (pc := 28) (lv' := [(5, .int (r1 - r2)), (0, .ref (aS 0)), (1, .int l1), (2, .int l2), (3, .int l3), (4, .int l4)]) C dX0_manyBefore_28 (by decide) rfl ?_
      refine g_iload (pc := 30) (x := (r1 - r2)) C dX0_manyBefore_30 rfl ?_
      refine g_if_lt (pc := 32) (tgt := 46) (x := (r1 - r2)) hf C dX0_manyBefore_32 (by decide) (fun hf => ?_) (fun hf => ?_)
      · refine g_iinc (pc := 46) (x := l3) (v := (l3 + 1)) (lv' := [(3, .int (l3 + 1)), (5, .int (r1 - r2)), (0, .ref (aS 0)), (1, .int l1), (2, .int l2), (4, .int l4)]) C dX0_manyBefore_46 rfl rfl (by decide) rfl ?_
        refine g_iinc (pc := 49) (x := l4) (v := (l4 + 1)) (lv' := [(4, .int (l4 + 1)), (3, .int (l3 + 1)), (5, .int (r1 - r2)), (0, .ref (aS 0)), (1, .int l1), (2, .int l2)]) C dX0_manyBefore_49 rfl rfl (by decide) rfl ?_
        refine g_goto (pc := 52) (tgt := 5) C dX0_manyBefore_52 (by decide) ?_
        refine g_lv [3, 4, 5, 1, 0] (lv' := [(0, .ref (aS 0)), (1, .int l1), (2, .int l2), (3, .int (l3 + 1)), (4, .int (l4 + 1))]) rfl ?_
        exact ih (l3 + 1) (l4 + 1) u hf hk0
      · refine g_iload (pc := 35) (x := (r1 - r2)) C dX0_manyBefore_35 rfl ?_
        refine g_if_ne (pc := 37) (tgt := 49) (x := (r1 - r2)) hf C dX0_manyBefore_37 (by decide) (fun hf => ?_) (fun hf => ?_)
        · refine g_iinc (pc := 49) (x := l4) (v := (l4 + 1)) (lv' := [(4, .int (l4 + 1)), (5, .int (r1 - r2)), (0, .ref (aS 0)), (1, .int l1), (2, .int l2), (3, .int l3)]) C dX0_manyBefore_49 rfl rfl (by decide) rfl ?_
          refine g_goto (pc := 52) (tgt := 5) C dX0_manyBefore_52 (by decide) ?_
          refine g_lv [2, 3, 4, 5, 0] (lv' := [(0, .ref (aS 0)), (1, .int l1), (2, .int l2), (3, .int l3), (4, .int (l4 + 1))]) rfl ?_
          exact ih l3 (l4 + 1) u hf hk0
        · refine g_iload (pc := 40) (x := l4) C dX0_manyBefore_40 rfl ?_
          refine g_iload_n (pc := 42) (x := l2) C dX0_manyBefore_42 rfl ?_
          refine g_icmp_ge (pc := 43) (tgt := 49) (x := l4) (y := l2) hf C dX0_manyBefore_43 (by decide) (fun hf => ?_) (fun hf => ?_)
          · refine g_iinc (pc := 49) (x := l4) (v := (l4 + 1)) (lv' := [(4, .int (l4 + 1)), (5, .int (r1 - r2)), (0, .ref (aS 0)), (1, .int l1), (2, .int l2), (3, .int l3)]) C dX0_manyBefore_49 rfl rfl (by decide) rfl ?_
            refine g_goto (pc := 52) (tgt := 5) C dX0_manyBefore_52 (by decide) ?_
            refine g_lv [2, 3, 4, 5, 0] (lv' := [(0, .ref (aS 0)), (1, .int l1), (2, .int l2), (3, .int l3), (4, .int (l4 + 1))]) rfl ?_
            exact ih l3 (l4 + 1) u hf hk0
          · refine g_iinc (pc := 46) (x := l3) (v := (l3 + 1)) (lv' := [(3, .int (l3 + 1)), (5, .int (r1 - r2)), (0, .ref (aS 0)), (1, .int l1), (2, .int l2), (4, .int l4)]) C dX0_manyBefore_46 rfl rfl (by decide) rfl ?_
            refine g_iinc (pc := 49) (x := l4) (v := (l4 + 1)) (lv' := [(4, .int (l4 + 1)), (3, .int (l3 + 1)), (5, .int (r1 - r2)), (0, .ref (aS 0)), (1, .int l1), (2, .int l2)]) C dX0_manyBefore_49 rfl rfl (by decide) rfl ?_
            refine g_goto (pc := 52) (tgt := 5) C dX0_manyBefore_52 (by decide) ?_
            refine g_lv [3, 4, 5, 1, 0] (lv' := [(0, .ref (aS 0)), (1, .int l1), (2, .int l2), (3, .int (l3 + 1)), (4, .int (l4 + 1))]) rfl ?_
            exact ih (l3 + 1) (l4 + 1) u hf hk0
def fX0_manyBefore (N : Nat) (v : VS) (p1 : Int32) (p2 : Int32) : Option (Int32) := ((lX0_manyBefore_5 N v p1 p2 N 0 0).bind fun r1 => some r1)
set_option maxRecDepth 100000 in
set_option maxHeartbeats 4000000 in
theorem wkX0_manyBefore {k : Kt} (C : gC k cX0_manyBefore 6 RX0 wsX0_manyBefore rmX0_manyBefore "manyBefore") (N : Nat) (aS : Nat → Nat) (v : VS) (p1 : Int32) (p2 : Int32) (r : Int32) (hf : fX0_manyBefore N v p1 p2 = some r) (E : gE k (wS (kD k) aS v) (fun rv w => rv = some (.int r) ∧ w = (wS (kD k) aS v)) (fun _ _ => False) 0 0 (some .int) []) : gG k (wS (kD k) aS v) [(0, .ref (aS 0)), (1, .int p1), (2, .int p2)] 0 0 0 [] := by
  unfold fX0_manyBefore at hf
  refine g_iconst (pc := 0) (v := 0) C dX0_manyBefore_0 (by decide) ?_
  refine g_istore_n (pc := 1) (lv' := [(3, .int 0), (0, .ref (aS 0)), (1, .int p1), (2, .int p2)]) C dX0_manyBefore_1 (by decide) rfl ?_
  refine g_iconst (pc := 2) (v := 0) C dX0_manyBefore_2 (by decide) ?_
  refine g_istore (pc := 3) (lv' := [(4, .int 0), (3, .int 0), (0, .ref (aS 0)), (1, .int p1), (2, .int p2)]) C dX0_manyBefore_3 (by decide) rfl ?_
  obtain ⟨r1, h1, hf⟩ := bd_e hf
  refine g_lv [2, 3, 4, 1, 0] (lv' := [(0, .ref (aS 0)), (1, .int p1), (2, .int p2), (3, .int 0), (4, .int 0)]) rfl ?_
  refine wlX0_manyBefore_5 C N aS v p1 p2 N 0 0 r1 h1 ?_
  refine g_iload_n (pc := 55) (x := r1) C dX0_manyBefore_55 rfl ?_
  obtain rfl := Option.some.inj hf
  exact g_iret (v := r1) C E dX0_manyBefore_56 (Nat.le_of_ble_eq_true rfl) (Nat.le_of_ble_eq_true rfl) ⟨rfl, rfl⟩
set_option maxRecDepth 100000 in
set_option maxHeartbeats 4000000 in
theorem cX0_manyBefore_ (l : Launch) (htr : l.stackTraces = false) (D : va_G) (N : Nat) (aS : Nat → Nat) (v : VS) (p1 : Int32) (p2 : Int32) (r : Int32) (hf : fX0_manyBefore N v p1 p2 = some r) : Tc l D yX0_manyBefore wsX0_manyBefore rmX0_manyBefore [.ref (aS 0), .int p1, .int p2] (wS D aS v) (fun rv w => rv = some (.int r) ∧ w = (wS D aS v)) (fun _ _ => False) 0 0 := Tc_of htr (by decide +kernel) rfl (Nat.le_of_ble_eq_true rfl) (fun k C E hl hD => by subst hD; exact wkX0_manyBefore C N aS v p1 p2 r hf E)
abbrev rmX0_blockOfRank : Room := { frames := 4, cells := 0, slots := 0, locals := 89 }
theorem inX0_blockOfRank_X3 : ∀ w ∈ wsX30, w ∈ wsX0_blockOfRank := by decide +kernel
theorem lkX0_blockOfRank_33 : Cond.fieldLink RX0 33 "GaugeBlocks$State" (TX3 8).2.1 (TX3 8).2.2.1 ∈ wsX0_blockOfRank := by decide +kernel
theorem hsX0_blockOfRank : yX0_blockOfRank.cls ≠ "java/lang/invoke/MethodHandle" ∧ yX0_blockOfRank.cls ≠ "java/lang/invoke/VarHandle" ∧ (parseMethodDescriptor yX0_blockOfRank.desc).map (fun d => d.parameters.length) = some 3 := by decide +kernel
def lX0_blockOfRank_2 (N : Nat) (v : VS) (l1 : Int32) (l2 : Int32) : Nat → Int32 → Option ((Unit) ⊕ (Int32))
  | 0, _ => none
  | n + 1, l3 => (if (sB v) ≤ l3 then some (.inl ()) else ((fX0_manyBefore N v l1 l3).bind fun r1 => (if r1 = l2 then some (.inr l3) else (lX0_blockOfRank_2 N v l1 l2 n (l3 + 1)))))
set_option maxRecDepth 100000 in
set_option maxHeartbeats 4000000 in
theorem wlX0_blockOfRank_2 {k : Kt} (C : gC k cX0_blockOfRank 4 RX0 wsX0_blockOfRank rmX0_blockOfRank "blockOfRank") (N : Nat) (aS : Nat → Nat) (v : VS) (l1 : Int32) (l2 : Int32) : ∀ (n : Nat) (l3 : Int32) (u : (Unit) ⊕ (Int32)) (hf : lX0_blockOfRank_2 N v l1 l2 n l3 = some u) (hk0 : ∀ t : (Unit), u = (.inl t) → gG k (wS (kD k) aS v) [] 0 0 28 []) (hk1 : ∀ t : (Int32), u = (.inr t) → gG k (wS (kD k) aS v) [(3, .int t)] 0 0 20 []), gG k (wS (kD k) aS v) [(0, .ref (aS 0)), (1, .int l1), (2, .int l2), (3, .int l3)] 0 0 2 [] := by
  intro n
  induction n with
  | zero => intro l3 u hf hk0 hk1; rw [lX0_blockOfRank_2] at hf; cases hf
  | succ n ih =>
    intro l3 u hf hk0 hk1
    rw [lX0_blockOfRank_2] at hf
    refine g_iload_n (pc := 2) (x := l3) C dX0_blockOfRank_2 rfl ?_
    refine g_aload_n (pc := 3) (x := (aS 0)) C dX0_blockOfRank_3 rfl ?_
    refine g_getf (pc := 4) C 0 rfl rfl inX0_blockOfRank_X3 8 (by decide) lkX0_blockOfRank_33 rfl rfl dX0_blockOfRank_4 ?_
    refine g_icmp_ge (pc := 7) (tgt := 28) (x := l3) (y := (sB v)) hf C dX0_blockOfRank_7 (by decide) (fun hf => ?_) (fun hf => ?_)
    · obtain rfl := Option.some.inj hf
      refine g_lv [] (lv' := []) rfl ?_
      exact hk0 _ rfl
    · refine g_aload_n (pc := 10) (x := (aS 0)) C dX0_blockOfRank_10 rfl ?_
      refine g_iload_n (pc := 11) (x := l1) C dX0_blockOfRank_11 rfl ?_
      refine g_iload_n (pc := 12) (x := l3) C dX0_blockOfRank_12 rfl ?_
      refine g_callR (pc' := 16) (cs' := 0) (sl' := 0) hf C (fun u => some (.int u)) (fun u hu => gr_S (rest := []) C (cX0_manyBefore_ (kL k) C.tr (kD k) N aS v l1 l3 u hu) (fun ht => va_cwS 3 ht gX0_blockOfRank_X0_manyBefore rfl rfl rfl hsX0_manyBefore ⟨(Nat.le_of_ble_eq_true rfl), (Nat.le_of_ble_eq_true rfl)⟩) [0, 1, 2, 3, 4, 5, 6, 7, 8] rfl (by decide) rfl rfl (Nat.le_of_ble_eq_true rfl) dX0_blockOfRank_13 ⟨(Nat.le_of_ble_eq_true rfl), (Nat.le_of_ble_eq_true rfl)⟩) [0, 1, 2, 3, 4, 5, 6, 7, 8] rfl rfl rfl rfl (fun u => [.int u]) (fun u => rfl) (fun r1 hf => ?_)
      refine g_iload_n (pc := 16) (x := l2) C dX0_blockOfRank_16 rfl ?_
      refine g_icmp_ne (pc := 17) (tgt := 22) (x := r1) (y := l2) hf C dX0_blockOfRank_17 (by decide) (fun hf => ?_) (fun hf => ?_)
      · refine g_iinc (pc := 22) (x := l3) (v := (l3 + 1)) (lv' := [(3, .int (l3 + 1)), (0, .ref (aS 0)), (1, .int l1), (2, .int l2)]) C dX0_blockOfRank_22 rfl rfl (by decide) rfl ?_
        refine g_goto (pc := 25) (tgt := 2) C dX0_blockOfRank_25 (by decide) ?_
        refine g_lv [1, 2, 3, 0] (lv' := [(0, .ref (aS 0)), (1, .int l1), (2, .int l2), (3, .int (l3 + 1))]) rfl ?_
        exact ih (l3 + 1) u hf hk0 hk1
      · obtain rfl := Option.some.inj hf
        refine g_lv [3] (lv' := [(3, .int l3)]) rfl ?_
        exact hk1 _ rfl
def fX0_blockOfRank (N : Nat) (v : VS) (p1 : Int32) (p2 : Int32) : Option (Int32) := ((lX0_blockOfRank_2 N v p1 p2 N 0).bind fun r1 => Sum.elim (fun (t1 : (Unit)) => some (-1)) (fun (y0 : (Int32)) => (fun (t1 : (Int32)) => some t1) y0) r1)
set_option maxRecDepth 100000 in
set_option maxHeartbeats 4000000 in
theorem wkX0_blockOfRank {k : Kt} (C : gC k cX0_blockOfRank 4 RX0 wsX0_blockOfRank rmX0_blockOfRank "blockOfRank") (N : Nat) (aS : Nat → Nat) (v : VS) (p1 : Int32) (p2 : Int32) (r : Int32) (hf : fX0_blockOfRank N v p1 p2 = some r) (E : gE k (wS (kD k) aS v) (fun rv w => rv = some (.int r) ∧ w = (wS (kD k) aS v)) (fun _ _ => False) 0 0 (some .int) []) : gG k (wS (kD k) aS v) [(0, .ref (aS 0)), (1, .int p1), (2, .int p2)] 0 0 0 [] := by
  unfold fX0_blockOfRank at hf
  refine g_iconst (pc := 0) (v := 0) C dX0_blockOfRank_0 (by decide) ?_
  refine g_istore_n (pc := 1) (lv' := [(3, .int 0), (0, .ref (aS 0)), (1, .int p1), (2, .int p2)]) C dX0_blockOfRank_1 (by decide) rfl ?_
  obtain ⟨r1, h1, hf⟩ := bd_e hf
  refine g_lv [1, 2, 3, 0] (lv' := [(0, .ref (aS 0)), (1, .int p1), (2, .int p2), (3, .int 0)]) rfl ?_
  refine wlX0_blockOfRank_2 C N aS v p1 p2 N 0 r1 h1 (fun t1 e => ?_) (fun t1 e => ?_)
  · subst e
    refine g_iconst (pc := 28) (v := (-1)) C dX0_blockOfRank_28 (by decide) ?_
    obtain rfl := Option.some.inj hf
    exact g_iret (v := (-1)) C E dX0_blockOfRank_29 (Nat.le_of_ble_eq_true rfl) (Nat.le_of_ble_eq_true rfl) ⟨rfl, rfl⟩
  · subst e
    refine g_iload_n (pc := 20) (x := t1) C dX0_blockOfRank_20 rfl ?_
    obtain rfl := Option.some.inj hf
    exact g_iret (v := t1) C E dX0_blockOfRank_21 (Nat.le_of_ble_eq_true rfl) (Nat.le_of_ble_eq_true rfl) ⟨rfl, rfl⟩
set_option maxRecDepth 100000 in
set_option maxHeartbeats 4000000 in
theorem cX0_blockOfRank_ (l : Launch) (htr : l.stackTraces = false) (D : va_G) (N : Nat) (aS : Nat → Nat) (v : VS) (p1 : Int32) (p2 : Int32) (r : Int32) (hf : fX0_blockOfRank N v p1 p2 = some r) : Tc l D yX0_blockOfRank wsX0_blockOfRank rmX0_blockOfRank [.ref (aS 0), .int p1, .int p2] (wS D aS v) (fun rv w => rv = some (.int r) ∧ w = (wS D aS v)) (fun _ _ => False) 0 0 := Tc_of htr (by decide +kernel) rfl (Nat.le_of_ble_eq_true rfl) (fun k C E hl hD => by subst hD; exact wkX0_blockOfRank C N aS v p1 p2 r hf E)
abbrev rmX0_shortestAbove : Room := { frames := 1, cells := 0, slots := 0, locals := 21 }
theorem inX0_shortestAbove_X3 : ∀ w ∈ wsX30, w ∈ wsX0_shortestAbove := by decide +kernel
theorem lkX0_shortestAbove_33 : Cond.fieldLink RX0 33 "GaugeBlocks$State" (TX3 8).2.1 (TX3 8).2.2.1 ∈ wsX0_shortestAbove := by decide +kernel
theorem lkX0_shortestAbove_15 : Cond.fieldLink RX0 15 "GaugeBlocks$State" (TX3 0).2.1 (TX3 0).2.2.1 ∈ wsX0_shortestAbove := by decide +kernel
theorem hsX0_shortestAbove : yX0_shortestAbove.cls ≠ "java/lang/invoke/MethodHandle" ∧ yX0_shortestAbove.cls ≠ "java/lang/invoke/VarHandle" ∧ (parseMethodDescriptor yX0_shortestAbove.desc).map (fun d => d.parameters.length) = some 2 := by decide +kernel
def lX0_shortestAbove_4 (N : Nat) (v : VS) (l1 : Int32) : Nat → Int32 → Int32 → Option ((Int32))
  | 0, _, _ => none
  | n + 1, l2, l3 => (if (sB v) ≤ l3 then some l2 else ck l3 20 (((fX3_isFree N v l3).bind fun r1 => (if r1 = true then (if ((sN v) (Int32.toNatClampNeg l3)) ≤ l1 then (lX0_shortestAbove_4 N v l1 n l2 (l3 + 1)) else (if l2 = ((-1) : Int32) then (lX0_shortestAbove_4 N v l1 n ((sN v) (Int32.toNatClampNeg l3)) (l3 + 1)) else (if l2 ≤ ((sN v) (Int32.toNatClampNeg l3)) then (lX0_shortestAbove_4 N v l1 n l2 (l3 + 1)) else (lX0_shortestAbove_4 N v l1 n ((sN v) (Int32.toNatClampNeg l3)) (l3 + 1))))) else (lX0_shortestAbove_4 N v l1 n l2 (l3 + 1))))))
set_option maxRecDepth 100000 in
set_option maxHeartbeats 4000000 in
theorem wlX0_shortestAbove_4 {k : Kt} (C : gC k cX0_shortestAbove 5 RX0 wsX0_shortestAbove rmX0_shortestAbove "shortestAbove") (N : Nat) (aS : Nat → Nat) (v : VS) (l1 : Int32) : ∀ (n : Nat) (l2 : Int32) (l3 : Int32) (u : (Int32)) (hf : lX0_shortestAbove_4 N v l1 n l2 l3 = some u) (hk0 : gG k (wS (kD k) aS v) [(2, .int u)] 0 0 54 []), gG k (wS (kD k) aS v) [(0, .ref (aS 0)), (1, .int l1), (2, .int l2), (3, .int l3)] 0 0 4 [] := by
  intro n
  induction n with
  | zero => intro l2 l3 u hf hk0; rw [lX0_shortestAbove_4] at hf; cases hf
  | succ n ih =>
    intro l2 l3 u hf hk0
    rw [lX0_shortestAbove_4] at hf
    refine g_iload_n (pc := 4) (x := l3) C dX0_shortestAbove_4 rfl ?_
    refine g_aload_n (pc := 5) (x := (aS 0)) C dX0_shortestAbove_5 rfl ?_
    refine g_getf (pc := 6) C 0 rfl rfl inX0_shortestAbove_X3 8 (by decide) lkX0_shortestAbove_33 rfl rfl dX0_shortestAbove_6 ?_
    refine g_icmp_ge (pc := 9) (tgt := 54) (x := l3) (y := (sB v)) hf C dX0_shortestAbove_9 (by decide) (fun hf => ?_) (fun hf => ?_)
    · obtain rfl := Option.some.inj hf
      refine g_lv [2] (lv' := [(2, .int l2)]) rfl ?_
      exact hk0
    · refine g_aload_n (pc := 12) (x := (aS 0)) C dX0_shortestAbove_12 rfl ?_
      refine g_getf (pc := 13) C 0 rfl rfl inX0_shortestAbove_X3 0 (by decide) lkX0_shortestAbove_15 rfl rfl dX0_shortestAbove_13 ?_
      refine g_iload_n (pc := 16) (x := l3) C dX0_shortestAbove_16 rfl ?_
      refine g_iald (pc := 17) (i := l3) hf C 1 rfl dX0_shortestAbove_17 (fun hf => ?_)
      refine g_istore (pc := 18) (lv' := [(4, .int ((sN v) (Int32.toNatClampNeg l3))), (0, .ref (aS 0)), (1, .int l1), (2, .int l2), (3, .int l3)]) C dX0_shortestAbove_18 (by decide) rfl ?_
      refine g_aload_n (pc := 20) (x := (aS 0)) C dX0_shortestAbove_20 rfl ?_
      refine g_iload_n (pc := 21) (x := l3) C dX0_shortestAbove_21 rfl ?_
      refine g_callR (pc' := 25) (cs' := 0) (sl' := 0) hf C (fun u => some (.int (b2i u))) (fun u hu => gr_V (rest := []) C (cX3_isFree_ (kL k) C.tr (kD k) N aS v l3 u hu) (fun ht => cwV 1 ht gX0_shortestAbove_X3_isFree rfl rfl rfl hdX3_isFree ⟨(Nat.le_of_ble_eq_true rfl), (Nat.le_of_ble_eq_true rfl)⟩) 0 rfl rfl [0, 1, 2, 3, 4, 5, 6, 7, 8] rfl (by decide) rfl rfl (Nat.le_of_ble_eq_true rfl) dX0_shortestAbove_22 ⟨(Nat.le_of_ble_eq_true rfl), (Nat.le_of_ble_eq_true rfl)⟩) [0, 1, 2, 3, 4, 5, 6, 7, 8] rfl rfl rfl rfl (fun u => [.int (b2i u)]) (fun u => rfl) (fun r1 hf => ?_)
      refine g_ifB_eq (pc := 25) (tgt := 48) (b := r1) hf C dX0_shortestAbove_25 (by decide) (fun hf => ?_) (fun hf => ?_)
      · refine g_iinc (pc := 48) (x := l3) (v := (l3 + 1)) (lv' := [(3, .int (l3 + 1)), (4, .int ((sN v) (Int32.toNatClampNeg l3))), (0, .ref (aS 0)), (1, .int l1), (2, .int l2)]) C dX0_shortestAbove_48 rfl rfl (by decide) rfl ?_
        refine g_goto (pc := 51) (tgt := 4) C dX0_shortestAbove_51 (by decide) ?_
        refine g_lv [2, 3, 4, 0] (lv' := [(0, .ref (aS 0)), (1, .int l1), (2, .int l2), (3, .int (l3 + 1))]) rfl ?_
        exact ih l2 (l3 + 1) u hf hk0
      · refine g_iload (pc := 28) (x := ((sN v) (Int32.toNatClampNeg l3))) C dX0_shortestAbove_28 rfl ?_
        refine g_iload_n (pc := 30) (x := l1) C dX0_shortestAbove_30 rfl ?_
        refine g_icmp_le (pc := 31) (tgt := 48) (x := ((sN v) (Int32.toNatClampNeg l3))) (y := l1) hf C dX0_shortestAbove_31 (by decide) (fun hf => ?_) (fun hf => ?_)
        · refine g_iinc (pc := 48) (x := l3) (v := (l3 + 1)) (lv' := [(3, .int (l3 + 1)), (4, .int ((sN v) (Int32.toNatClampNeg l3))), (0, .ref (aS 0)), (1, .int l1), (2, .int l2)]) C dX0_shortestAbove_48 rfl rfl (by decide) rfl ?_
          refine g_goto (pc := 51) (tgt := 4) C dX0_shortestAbove_51 (by decide) ?_
          refine g_lv [2, 3, 4, 0] (lv' := [(0, .ref (aS 0)), (1, .int l1), (2, .int l2), (3, .int (l3 + 1))]) rfl ?_
          exact ih l2 (l3 + 1) u hf hk0
        · refine g_iload_n (pc := 34) (x := l2) C dX0_shortestAbove_34 rfl ?_
          refine g_iconst (pc := 35) (v := (-1)) C dX0_shortestAbove_35 (by decide) ?_
          refine g_icmp_eq (pc := 36) (tgt := 45) (x := l2) (y := (-1)) hf C dX0_shortestAbove_36 (by decide) (fun hf => ?_) (fun hf => ?_)
          · refine g_iload (pc := 45) (x := ((sN v) (Int32.toNatClampNeg l3))) C dX0_shortestAbove_45 rfl ?_
            refine g_istore_n (pc := 47) (lv' := [(2, .int ((sN v) (Int32.toNatClampNeg l3))), (4, .int ((sN v) (Int32.toNatClampNeg l3))), (0, .ref (aS 0)), (1, .int l1), (3, .int l3)]) C dX0_shortestAbove_47 (by decide) rfl ?_
            refine g_iinc (pc := 48) (x := l3) (v := (l3 + 1)) (lv' := [(3, .int (l3 + 1)), (2, .int ((sN v) (Int32.toNatClampNeg l3))), (4, .int ((sN v) (Int32.toNatClampNeg l3))), (0, .ref (aS 0)), (1, .int l1)]) C dX0_shortestAbove_48 rfl rfl (by decide) rfl ?_
            refine g_goto (pc := 51) (tgt := 4) C dX0_shortestAbove_51 (by decide) ?_
            refine g_lv [3, 4, 1, 0] (lv' := [(0, .ref (aS 0)), (1, .int l1), (2, .int ((sN v) (Int32.toNatClampNeg l3))), (3, .int (l3 + 1))]) rfl ?_
            exact ih ((sN v) (Int32.toNatClampNeg l3)) (l3 + 1) u hf hk0
          · refine g_iload (pc := 39) (x := ((sN v) (Int32.toNatClampNeg l3))) C dX0_shortestAbove_39 rfl ?_
            refine g_iload_n (pc := 41) (x := l2) C dX0_shortestAbove_41 rfl ?_
            refine g_icmp_ge (pc := 42) (tgt := 48) (x := ((sN v) (Int32.toNatClampNeg l3))) (y := l2) hf C dX0_shortestAbove_42 (by decide) (fun hf => ?_) (fun hf => ?_)
            · refine g_iinc (pc := 48) (x := l3) (v := (l3 + 1)) (lv' := [(3, .int (l3 + 1)), (4, .int ((sN v) (Int32.toNatClampNeg l3))), (0, .ref (aS 0)), (1, .int l1), (2, .int l2)]) C dX0_shortestAbove_48 rfl rfl (by decide) rfl ?_
              refine g_goto (pc := 51) (tgt := 4) C dX0_shortestAbove_51 (by decide) ?_
              refine g_lv [2, 3, 4, 0] (lv' := [(0, .ref (aS 0)), (1, .int l1), (2, .int l2), (3, .int (l3 + 1))]) rfl ?_
              exact ih l2 (l3 + 1) u hf hk0
            · refine g_iload (pc := 45) (x := ((sN v) (Int32.toNatClampNeg l3))) C dX0_shortestAbove_45 rfl ?_
              refine g_istore_n (pc := 47) (lv' := [(2, .int ((sN v) (Int32.toNatClampNeg l3))), (4, .int ((sN v) (Int32.toNatClampNeg l3))), (0, .ref (aS 0)), (1, .int l1), (3, .int l3)]) C dX0_shortestAbove_47 (by decide) rfl ?_
              refine g_iinc (pc := 48) (x := l3) (v := (l3 + 1)) (lv' := [(3, .int (l3 + 1)), (2, .int ((sN v) (Int32.toNatClampNeg l3))), (4, .int ((sN v) (Int32.toNatClampNeg l3))), (0, .ref (aS 0)), (1, .int l1)]) C dX0_shortestAbove_48 rfl rfl (by decide) rfl ?_
              refine g_goto (pc := 51) (tgt := 4) C dX0_shortestAbove_51 (by decide) ?_
              refine g_lv [3, 4, 1, 0] (lv' := [(0, .ref (aS 0)), (1, .int l1), (2, .int ((sN v) (Int32.toNatClampNeg l3))), (3, .int (l3 + 1))]) rfl ?_
              exact ih ((sN v) (Int32.toNatClampNeg l3)) (l3 + 1) u hf hk0
def fX0_shortestAbove (N : Nat) (v : VS) (p1 : Int32) : Option (Int32) := ((lX0_shortestAbove_4 N v p1 N (-1) 0).bind fun r1 => some r1)
set_option maxRecDepth 100000 in
set_option maxHeartbeats 4000000 in
theorem wkX0_shortestAbove {k : Kt} (C : gC k cX0_shortestAbove 5 RX0 wsX0_shortestAbove rmX0_shortestAbove "shortestAbove") (N : Nat) (aS : Nat → Nat) (v : VS) (p1 : Int32) (r : Int32) (hf : fX0_shortestAbove N v p1 = some r) (E : gE k (wS (kD k) aS v) (fun rv w => rv = some (.int r) ∧ w = (wS (kD k) aS v)) (fun _ _ => False) 0 0 (some .int) []) : gG k (wS (kD k) aS v) [(0, .ref (aS 0)), (1, .int p1)] 0 0 0 [] := by
  unfold fX0_shortestAbove at hf
  refine g_iconst (pc := 0) (v := (-1)) C dX0_shortestAbove_0 (by decide) ?_
  refine g_istore_n (pc := 1) (lv' := [(2, .int (-1)), (0, .ref (aS 0)), (1, .int p1)]) C dX0_shortestAbove_1 (by decide) rfl ?_
  refine g_iconst (pc := 2) (v := 0) C dX0_shortestAbove_2 (by decide) ?_
  refine g_istore_n (pc := 3) (lv' := [(3, .int 0), (2, .int (-1)), (0, .ref (aS 0)), (1, .int p1)]) C dX0_shortestAbove_3 (by decide) rfl ?_
  obtain ⟨r1, h1, hf⟩ := bd_e hf
  refine g_lv [2, 3, 1, 0] (lv' := [(0, .ref (aS 0)), (1, .int p1), (2, .int (-1)), (3, .int 0)]) rfl ?_
  refine wlX0_shortestAbove_4 C N aS v p1 N (-1) 0 r1 h1 ?_
  refine g_iload_n (pc := 54) (x := r1) C dX0_shortestAbove_54 rfl ?_
  obtain rfl := Option.some.inj hf
  exact g_iret (v := r1) C E dX0_shortestAbove_55 (Nat.le_of_ble_eq_true rfl) (Nat.le_of_ble_eq_true rfl) ⟨rfl, rfl⟩
set_option maxRecDepth 100000 in
set_option maxHeartbeats 4000000 in
theorem cX0_shortestAbove_ (l : Launch) (htr : l.stackTraces = false) (D : va_G) (N : Nat) (aS : Nat → Nat) (v : VS) (p1 : Int32) (r : Int32) (hf : fX0_shortestAbove N v p1 = some r) : Tc l D yX0_shortestAbove wsX0_shortestAbove rmX0_shortestAbove [.ref (aS 0), .int p1] (wS D aS v) (fun rv w => rv = some (.int r) ∧ w = (wS D aS v)) (fun _ _ => False) 0 0 := Tc_of htr (by decide +kernel) rfl (Nat.le_of_ble_eq_true rfl) (fun k C E hl hD => by subst hD; exact wkX0_shortestAbove C N aS v p1 r hf E)
abbrev rmX0_lengthOfRank : Room := { frames := 2, cells := 0, slots := 0, locals := 45 }
theorem hsX0_lengthOfRank : yX0_lengthOfRank.cls ≠ "java/lang/invoke/MethodHandle" ∧ yX0_lengthOfRank.cls ≠ "java/lang/invoke/VarHandle" ∧ (parseMethodDescriptor yX0_lengthOfRank.desc).map (fun d => d.parameters.length) = some 2 := by decide +kernel
def lX0_lengthOfRank_12 (N : Nat) (v : VS) (l1 : Int32) : Nat → Int32 → Int32 → Option ((Int32))
  | 0, _, _ => none
  | n + 1, l2, l3 => (if l1 < l3 then some l2 else (if l2 = ((-1) : Int32) then some l2 else ((fX0_shortestAbove N v l2).bind fun r1 => (lX0_lengthOfRank_12 N v l1 n r1 (l3 + 1)))))
set_option maxRecDepth 100000 in
set_option maxHeartbeats 4000000 in
theorem wlX0_lengthOfRank_12 {k : Kt} (C : gC k cX0_lengthOfRank 4 RX0 wsX0_lengthOfRank rmX0_lengthOfRank "lengthOfRank") (N : Nat) (aS : Nat → Nat) (v : VS) (l1 : Int32) : ∀ (n : Nat) (l2 : Int32) (l3 : Int32) (u : (Int32)) (hf : lX0_lengthOfRank_12 N v l1 n l2 l3 = some u) (hk0 : gG k (wS (kD k) aS v) [(2, .int u)] 0 0 34 []), gG k (wS (kD k) aS v) [(0, .ref (aS 0)), (1, .int l1), (2, .int l2), (3, .int l3)] 0 0 12 [] := by
  intro n
  induction n with
  | zero => intro l2 l3 u hf hk0; rw [lX0_lengthOfRank_12] at hf; cases hf
  | succ n ih =>
    intro l2 l3 u hf hk0
    rw [lX0_lengthOfRank_12] at hf
    refine g_iload_n (pc := 12) (x := l3) C dX0_lengthOfRank_12 rfl ?_
    refine g_iload_n (pc := 13) (x := l1) C dX0_lengthOfRank_13 rfl ?_
    refine g_icmp_gt (pc := 14) (tgt := 34) (x := l3) (y := l1) hf C dX0_lengthOfRank_14 (by decide) (fun hf => ?_) (fun hf => ?_)
    · obtain rfl := Option.some.inj hf
      refine g_lv [2] (lv' := [(2, .int l2)]) rfl ?_
      exact hk0
    · refine g_iload_n (pc := 17) (x := l2) C dX0_lengthOfRank_17 rfl ?_
      refine g_iconst (pc := 18) (v := (-1)) C dX0_lengthOfRank_18 (by decide) ?_
      refine g_icmp_eq (pc := 19) (tgt := 34) (x := l2) (y := (-1)) hf C dX0_lengthOfRank_19 (by decide) (fun hf => ?_) (fun hf => ?_)
      · obtain rfl := Option.some.inj hf
        refine g_lv [2] (lv' := [(2, .int l2)]) rfl ?_
        exact hk0
      · refine g_aload_n (pc := 22) (x := (aS 0)) C dX0_lengthOfRank_22 rfl ?_
        refine g_iload_n (pc := 23) (x := l2) C dX0_lengthOfRank_23 rfl ?_
        refine g_callR (pc' := 27) (cs' := 0) (sl' := 0) hf C (fun u => some (.int u)) (fun u hu => gr_S (rest := []) C (cX0_shortestAbove_ (kL k) C.tr (kD k) N aS v l2 u hu) (fun ht => va_cwS 2 ht gX0_lengthOfRank_X0_shortestAbove rfl rfl rfl hsX0_shortestAbove ⟨(Nat.le_of_ble_eq_true rfl), (Nat.le_of_ble_eq_true rfl)⟩) [0, 1, 2, 3, 4, 5, 6, 7, 8] rfl (by decide) rfl rfl (Nat.le_of_ble_eq_true rfl) dX0_lengthOfRank_24 ⟨(Nat.le_of_ble_eq_true rfl), (Nat.le_of_ble_eq_true rfl)⟩) [0, 1, 2, 3, 4, 5, 6, 7, 8] rfl rfl rfl rfl (fun u => [.int u]) (fun u => rfl) (fun r1 hf => ?_)
        refine g_istore_n (pc := 27) (lv' := [(2, .int r1), (0, .ref (aS 0)), (1, .int l1), (3, .int l3)]) C dX0_lengthOfRank_27 (by decide) rfl ?_
        refine g_iinc (pc := 28) (x := l3) (v := (l3 + 1)) (lv' := [(3, .int (l3 + 1)), (2, .int r1), (0, .ref (aS 0)), (1, .int l1)]) C dX0_lengthOfRank_28 rfl rfl (by decide) rfl ?_
        refine g_goto (pc := 31) (tgt := 12) C dX0_lengthOfRank_31 (by decide) ?_
        refine g_lv [2, 3, 1, 0] (lv' := [(0, .ref (aS 0)), (1, .int l1), (2, .int r1), (3, .int (l3 + 1))]) rfl ?_
        exact ih r1 (l3 + 1) u hf hk0
def fX0_lengthOfRank (N : Nat) (v : VS) (p1 : Int32) : Option (Int32) := (if p1 < (20 : Int32) then ((lX0_lengthOfRank_12 N v p1 N 0 0).bind fun r1 => some r1) else some (-1))
set_option maxRecDepth 100000 in
set_option maxHeartbeats 4000000 in
theorem wkX0_lengthOfRank {k : Kt} (C : gC k cX0_lengthOfRank 4 RX0 wsX0_lengthOfRank rmX0_lengthOfRank "lengthOfRank") (N : Nat) (aS : Nat → Nat) (v : VS) (p1 : Int32) (r : Int32) (hf : fX0_lengthOfRank N v p1 = some r) (E : gE k (wS (kD k) aS v) (fun rv w => rv = some (.int r) ∧ w = (wS (kD k) aS v)) (fun _ _ => False) 0 0 (some .int) []) : gG k (wS (kD k) aS v) [(0, .ref (aS 0)), (1, .int p1)] 0 0 0 [] := by
  unfold fX0_lengthOfRank at hf
  refine g_iload_n (pc := 0) (x := p1) C dX0_lengthOfRank_0 rfl ?_
  refine g_bipush (pc := 1) (v := 20) C dX0_lengthOfRank_1 (by decide) ?_
  refine g_icmp_lt (pc := 3) (tgt := 8) (x := p1) (y := 20) hf C dX0_lengthOfRank_3 (by decide) (fun hf => ?_) (fun hf => ?_)
  · refine g_iconst (pc := 8) (v := 0) C dX0_lengthOfRank_8 (by decide) ?_
    refine g_istore_n (pc := 9) (lv' := [(2, .int 0), (0, .ref (aS 0)), (1, .int p1)]) C dX0_lengthOfRank_9 (by decide) rfl ?_
    refine g_iconst (pc := 10) (v := 0) C dX0_lengthOfRank_10 (by decide) ?_
    refine g_istore_n (pc := 11) (lv' := [(3, .int 0), (2, .int 0), (0, .ref (aS 0)), (1, .int p1)]) C dX0_lengthOfRank_11 (by decide) rfl ?_
    obtain ⟨r1, h1, hf⟩ := bd_e hf
    refine g_lv [2, 3, 1, 0] (lv' := [(0, .ref (aS 0)), (1, .int p1), (2, .int 0), (3, .int 0)]) rfl ?_
    refine wlX0_lengthOfRank_12 C N aS v p1 N 0 0 r1 h1 ?_
    refine g_iload_n (pc := 34) (x := r1) C dX0_lengthOfRank_34 rfl ?_
    obtain rfl := Option.some.inj hf
    exact g_iret (v := r1) C E dX0_lengthOfRank_35 (Nat.le_of_ble_eq_true rfl) (Nat.le_of_ble_eq_true rfl) ⟨rfl, rfl⟩
  · refine g_iconst (pc := 6) (v := (-1)) C dX0_lengthOfRank_6 (by decide) ?_
    obtain rfl := Option.some.inj hf
    exact g_iret (v := (-1)) C E dX0_lengthOfRank_7 (Nat.le_of_ble_eq_true rfl) (Nat.le_of_ble_eq_true rfl) ⟨rfl, rfl⟩
set_option maxRecDepth 100000 in
set_option maxHeartbeats 4000000 in
theorem cX0_lengthOfRank_ (l : Launch) (htr : l.stackTraces = false) (D : va_G) (N : Nat) (aS : Nat → Nat) (v : VS) (p1 : Int32) (r : Int32) (hf : fX0_lengthOfRank N v p1 = some r) : Tc l D yX0_lengthOfRank wsX0_lengthOfRank rmX0_lengthOfRank [.ref (aS 0), .int p1] (wS D aS v) (fun rv w => rv = some (.int r) ∧ w = (wS D aS v)) (fun _ _ => False) 0 0 := Tc_of htr (by decide +kernel) rfl (Nat.le_of_ble_eq_true rfl) (fun k C E hl hD => by subst hD; exact wkX0_lengthOfRank C N aS v p1 r hf E)
abbrev rmX0_differentLengths : Room := { frames := 3, cells := 0, slots := 0, locals := 68 }
theorem hsX0_differentLengths : yX0_differentLengths.cls ≠ "java/lang/invoke/MethodHandle" ∧ yX0_differentLengths.cls ≠ "java/lang/invoke/VarHandle" ∧ (parseMethodDescriptor yX0_differentLengths.desc).map (fun d => d.parameters.length) = some 1 := by decide +kernel
def lX0_differentLengths_2 (N : Nat) (v : VS) : Nat → Int32 → Option ((Int32))
  | 0, _ => none
  | n + 1, l1 => (if (20 : Int32) ≤ l1 then some l1 else ((fX0_lengthOfRank N v l1).bind fun r1 => (if r1 = ((-1) : Int32) then some l1 else (lX0_differentLengths_2 N v n (l1 + 1)))))
set_option maxRecDepth 100000 in
set_option maxHeartbeats 4000000 in
theorem wlX0_differentLengths_2 {k : Kt} (C : gC k cX0_differentLengths 2 RX0 wsX0_differentLengths rmX0_differentLengths "differentLengths") (N : Nat) (aS : Nat → Nat) (v : VS) : ∀ (n : Nat) (l1 : Int32) (u : (Int32)) (hf : lX0_differentLengths_2 N v n l1 = some u) (hk0 : gG k (wS (kD k) aS v) [(1, .int u)] 0 0 23 []), gG k (wS (kD k) aS v) [(0, .ref (aS 0)), (1, .int l1)] 0 0 2 [] := by
  intro n
  induction n with
  | zero => intro l1 u hf hk0; rw [lX0_differentLengths_2] at hf; cases hf
  | succ n ih =>
    intro l1 u hf hk0
    rw [lX0_differentLengths_2] at hf
    refine g_iload_n (pc := 2) (x := l1) C dX0_differentLengths_2 rfl ?_
    refine g_bipush (pc := 3) (v := 20) C dX0_differentLengths_3 (by decide) ?_
    refine g_icmp_ge (pc := 5) (tgt := 23) (x := l1) (y := 20) hf C dX0_differentLengths_5 (by decide) (fun hf => ?_) (fun hf => ?_)
    · obtain rfl := Option.some.inj hf
      refine g_lv [1] (lv' := [(1, .int l1)]) rfl ?_
      exact hk0
    · refine g_aload_n (pc := 8) (x := (aS 0)) C dX0_differentLengths_8 rfl ?_
      refine g_iload_n (pc := 9) (x := l1) C dX0_differentLengths_9 rfl ?_
      refine g_callR (pc' := 13) (cs' := 0) (sl' := 0) hf C (fun u => some (.int u)) (fun u hu => gr_S (rest := []) C (cX0_lengthOfRank_ (kL k) C.tr (kD k) N aS v l1 u hu) (fun ht => va_cwS 2 ht gX0_differentLengths_X0_lengthOfRank rfl rfl rfl hsX0_lengthOfRank ⟨(Nat.le_of_ble_eq_true rfl), (Nat.le_of_ble_eq_true rfl)⟩) [0, 1, 2, 3, 4, 5, 6, 7, 8] rfl (by decide) rfl rfl (Nat.le_of_ble_eq_true rfl) dX0_differentLengths_10 ⟨(Nat.le_of_ble_eq_true rfl), (Nat.le_of_ble_eq_true rfl)⟩) [0, 1, 2, 3, 4, 5, 6, 7, 8] rfl rfl rfl rfl (fun u => [.int u]) (fun u => rfl) (fun r1 hf => ?_)
      refine g_iconst (pc := 13) (v := (-1)) C dX0_differentLengths_13 (by decide) ?_
      refine g_icmp_eq (pc := 14) (tgt := 23) (x := r1) (y := (-1)) hf C dX0_differentLengths_14 (by decide) (fun hf => ?_) (fun hf => ?_)
      · obtain rfl := Option.some.inj hf
        refine g_lv [1] (lv' := [(1, .int l1)]) rfl ?_
        exact hk0
      · refine g_iinc (pc := 17) (x := l1) (v := (l1 + 1)) (lv' := [(1, .int (l1 + 1)), (0, .ref (aS 0))]) C dX0_differentLengths_17 rfl rfl (by decide) rfl ?_
        refine g_goto (pc := 20) (tgt := 2) C dX0_differentLengths_20 (by decide) ?_
        refine g_lv [1, 0] (lv' := [(0, .ref (aS 0)), (1, .int (l1 + 1))]) rfl ?_
        exact ih (l1 + 1) u hf hk0
def fX0_differentLengths (N : Nat) (v : VS) : Option (Int32) := ((lX0_differentLengths_2 N v N 0).bind fun r1 => some r1)
set_option maxRecDepth 100000 in
set_option maxHeartbeats 4000000 in
theorem wkX0_differentLengths {k : Kt} (C : gC k cX0_differentLengths 2 RX0 wsX0_differentLengths rmX0_differentLengths "differentLengths") (N : Nat) (aS : Nat → Nat) (v : VS) (r : Int32) (hf : fX0_differentLengths N v = some r) (E : gE k (wS (kD k) aS v) (fun rv w => rv = some (.int r) ∧ w = (wS (kD k) aS v)) (fun _ _ => False) 0 0 (some .int) []) : gG k (wS (kD k) aS v) [(0, .ref (aS 0))] 0 0 0 [] := by
  unfold fX0_differentLengths at hf
  refine g_iconst (pc := 0) (v := 0) C dX0_differentLengths_0 (by decide) ?_
  refine g_istore_n (pc := 1) (lv' := [(1, .int 0), (0, .ref (aS 0))]) C dX0_differentLengths_1 (by decide) rfl ?_
  obtain ⟨r1, h1, hf⟩ := bd_e hf
  refine g_lv [1, 0] (lv' := [(0, .ref (aS 0)), (1, .int 0)]) rfl ?_
  refine wlX0_differentLengths_2 C N aS v N 0 r1 h1 ?_
  refine g_iload_n (pc := 23) (x := r1) C dX0_differentLengths_23 rfl ?_
  obtain rfl := Option.some.inj hf
  exact g_iret (v := r1) C E dX0_differentLengths_24 (Nat.le_of_ble_eq_true rfl) (Nat.le_of_ble_eq_true rfl) ⟨rfl, rfl⟩
set_option maxRecDepth 100000 in
set_option maxHeartbeats 4000000 in
theorem cX0_differentLengths_ (l : Launch) (htr : l.stackTraces = false) (D : va_G) (N : Nat) (aS : Nat → Nat) (v : VS) (r : Int32) (hf : fX0_differentLengths N v = some r) : Tc l D yX0_differentLengths wsX0_differentLengths rmX0_differentLengths [.ref (aS 0)] (wS D aS v) (fun rv w => rv = some (.int r) ∧ w = (wS D aS v)) (fun _ _ => False) 0 0 := Tc_of htr (by decide +kernel) rfl (Nat.le_of_ble_eq_true rfl) (fun k C E hl hD => by subst hD; exact wkX0_differentLengths C N aS v r hf E)
