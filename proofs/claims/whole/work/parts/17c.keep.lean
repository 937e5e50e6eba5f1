/-! keep and goBack -/
section GN
variable {k : Kt} {cc : ByteArray} {nL : Nat} {own nm : String} {Ts : List Cond} {rm : Room} {ws : va_W} {lv : List (Nat × Value)} {cs sl pc : Nat} {st : List Value}
theorem g_astore_nN (C : gC k cc nL own Ts rm nm) {j : Fin 4} {lv' : List (Nat × Value)} (d : decode cc pc = .ok (.astore_n j, 1)) (hn : (j : Nat) < nL) (e : ((j : Nat), Value.null) :: lv.filter (fun q => !(q.1 == (j : Nat)) && !(q.1 + 1 == (j : Nat) && q.2.category == 2)) = lv') (h : gG k ws lv' cs sl (pc + 1) st) : gG k ws lv cs sl pc (Value.null :: st) :=
  fun H locs ls hP hD hS hl => lv_astore_nN C.x C.b d rfl hl (C.n ▸ hn) e (fun ls hl => h H locs ls hP hD hS hl)
theorem g_aload_nN (C : gC k cc nL own Ts rm nm) {j : Fin 4} (d : decode cc pc = .ok (.aload_n j, 1)) (hx : lvg lv (j : Nat) = some .null) (h : gG k ws lv cs sl (pc + 1) (.null :: st)) : gG k ws lv cs sl pc st :=
  fun H locs ls hP hD hS hl => lv_aload_nN C.x C.b d rfl (lvg_at hl hx) (h H locs ls hP hD hS hl)
end GN
def wO (D : va_G) (a : Nat → Nat) (s : Option VS) : va_W := match s with
  | none => []
  | some v => wS D a v
def fX4_keepIn (N : Nat) (v : VS) (s : Option VS) (p1 : Int32) : Option (Nat ⊕ VS) := (fX4_checkRange N p1 0 1).bind fun r1 => Sum.elim (fun e => some (.inl e)) (fun _ => ck p1 2 ((fX3_copyFrom N (s.getD iS) v).bind fun c => some (.inr c))) r1
def fX4_goBackTo (N : Nat) (v : VS) (z : VV) (s : Option VS) (p1 : Int32) : Option (Nat ⊕ (VS × VV)) := (fX4_checkRange N p1 0 1).bind fun r1 => Sum.elim (fun e => some (.inl e)) (fun _ => ck p1 2 (s.elim (some (.inl 2)) (fun s => (fX2_push N v z).bind fun z' => (fX3_copyFrom N v s).bind fun c => some (.inr (c, z'))))) r1
theorem va_up_same {f : Nat → Option Nat} {j : Nat} {x : Option Nat} (h : f j = x) : va_up f j x = f := by
  funext i
  simp only [va_up]
  by_cases c : i = j
  · rw [if_pos c, c, h]
  · rw [if_neg c]
abbrev rmX4_keep : Room := { frames := 8, cells := 10, slots := 163, locals := 140 }
theorem lkX4_keep_23 : Cond.fieldLink RX4 23 "GaugeBlocks" (TX4 2).2.1 (TX4 2).2.2.1 ∈ wsX4_keep := by decide +kernel
theorem lkX4_keep_12 : Cond.fieldLink RX4 12 "GaugeBlocks" (TX4 0).2.1 (TX4 0).2.2.1 ∈ wsX4_keep := by decide +kernel
theorem lkX4_keep_68 : Cond.fieldLink RX4 68 "GaugeBlocks$State" (TX3 8).2.1 (TX3 8).2.2.1 ∈ wsX4_keep := by decide +kernel
theorem inX4_keep_X4 : ∀ w ∈ wsX40, w ∈ wsX4_keep := by decide +kernel
theorem inX4_keep_X3 : ∀ w ∈ wsX30, w ∈ wsX4_keep := by decide +kernel
theorem hdX4_keep : yX4_keep.cls = RX4 ∧ yX4_keep.cls ≠ "java/lang/invoke/MethodHandle" ∧ yX4_keep.cls ≠ "java/lang/invoke/VarHandle" ∧ (parseMethodDescriptor yX4_keep.desc).map (fun d => d.parameters.length) = some 1 := by decide +kernel
abbrev rmX4_goBack : Room := { frames := 8, cells := 2, slots := 12, locals := 140 }
theorem lkX4_goBack_23 : Cond.fieldLink RX4 23 "GaugeBlocks" (TX4 2).2.1 (TX4 2).2.2.1 ∈ wsX4_goBack := by decide +kernel
theorem lkX4_goBack_12 : Cond.fieldLink RX4 12 "GaugeBlocks" (TX4 0).2.1 (TX4 0).2.2.1 ∈ wsX4_goBack := by decide +kernel
theorem lkX4_goBack_68 : Cond.fieldLink RX4 68 "GaugeBlocks$State" (TX3 8).2.1 (TX3 8).2.2.1 ∈ wsX4_goBack := by decide +kernel
theorem lkX4_goBack_19 : Cond.fieldLink RX4 19 "GaugeBlocks" (TX4 1).2.1 (TX4 1).2.2.1 ∈ wsX4_goBack := by decide +kernel
theorem inX4_goBack_X4 : ∀ w ∈ wsX40, w ∈ wsX4_goBack := by decide +kernel
theorem inX4_goBack_X3 : ∀ w ∈ wsX30, w ∈ wsX4_goBack := by decide +kernel
theorem hdX4_goBack : yX4_goBack.cls = RX4 ∧ yX4_goBack.cls ≠ "java/lang/invoke/MethodHandle" ∧ yX4_goBack.cls ≠ "java/lang/invoke/VarHandle" ∧ (parseMethodDescriptor yX4_goBack.desc).map (fun d => d.parameters.length) = some 1 := by decide +kernel
set_option maxRecDepth 100000 in
set_option maxHeartbeats 4000000 in
theorem wkX4_keepT {k : Kt} (C : gC k cX4_keep 3 RX4 wsX4_keep rmX4_keep "keep") (N rG rV rN rT : Nat) (aS aP : Nat → Nat) (v s c : VS) (g : Nat → Option Nat) (p1 : Int32) (cs sl : Nat) (hc : fX3_copyFrom N s v = some c) {w0 : va_W} {Post : Option Value → va_W → Prop} {PX : String → va_W → Prop} (E : gE k w0 Post PX 10 163 (some .int) []) (hp : Post (some (.int (sB v))) (wG (kD k) rG (aS 0) rV rN rT ++ (wS (kD k) aS v ++ (wN (kD k) rN g ++ wS (kD k) aP c)))) (hcs : cs ≤ 10) (hsl : sl ≤ 163) : gG k (wG (kD k) rG (aS 0) rV rN rT ++ (wS (kD k) aS v ++ (wN (kD k) rN g ++ wS (kD k) aP s))) [(2, .ref (aP 0)), (0, .ref rG), (1, .int p1)] cs sl 32 [] := by
  refine g_aload_n (pc := 32) (x := aP 0) C dX4_keep_32 rfl ?_
  refine g_aload_n (pc := 33) (x := rG) C dX4_keep_33 rfl ?_
  refine g_getf (pc := 34) C 0 rfl rfl inX4_keep_X4 0 (by decide) lkX4_keep_12 rfl rfl dX4_keep_34 ?_
  refine g_callG (pc := 37) (wc := wS (kD k) aP s ++ wS (kD k) aS v) (wr := wG (kD k) rG (aS 0) rV rN rT ++ wN (kD k) rN g) (rest := []) C (gr_V (y := yX3_copyFrom) C (cX3_copyFrom_ (kL k) C.tr (kD k) N aP aS s v c hc) (fun ht => cwV 1 ht gX4_keep_X3_copyFrom rfl rfl rfl hdX3_copyFrom ⟨(Nat.le_of_ble_eq_true rfl), (Nat.le_of_ble_eq_true rfl)⟩) 11 rfl rfl [11, 12, 13, 14, 15, 16, 17, 18, 19, 1, 2, 3, 4, 5, 6, 7, 8, 9] rfl (by decide) rfl rfl (Nat.le_of_ble_eq_true rfl) dX4_keep_37 ⟨hcs, hsl⟩) [11, 12, 13, 14, 15, 16, 17, 18, 19, 1, 2, 3, 4, 5, 6, 7, 8, 9] [0, 10] rfl rfl rfl (by decide) (fun _ _ h => h.elim) (fun rv w1 hp1 => ?_)
  obtain ⟨rfl, rfl⟩ := hp1
  refine g_perm [0, 11, 12, 13, 14, 15, 16, 17, 18, 19, 1, 2, 3, 4, 5, 6, 7, 8, 9, 10] (ws' := (wG (kD k) rG (aS 0) rV rN rT ++ (wS (kD k) aS v ++ (wN (kD k) rN g ++ wS (kD k) aP c)))) rfl (by decide) ?_
  refine g_stack (st' := []) rfl ?_
  refine g_aload_n (pc := 40) (x := rG) C dX4_keep_40 rfl ?_
  refine g_getf (pc := 41) C 0 rfl rfl inX4_keep_X4 0 (by decide) lkX4_keep_12 rfl rfl dX4_keep_41 ?_
  refine g_getf (pc := 44) C 1 rfl rfl inX4_keep_X3 8 (by decide) lkX4_keep_68 rfl rfl dX4_keep_44 ?_
  exact g_iret (v := sB v) C E dX4_keep_47 hcs hsl hp
set_option maxRecDepth 100000 in
set_option maxHeartbeats 4000000 in
theorem wkX4_keep {k : Kt} (C : gC k cX4_keep 3 RX4 wsX4_keep rmX4_keep "keep") (N rG rV rN rT : Nat) (aS aP : Nat → Nat) (v : VS) (s : Option VS) (f : Nat → Option Nat) (p1 : Int32) (hs : vp_in p1 2 → f p1.toNatClampNeg = s.map (fun _ => aP 0)) (r : Nat ⊕ VS) (hf : fX4_keepIn N v s p1 = some r) (E : gE k (wG (kD k) rG (aS 0) rV rN rT ++ (wS (kD k) aS v ++ (wN (kD k) rN f ++ wO (kD k) aP s))) (fun rv w => ∃ (c : VS) (a : Nat → Nat), r = .inr c ∧ rv = some (.int (sB v)) ∧ w = (wG (kD k) rG (aS 0) rV rN rT ++ (wS (kD k) aS v ++ (wN (kD k) rN (va_up f p1.toNatClampNeg (some (a 0))) ++ wS (kD k) a c)))) (fun X w => ∃ e, r = .inl e ∧ X = xnm e ∧ w = (wG (kD k) rG (aS 0) rV rN rT ++ (wS (kD k) aS v ++ (wN (kD k) rN f ++ wO (kD k) aP s)))) 10 163 (some .int) []) : gG k (wG (kD k) rG (aS 0) rV rN rT ++ (wS (kD k) aS v ++ (wN (kD k) rN f ++ wO (kD k) aP s))) [(0, .ref rG), (1, .int p1)] 0 0 0 [] := by
  have hl := C.amb.2.2.2.2.2.1 (.methodLinkNest RX4 11 yX3_init "GaugeBlocks") (by decide +kernel)
  unfold fX4_keepIn at hf
  refine g_iload_n (pc := 0) (x := p1) C dX4_keep_0 rfl ?_
  refine g_iconst (pc := 1) (v := 0) C dX4_keep_1 (by decide) ?_
  refine g_iconst (pc := 2) (v := 1) C dX4_keep_2 (by decide) ?_
  refine g_callT (pc := 3) (pc' := 6) (cs' := 1) (sl' := 6) hf C xnm (fun u => none) (fun u hu => gr_S (rest := []) C (cX4_checkRange_ (kL k) C.tr (kD k) N p1 0 1 u hu) (fun ht => va_cwS 3 ht gX4_keep_X4_checkRange rfl rfl rfl hsX4_checkRange ⟨(Nat.le_of_ble_eq_true rfl), (Nat.le_of_ble_eq_true rfl)⟩) [] rfl (by decide) rfl rfl (Nat.le_of_ble_eq_true rfl) dX4_keep_3 ⟨(Nat.le_of_ble_eq_true rfl), (Nat.le_of_ble_eq_true rfl)⟩) [] rfl rfl rfl rfl (fun u => []) (fun u => rfl) (fun e hf => ?_) (fun r1 hf => ?_)
  · obtain rfl := Option.some.inj hf
    exact g_out C E (Nat.le_of_ble_eq_true rfl) (Nat.le_of_ble_eq_true rfl) ⟨e, rfl, rfl, rfl⟩
  obtain ⟨hin, hf⟩ := ck_e hf
  have hs := hs hin
  obtain ⟨c, hc, hf⟩ := bd_e hf
  obtain rfl := Option.some.inj hf
  refine g_aload_n (pc := 6) (x := rG) C dX4_keep_6 rfl ?_
  refine g_getf (pc := 7) C 0 rfl rfl inX4_keep_X4 2 (by decide) lkX4_keep_23 rfl rfl dX4_keep_7 ?_
  refine g_iload_n (pc := 10) (x := p1) C dX4_keep_10 rfl ?_
  cases s with
  | none =>
    refine g_aldq (pc := 11) (v := .null) hin C 10 rfl (congrArg va_rf hs) dX4_keep_11 ?_
    refine g_astore_nN (pc := 12) (lv' := [(2, .null), (0, .ref rG), (1, .int p1)]) C dX4_keep_12 (by decide) rfl ?_
    refine g_aload_nN (pc := 13) C dX4_keep_13 rfl ?_
    refine g_ifnonnullN (pc := 14) C dX4_keep_14 ?_
    refine g_new (pc := 17) C (E := RX3) (T := TX3) (N := 13) (ci := 2) (by decide +kernel) (by decide +kernel) (by decide +kernel) inX4_keep_X3 tyX3 tyX3_ok rfl (fs := [.null, .null, .null, .null, .null, .null, .null, .null, .int 0, .int 0, .int 0, .int 0, .int 0]) df3 (Nat.le_of_ble_eq_true rfl) (Nat.le_of_ble_eq_true rfl) dX4_keep_17 (fun q => ?_)
    refine g_dup (pc := 20) C dX4_keep_20 rfl ?_
    refine g_callG (pc := 21) (wc := w3_0 q) (wr := wG (kD k) rG (aS 0) rV rN rT ++ (wS (kD k) aS v ++ wN (kD k) rN f)) (rest := [.ref q]) C (gr_IN (y := yX3_init) (host := "GaugeBlocks") C (cX3_init_ (kL k) C.tr (kD k) q) (fun ht => ⟨va_cnB 0 ht gX4_keep_X3_init_n11 rfl rfl rfl hl (ht (.initialized RX3) (by decide +kernel)) hdX3_init ⟨(Nat.le_of_ble_eq_true rfl), (Nat.le_of_ble_eq_true rfl)⟩, rfl, ht (.instanceMethod yX3_init) (by decide +kernel)⟩) [11] rfl rfl rfl rfl (Nat.le_of_ble_eq_true rfl) dX4_keep_21 ⟨(Nat.le_of_ble_eq_true rfl), (Nat.le_of_ble_eq_true rfl)⟩) [11] [0, 1, 2, 3, 4, 5, 6, 7, 8, 9, 10] rfl rfl rfl (by decide) (fun _ _ h => h.elim) (fun rv w1 hp => ?_)
    obtain ⟨rfl, l, rfl⟩ := hp
    refine g_stack (st' := [.ref q]) rfl ?_
    refine g_astore_n (pc := 24) (lv' := [(2, .ref q), (0, .ref rG), (1, .int p1)]) C dX4_keep_24 (by decide) rfl ?_
    refine g_aload_n (pc := 25) (x := rG) C dX4_keep_25 rfl ?_
    refine g_getf (pc := 26) C 0 rfl rfl inX4_keep_X4 2 (by decide) lkX4_keep_23 rfl rfl dX4_keep_26 ?_
    refine g_iload_n (pc := 29) (x := p1) C dX4_keep_29 rfl ?_
    refine g_aload_n (pc := 30) (x := q) C dX4_keep_30 rfl ?_
    refine g_astq (pc := 31) C (j := p1.toNatClampNeg) 10 11 rfl rfl rfl hin dX4_keep_31 (ws' := (wG (kD k) rG (aS 0) rV rN rT ++ (wS (kD k) aS v ++ (wN (kD k) rN (va_up f p1.toNatClampNeg (some (adr (q :: l) 0))) ++ wS (kD k) (adr (q :: l)) iS)))) rfl ?_
    exact wkX4_keepT C N rG rV rN rT aS (adr (q :: l)) v iS c _ p1 _ _ hc E ⟨c, adr (q :: l), rfl, rfl, rfl⟩ (Nat.le_of_ble_eq_true rfl) (Nat.le_of_ble_eq_true rfl)
  | some s =>
    have hs : f p1.toNatClampNeg = some (aP 0) := hs
    refine g_aldq (pc := 11) (v := .ref (aP 0)) hin C 10 rfl (congrArg va_rf hs) dX4_keep_11 ?_
    refine g_astore_n (pc := 12) (lv' := [(2, .ref (aP 0)), (0, .ref rG), (1, .int p1)]) C dX4_keep_12 (by decide) rfl ?_
    refine g_aload_n (pc := 13) (x := aP 0) C dX4_keep_13 rfl ?_
    refine g_ifnonnull (pc := 14) (tgt := 32) C dX4_keep_14 (by decide) ?_
    exact wkX4_keepT C N rG rV rN rT aS aP v s c f p1 _ _ hc E ⟨c, aP, rfl, rfl, by rw [va_up_same hs]⟩ (Nat.le_of_ble_eq_true rfl) (Nat.le_of_ble_eq_true rfl)
set_option maxRecDepth 100000 in
set_option maxHeartbeats 4000000 in
theorem cX4_keep_ (l : Launch) (htr : l.stackTraces = false) (D : va_G) (N rG rV rN rT : Nat) (aS aP : Nat → Nat) (v : VS) (s : Option VS) (f : Nat → Option Nat) (p1 : Int32) (hs : vp_in p1 2 → f p1.toNatClampNeg = s.map (fun _ => aP 0)) (r : Nat ⊕ VS) (hf : fX4_keepIn N v s p1 = some r) : Tc l D yX4_keep wsX4_keep rmX4_keep [.ref rG, .int p1] (wG D rG (aS 0) rV rN rT ++ (wS D aS v ++ (wN D rN f ++ wO D aP s))) (fun rv w => ∃ (c : VS) (a : Nat → Nat), r = .inr c ∧ rv = some (.int (sB v)) ∧ w = (wG D rG (aS 0) rV rN rT ++ (wS D aS v ++ (wN D rN (va_up f p1.toNatClampNeg (some (a 0))) ++ wS D a c)))) (fun X w => ∃ e, r = .inl e ∧ X = xnm e ∧ w = (wG D rG (aS 0) rV rN rT ++ (wS D aS v ++ (wN D rN f ++ wO D aP s)))) 10 163 := Tc_of htr (by decide +kernel) rfl (Nat.le_of_ble_eq_true rfl) (fun k C E hl hD => by subst hD; exact wkX4_keep C N rG rV rN rT aS aP v s f p1 hs r hf E)
theorem inX4_goBack_X2 : ∀ w ∈ wsX20, w ∈ wsX4_goBack := by decide +kernel
theorem tkX4_goBack_2 : Cond.classLink RX4 43 xISE ∈ wsX4_goBack ∧ Cond.initialized xISE ∈ wsX4_goBack := by decide +kernel
theorem tgX4_goBack_2 : ∀ w ∈ (vx_atS RX4 47 xISE gXn).filter goodWord, w ∈ wsX4_goBack := by decide +kernel
set_option maxRecDepth 100000 in
set_option maxHeartbeats 4000000 in
theorem wkX4_goBack {k : Kt} (C : gC k cX4_goBack 3 RX4 wsX4_goBack rmX4_goBack "goBack") (N rG rV rN rT : Nat) (aS aV aP : Nat → Nat) (v : VS) (z : VV) (s : Option VS) (f : Nat → Option Nat) (p1 : Int32) (hs : vp_in p1 2 → f p1.toNatClampNeg = s.map (fun _ => aP 0)) (r : Nat ⊕ (VS × VV)) (hf : fX4_goBackTo N v z s p1 = some r) (E : gE k (wG (kD k) rG (aS 0) rV rN rT ++ (wS (kD k) aS v ++ (wV (kD k) rV aV z ++ (wN (kD k) rN f ++ wO (kD k) aP s)))) (fun rv w => ∃ (b : VS × VV) (a : Nat → Nat), r = .inr b ∧ rv = some (.int (sB b.1)) ∧ w = (wG (kD k) rG (aS 0) rV rN rT ++ (wS (kD k) aS b.1 ++ (wV (kD k) rV a b.2 ++ (wN (kD k) rN f ++ wO (kD k) aP s))))) (fun X w => ∃ e, r = .inl e ∧ X = xnm e ∧ w = (wG (kD k) rG (aS 0) rV rN rT ++ (wS (kD k) aS v ++ (wV (kD k) rV aV z ++ (wN (kD k) rN f ++ wO (kD k) aP s))))) 2 12 (some .int) []) : gG k (wG (kD k) rG (aS 0) rV rN rT ++ (wS (kD k) aS v ++ (wV (kD k) rV aV z ++ (wN (kD k) rN f ++ wO (kD k) aP s)))) [(0, .ref rG), (1, .int p1)] 0 0 0 [] := by
  unfold fX4_goBackTo at hf
  refine g_iload_n (pc := 0) (x := p1) C dX4_goBack_0 rfl ?_
  refine g_iconst (pc := 1) (v := 0) C dX4_goBack_1 (by decide) ?_
  refine g_iconst (pc := 2) (v := 1) C dX4_goBack_2 (by decide) ?_
  refine g_callT (pc := 3) (pc' := 6) (cs' := 1) (sl' := 6) hf C xnm (fun u => none) (fun u hu => gr_S (rest := []) C (cX4_checkRange_ (kL k) C.tr (kD k) N p1 0 1 u hu) (fun ht => va_cwS 3 ht gX4_goBack_X4_checkRange rfl rfl rfl hsX4_checkRange ⟨(Nat.le_of_ble_eq_true rfl), (Nat.le_of_ble_eq_true rfl)⟩) [] rfl (by decide) rfl rfl (Nat.le_of_ble_eq_true rfl) dX4_goBack_3 ⟨(Nat.le_of_ble_eq_true rfl), (Nat.le_of_ble_eq_true rfl)⟩) [] rfl rfl rfl rfl (fun u => []) (fun u => rfl) (fun e hf => ?_) (fun r1 hf => ?_)
  · obtain rfl := Option.some.inj hf
    exact g_out C E (Nat.le_of_ble_eq_true rfl) (Nat.le_of_ble_eq_true rfl) ⟨e, rfl, rfl, rfl⟩
  obtain ⟨hin, hf⟩ := ck_e hf
  have hs := hs hin
  refine g_aload_n (pc := 6) (x := rG) C dX4_goBack_6 rfl ?_
  refine g_getf (pc := 7) C 0 rfl rfl inX4_goBack_X4 2 (by decide) lkX4_goBack_23 rfl rfl dX4_goBack_7 ?_
  refine g_iload_n (pc := 10) (x := p1) C dX4_goBack_10 rfl ?_
  cases s with
  | none =>
    obtain rfl := Option.some.inj hf
    refine g_aldq (pc := 11) (v := .null) hin C 66 rfl (congrArg va_rf hs) dX4_goBack_11 ?_
    refine g_astore_nN (pc := 12) (lv' := [(2, .null), (0, .ref rG), (1, .int p1)]) C dX4_goBack_12 (by decide) rfl ?_
    refine g_aload_nN (pc := 13) C dX4_goBack_13 rfl ?_
    refine g_ifnonnullN (pc := 14) C dX4_goBack_14 ?_
    exact g_throwS (X := xISE) (tx := "the slot is empty") C E (by decide +kernel) tkX4_goBack_2.1 tkX4_goBack_2.2 (by decide +kernel) tgX4_goBack_2 tb_xISE to_xISE dX4_goBack_17 dX4_goBack_20 dX4_goBack_21 dX4_goBack_23 dX4_goBack_26 (Nat.le_of_ble_eq_true rfl) (Nat.le_of_ble_eq_true rfl) (Nat.le_of_ble_eq_true rfl) (Nat.le_of_ble_eq_true rfl) (Nat.le_of_ble_eq_true rfl) (Nat.le_of_ble_eq_true rfl) ⟨2, rfl, rfl, rfl⟩
  | some s =>
    obtain ⟨z', hz, hf⟩ := bd_e (hf : (fX2_push N v z).bind _ = some r)
    obtain ⟨c, hc, hf⟩ := bd_e hf
    obtain rfl := Option.some.inj hf
    refine g_aldq (pc := 11) (v := .ref (aP 0)) hin C 66 rfl (congrArg va_rf hs) dX4_goBack_11 ?_
    refine g_astore_n (pc := 12) (lv' := [(2, .ref (aP 0)), (0, .ref rG), (1, .int p1)]) C dX4_goBack_12 (by decide) rfl ?_
    refine g_aload_n (pc := 13) (x := aP 0) C dX4_goBack_13 rfl ?_
    refine g_ifnonnull (pc := 14) (tgt := 27) C dX4_goBack_14 (by decide) ?_
    refine g_aload_n (pc := 27) (x := rG) C dX4_goBack_27 rfl ?_
    refine g_getf (pc := 28) C 0 rfl rfl inX4_goBack_X4 1 (by decide) lkX4_goBack_19 rfl rfl dX4_goBack_28 ?_
    refine g_aload_n (pc := 31) (x := rG) C dX4_goBack_31 rfl ?_
    refine g_getf (pc := 32) C 0 rfl rfl inX4_goBack_X4 0 (by decide) lkX4_goBack_12 rfl rfl dX4_goBack_32 ?_
    refine g_callG (pc := 35) (wc := wS (kD k) aS v ++ wV (kD k) rV aV z) (wr := wG (kD k) rG (aS 0) rV rN rT ++ (wN (kD k) rN f ++ wS (kD k) aP s)) (rest := []) C (gr_V (y := yX2_push) C (cX2_push_ (kL k) C.tr (kD k) N aS rV aV v z z' hz) (fun ht => cwV 1 ht gX4_goBack_X2_push rfl rfl rfl hdX2_push ⟨(Nat.le_of_ble_eq_true rfl), (Nat.le_of_ble_eq_true rfl)⟩) 10 rfl rfl [1, 2, 3, 4, 5, 6, 7, 8, 9, 10, 11, 12, 13, 14, 15, 16, 17, 18, 19, 20, 21, 22, 23, 24, 25, 26, 27, 28, 29, 30, 31, 32, 33, 34, 35, 36, 37, 38, 39, 40, 41, 42, 43, 44, 45, 46, 47, 48, 49, 50, 51, 52, 53, 54, 55, 56, 57, 58, 59, 60, 61, 62, 63, 64, 65] rfl (by decide) rfl rfl (Nat.le_of_ble_eq_true rfl) dX4_goBack_35 ⟨(Nat.le_of_ble_eq_true rfl), (Nat.le_of_ble_eq_true rfl)⟩) [1, 2, 3, 4, 5, 6, 7, 8, 9, 10, 11, 12, 13, 14, 15, 16, 17, 18, 19, 20, 21, 22, 23, 24, 25, 26, 27, 28, 29, 30, 31, 32, 33, 34, 35, 36, 37, 38, 39, 40, 41, 42, 43, 44, 45, 46, 47, 48, 49, 50, 51, 52, 53, 54, 55, 56, 57, 58, 59, 60, 61, 62, 63, 64, 65] [0, 66, 67, 68, 69, 70, 71, 72, 73, 74, 75] rfl rfl rfl (by decide) (fun _ _ h => h.elim) (fun rv w1 hp => ?_)
    obtain ⟨rfl, a, rfl⟩ := hp
    refine g_stack (st' := []) rfl ?_
    refine g_aload_n (pc := 38) (x := rG) C dX4_goBack_38 rfl ?_
    refine g_getf (pc := 39) C 0 rfl rfl inX4_goBack_X4 0 (by decide) lkX4_goBack_12 rfl rfl dX4_goBack_39 ?_
    refine g_aload_n (pc := 42) (x := aP 0) C dX4_goBack_42 rfl ?_
    refine g_callG (pc := 43) (wc := wS (kD k) aS v ++ wS (kD k) aP s) (wr := wG (kD k) rG (aS 0) rV rN rT ++ (wN (kD k) rN f ++ wV (kD k) rV a z')) (rest := []) C (gr_V (y := yX3_copyFrom) C (cX3_copyFrom_ (kL k) C.tr (kD k) N aS aP v s c hc) (fun ht => cwV 1 ht gX4_goBack_X3_copyFrom rfl rfl rfl hdX3_copyFrom ⟨(Nat.le_of_ble_eq_true rfl), (Nat.le_of_ble_eq_true rfl)⟩) 11 rfl rfl [11, 12, 13, 14, 15, 16, 17, 18, 19, 2, 3, 4, 5, 6, 7, 8, 9, 10] rfl (by decide) rfl rfl (Nat.le_of_ble_eq_true rfl) dX4_goBack_43 ⟨(Nat.le_of_ble_eq_true rfl), (Nat.le_of_ble_eq_true rfl)⟩) [11, 12, 13, 14, 15, 16, 17, 18, 19, 2, 3, 4, 5, 6, 7, 8, 9, 10] [0, 1, 20, 21, 22, 23, 24, 25, 26, 27, 28, 29, 30, 31, 32, 33, 34, 35, 36, 37, 38, 39, 40, 41, 42, 43, 44, 45, 46, 47, 48, 49, 50, 51, 52, 53, 54, 55, 56, 57, 58, 59, 60, 61, 62, 63, 64, 65, 66, 67, 68, 69, 70, 71, 72, 73, 74, 75] rfl rfl rfl (by decide) (fun _ _ h => h.elim) (fun rv w1 hp => ?_)
    obtain ⟨rfl, rfl⟩ := hp
    refine g_perm [0, 58, 59, 60, 61, 62, 63, 64, 65, 66, 2, 3, 4, 5, 6, 7, 8, 9, 10, 11, 12, 13, 14, 15, 16, 17, 18, 19, 20, 21, 22, 23, 24, 25, 26, 27, 28, 29, 30, 31, 32, 33, 34, 35, 36, 37, 38, 39, 40, 41, 42, 43, 44, 45, 46, 47, 48, 49, 50, 51, 52, 53, 54, 55, 56, 57, 1, 67, 68, 69, 70, 71, 72, 73, 74, 75] (ws' := (wG (kD k) rG (aS 0) rV rN rT ++ (wS (kD k) aS c ++ (wV (kD k) rV a z' ++ (wN (kD k) rN f ++ wS (kD k) aP s))))) rfl (by decide) ?_
    refine g_stack (st' := []) rfl ?_
    refine g_aload_n (pc := 46) (x := rG) C dX4_goBack_46 rfl ?_
    refine g_getf (pc := 47) C 0 rfl rfl inX4_goBack_X4 0 (by decide) lkX4_goBack_12 rfl rfl dX4_goBack_47 ?_
    refine g_getf (pc := 50) C 1 rfl rfl inX4_goBack_X3 8 (by decide) lkX4_goBack_68 rfl rfl dX4_goBack_50 ?_
    exact g_iret (v := sB c) C E dX4_goBack_53 (Nat.le_of_ble_eq_true rfl) (Nat.le_of_ble_eq_true rfl) ⟨(c, z'), a, rfl, rfl, rfl⟩
set_option maxRecDepth 100000 in
set_option maxHeartbeats 4000000 in
theorem cX4_goBack_ (l : Launch) (htr : l.stackTraces = false) (D : va_G) (N rG rV rN rT : Nat) (aS aV aP : Nat → Nat) (v : VS) (z : VV) (s : Option VS) (f : Nat → Option Nat) (p1 : Int32) (hs : vp_in p1 2 → f p1.toNatClampNeg = s.map (fun _ => aP 0)) (r : Nat ⊕ (VS × VV)) (hf : fX4_goBackTo N v z s p1 = some r) : Tc l D yX4_goBack wsX4_goBack rmX4_goBack [.ref rG, .int p1] (wG D rG (aS 0) rV rN rT ++ (wS D aS v ++ (wV D rV aV z ++ (wN D rN f ++ wO D aP s)))) (fun rv w => ∃ (b : VS × VV) (a : Nat → Nat), r = .inr b ∧ rv = some (.int (sB b.1)) ∧ w = (wG D rG (aS 0) rV rN rT ++ (wS D aS b.1 ++ (wV D rV a b.2 ++ (wN D rN f ++ wO D aP s))))) (fun X w => ∃ e, r = .inl e ∧ X = xnm e ∧ w = (wG D rG (aS 0) rV rN rT ++ (wS D aS v ++ (wV D rV aV z ++ (wN D rN f ++ wO D aP s))))) 2 12 := Tc_of htr (by decide +kernel) rfl (Nat.le_of_ble_eq_true rfl) (fun k C E hl hD => by subst hD; exact wkX4_goBack C N rG rV rN rT aS aV aP v z s f p1 hs r hf E)
