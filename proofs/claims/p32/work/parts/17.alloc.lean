/-! rows that make cells: objects, arrays, the clone of the settings -/
section GA
variable {k : Kt} {cc : ByteArray} {nL : Nat} {own nm : String} {Ts : List Cond} {rm : Room} {ws : va_W} {lv : List (Nat × Value)} {cs sl pc : Nat} {st : List Value}
theorem g_objInit (C : gC k cc nL own Ts rm nm) {ix a : Nat} (h1 : Cond.methodLink own ix objectInit ∈ Ts) (h2 : Cond.instanceMethod objectInit ∈ Ts) (h3 : Cond.code objectInit ⟨#[0xb1]⟩ 1 none ∈ Ts) (hf : 1 ≤ rm.frames) (hL : 12 ≤ rm.locals) (d : decode cc pc = .ok (.invokespecial ix, 3)) (h : gG k ws lv cs sl (pc + 3) []) : gG k ws lv cs sl pc [.ref a] :=
  fun H locs ls hP hD hS hl => W.objInit (g := F0 (kM k) pc ls [.ref a]) C.x C.b C.ow (C.ts _ h1) (C.ts _ h2) (C.ts _ h3) rfl (by rw [C.ml]; exact hl.1) rfl d (C.R ▸ hf) (C.R ▸ hL) (W.eq (g2 := F0 (kM k) (pc + 3) ls []) rfl (h H locs ls hP hD hS hl))
theorem g_new (C : gC k cc nL own Ts rm nm) {E : String} {T : u_T} {N ci ix : Nat} (hcl : Cond.classLink own ix E ∈ Ts) (hinst : Cond.instantiable E N ∈ Ts) (hini : Cond.initialized E ∈ Ts) (hin : ∀ w ∈ u_ws E T N, w ∈ Ts) (ty : Nat → FieldType) (hty : ∀ k, k < N → parseFieldDescriptor (T k).2.2.1 = some (ty k)) (hc : vwCl[ci]? = some (E, T, N)) {fs : List Value} (hfs : ∀ j, j < N → defaultValue (ty j) = vp_V fs j) (hcs : cs + 1 ≤ rm.cells) (hsl : sl + N ≤ rm.slots) (d : decode cc pc = .ok (.new ix, 3)) (h : ∀ q : Nat, gG k (ws ++ [(q, .inr (ci, fs))]) lv (cs + 1) (sl + N) (pc + 3) (.ref q :: st)) : gG k ws lv cs sl pc st :=
  fun H locs ls hP hD hS hl => va_new C.x C.b C.ts hin ty hty C.ow (C.ts _ hcl) (C.ts _ hinst) (C.ts _ hini) C.K hP hD hS C.A hc hfs (C.R ▸ hcs) (C.R ▸ hsl) d (fun q H1 hP hD hS => h q H1 locs ls hP hD hS hl)
theorem g_newI (C : gC k cc nL own Ts rm nm) {n : Int32} {N : Nat} (hw : Cond.arrayClass .int ∈ Ts) (hn : ¬ n < 0) (hN : n.toNatClampNeg = N) (hb : N * 4 ≤ 536870912) (hcs : cs + 1 ≤ rm.cells) (hsl : sl + N ≤ rm.slots) (d : decode cc pc = .ok (.newarray .int, 2)) (h : ∀ q : Nat, gG k (ws ++ [(q, .inl ((kD k).1 100, N, .inl (fun _ => 0)))]) lv (cs + 1) (sl + N) (pc + 2) (.ref q :: st)) : gG k ws lv cs sl pc (.int n :: st) :=
  fun H locs ls hP hD hS hl => va_newa (atype := .int) (ty := .int) (a0 := (N, .inl (fun _ => 0))) C.x C.b (C.ts _ hw) rfl C.K hP hD hS C.A (fun _ => rfl) hn hN hb (C.R ▸ hcs) (C.R ▸ hsl) d (fun q cA H1 hK hP hD hS => by
    have e : cA = (kD k).1 100 := Option.some.inj ((hK.2 2 _ rfl).2.symm.trans (C.K.2 0 _ rfl).2)
    subst e
    exact h q H1 locs ls hP hD hS hl)
theorem g_newQ (C : gC k cc nL own Ts rm nm) {n : Int32} {N ix : Nat} (hw : Cond.classLink own ix "GaugeBlocks$State" ∈ Ts) (hn : ¬ n < 0) (hN : n.toNatClampNeg = N) (hb : N * 4 ≤ 536870912) (hcs : cs + 1 ≤ rm.cells) (hsl : sl + N ≤ rm.slots) (d : decode cc pc = .ok (.anewarray ix, 3)) (h : ∀ q : Nat, gG k (ws ++ [(q, .inl ((kD k).1 103, N, .inr (.inr (.inr (.inr (fun _ => none))))))]) lv (cs + 1) (sl + N) (pc + 3) (.ref q :: st)) : gG k ws lv cs sl pc (.int n :: st) := by
  obtain ⟨t, cell, z1, z2, z3, z4, z5, z6, z7, z8, z9⟩ := C.amb.2.2.1
  exact fun H locs ls hP hD hS hl => va_newq C.x C.b C.ow (C.ts _ hw) z9 C.K hP hD hS C.A hn hN hb (C.R ▸ hcs) (C.R ▸ hsl) d (fun q cA H1 hK hP hD hS => by
    obtain ⟨_, _, _, _, _, e1⟩ := (hK.2 2 _ rfl).2
    obtain ⟨_, _, _, _, _, e2⟩ := (C.K.2 1 _ rfl).2
    have e : cA = (kD k).1 103 := Option.some.inj (e1.symm.trans e2)
    subst e
    exact h q H1 locs ls hP hD hS hl)
theorem stA_cell {cI : ClassId} {cell : Cell} (h1 : cell.cls = cI) (h4 : cell.slots.size = 4) (h5 : ∀ j : Nat, j < 4 → cell.slots[j]? = some (.int (stA j))) : ({ cls := cell.cls, slots := cell.slots } : Cell) = vp_cell cI (4, .inl stA) := by
  have e : cell.slots = (arrV cI 4 (fun j => .int (stA j))).slots := by
    refine Array.ext_getElem? (fun i => ?_)
    by_cases hi : i < 4
    · rw [h5 i hi, arrV_read cI (fun j => .int (stA j)) hi]
    · rw [Array.getElem?_eq_none (by omega), Array.getElem?_eq_none (by rw [arrV_size]; omega)]
  rw [e, h1]
  rfl
/-- the settings at first, got, cloned and cast -/
theorem g_settings (C : gC k cc nL RX3 wsX3_init rm nm) (hf : 1 ≤ rm.frames) (hw : (st.map fun v => v.category).sum + 14 ≤ rm.locals) (hcs : cs + 1 ≤ rm.cells) (hsl : sl + 4 ≤ rm.slots) (d1 : decode cc pc = .ok (.getstatic 33, 3)) (d2 : decode cc (pc + 3) = .ok (.invokevirtual 36, 3)) (d3 : decode cc (pc + 3 + 3) = .ok (.checkcast 37, 3)) (h : ∀ q : Nat, gG k (ws ++ [(q, .inl ((kD k).1 100, 4, .inl stA))]) lv (cs + 1) (sl + 4) (pc + 3 + 3 + 3) (.ref q :: st)) : gG k ws lv cs sl pc st := by
  obtain ⟨t, cell, z1, z2, z3, z4, z5, z6, z7, z8, z9⟩ := C.amb.2.2.1
  have hc : cell.cls = (kD k).1 100 := Option.some.inj (z6.symm.trans (C.K.2 0 _ rfl).2)
  have w1 := C.amb.2.2.2.2.2.1 (.fieldLinkNest RX3 33 "GaugeBlocks" "SETTINGS_AT_FIRST" "[I" "GaugeBlocks") (by decide +kernel)
  have w2 := C.amb.2.2.2.2.2.1 (.castable "[I" "java/lang/Cloneable") (by decide +kernel)
  intro H locs ls hP hD hS hl
  refine va_getsN C.x C.b z1 hS C.ow (va_Nw.use rfl w1) (fun _ h => h) d1 ?_
  obtain ⟨c0, t0', f1, f2, f3⟩ := Cond.castable_spec (va_Nw.use (A := kA k) rfl w2)
  cases z6.symm.trans f1
  intro T hT X
  have hcellT : T.heap[t]? = some cell := by
    rw [hT]
    exact (hS.2.1 t (Array.getElem?_eq_some_iff.mp z2).1 z3).trans z2
  obtain ⟨-, kA1, hkA, comp, hkind⟩ := State.isArrayOf_alike X.warmed.alike ((C.K.2 0 _ rfl).1 0 (fun _ => .null))
  obtain ⟨-, kS1, hkS, compS, hkindS⟩ := (C.K.2 0 _ rfl).1 0 (fun _ => .null)
  have hsz : cell.slots.size = 4 := z4
  obtain ⟨vm', X', st9⟩ := X.cloneArray C.x C.ow (C.ts (.methodLink RX3 36 ⟨"[I", "clone", "()Ljava/lang/Object;"⟩) (by decide +kernel)) (C.ts (.sameMethod "[I" "java/lang/Object" "clone" "()Ljava/lang/Object;") (by decide +kernel)) (C.ts (.native ⟨"java/lang/Object", "clone", "()Ljava/lang/Object;"⟩) (by decide +kernel)) (C.ts (.instanceMethod ⟨"java/lang/Object", "clone", "()Ljava/lang/Object;"⟩) (by decide +kernel)) (C.ts (.selects "[I" ⟨"[I", "clone", "()Ljava/lang/Object;"⟩ ⟨"java/lang/Object", "clone", "()Ljava/lang/Object;"⟩) (by decide +kernel)) (a := t) (cell := cell) hcellT (fun k h => by rw [h] at z7; cases z7) z8 z6 f2 f3
    (fun i v hv => by
      have hi : i < 4 := by
        have := (Array.getElem?_eq_some_iff.mp hv).1
        omega
      have hv2 : v = .int (stA i) := Option.some.inj (hv.symm.trans (z5 i hi))
      subst hv2
      rw [hc]
      have hk' : T.vm.classes[(kD k).1 100]? = some kA1 := hkA
      have hft : fits .int (.int (stA i)) = true := rfl
      simpa [State.fitsSlot, State.slotType?, hk', hkind] using hft)
    (g := F0 (kM k) (pc + 3) ls (.ref t :: st)) rfl (by rw [C.ml]; exact hl.1) rfl (by rw [C.b]; exact d2) (C.R ▸ hf) (by rw [C.R]; show 2 * 0 + _ + 14 ≤ _; omega) (C.R ▸ hcs) (by rw [hsz, C.R]; exact hsl) (hloader := by rw [hc]; exact Vm.clonesLoader_of_array hkS hkindS)
  rw [stA_cell hc z4 z5, hsz] at X'
  generalize hH1 : H.push (vp_cell ((kD k).1 100) (4, .inl stA)) = H1
  have e1 : H1[H.size]? = some (vp_cell ((kD k).1 100) (4, .inl stA)) := by rw [← hH1, Array.getElem?_push_size]
  have z1 : H1.size = H.size + 1 := by rw [← hH1, Array.size_push]
  have o1 : ∀ q : Nat, q < H.size → H1[q]? = H[q]? := fun q hq => by rw [← hH1, Array.getElem?_push, if_neg (Nat.ne_of_lt hq)]
  have hk : ∀ (k : Nat) (y : Nat × va_E), ws[k]? = some y → H1[y.1]? = H[y.1]? := fun k y hy => o1 y.1 ((hP k y hy).lt)
  have hP1 : va_P (kD k) vwCl (ws ++ [(H.size, .inl ((kD k).1 100, 4, .inl stA))]) H1 := (hP.kept hk).app (fun k y hy => by
    have hz : k < 1 := (List.getElem?_eq_some_iff.mp hy).1
    rw [show k = 0 by omega] at hy
    cases hy
    exact e1)
  have hD1 : va_D (kF k) (ws ++ [(H.size, .inl ((kD k).1 100, 4, .inl stA))]) := hD.push hP rfl (C.A _ hS.1)
  have hS1 : va_S (kF k) (kS k).heap H1 locs := ⟨Nat.le_trans hS.1 (by omega), fun y h1 h2 => (o1 y (Nat.lt_of_lt_of_le h1 hS.1)).trans (hS.2.1 y h1 h2), hS.2.2⟩
  obtain ⟨t2, b1, b2⟩ := (va_castA C.x C.b C.ow (C.ts (.classLink RX3 37 "[I") (by decide +kernel)) hP1 ws.length (by rw [List.getElem?_append_right (Nat.le_refl _), Nat.sub_self]; rfl) (C.K.2 0 _ rfl).2 d3 (h H.size H1 locs ls hP1 hD1 hS1 hl) : W (kP k) (kL k) (kE k) (kR k) (kS k) (kM k) (kA k) (kB k) (kMe k) (kC k) H1 locs (cs + 1) (sl + 4) (kQ k) (F0 (kM k) (pc + 3 + 3) ls (.ref H.size :: st)))
    ((T.setVm vm').pushCell (vp_cell ((kD k).1 100) (4, .inl stA))) (by rw [← hH1, ← hT]; rfl) X'
  refine ⟨t2, st9 t2 ?_, b2⟩
  rw [stA_cell hc z4 z5, hT]
  exact b1
end GA
