/-! the script's cell: the script is not among the cells of the world; a method of the law's own reads it -/
def LX (k : Kt) (b L : Nat) (xs : Nat → Int32) : Prop := va_X b L xs (kS k) (kS k).heap ∧ b < (kS k).heap.size ∧ ¬ kF k b
section LR
variable {k : Kt} {cc : ByteArray} {nL : Nat} {own nm : String} {Ts : List Cond} {rm : Room} {ws wc wr : va_W} {lv : List (Nat × Value)} {cs sl pc mc ms : Nat} {st st0 rest : List Value} {b L : Nat} {xs : Nat → Int32}
theorem g_xld (C : gC k cc nL own Ts rm nm) (X : LX k b L xs) {i v : Int32} (hin : vp_in i L) (hv : xs i.toNatClampNeg = v) (d : decode cc pc = .ok (.iaload, 1)) (h : gG k ws lv cs sl (pc + 1) (.int v :: st)) : gG k ws lv cs sl pc (.int i :: .ref b :: st) :=
  fun H locs ls hP hD hS hl => va_sld C.x C.b X.1 X.2.1 X.2.2 hS hin d (by rw [hv]; exact h H locs ls hP hD hS hl)
theorem g_xlen (C : gC k cc nL own Ts rm nm) (X : LX k b L xs) (d : decode cc pc = .ok (.arraylength, 1)) (h : gG k ws lv cs sl (pc + 1) (.int (Int32.ofNat L) :: st)) : gG k ws lv cs sl pc (.ref b :: st) :=
  fun H locs ls hP hD hS hl => va_slen C.x C.b X.1 X.2.1 X.2.2 hS d (h H locs ls hP hD hS hl)
/-- a call of a method that throws nothing -/
theorem g_callV (C : gC k cc nL own Ts rm nm) {Post : Option Value → va_W → Prop} (hp : List.Perm ws (wc ++ wr)) (run : gRun k (wc ++ wr) lv cs sl pc st0 rest wc Post (fun _ _ => False) mc ms) (kk : ∀ (rv : Option Value) (w1 : va_W), Post rv w1 → gG k (w1 ++ wr) lv (cs + mc) (sl + ms) (pc + 3) (rv.toList ++ rest)) : gG k ws lv cs sl pc st0 :=
  g_Perm hp (g_callG C run (List.range wc.length) ((List.range wr.length).map (fun i => i + wc.length)) (rg_map wc wr) (rg_map2 wc wr) (rg_nd2 _ _) (rg_dis _ _) (fun _ _ h => h.elim) (fun rv w h => g_Perm List.perm_append_comm (kk rv w h)))
end LR
def cq {α : Type} (i : Int32) (X : Option α) : Option α := if i < 0 then none else X
def cellI (L : Nat) (xs : Nat → Int32) (i : Int32) : Int32 := if i < nI L then xs i.toNatClampNeg else 795749149 * (i + 1)
abbrev rmL_cell : Room := { frames := 0, cells := 0, slots := 0, locals := 0 }
theorem hsL_cell : yL_cell.cls ≠ "java/lang/invoke/MethodHandle" ∧ yL_cell.cls ≠ "java/lang/invoke/VarHandle" ∧ (parseMethodDescriptor yL_cell.desc).map (fun d => d.parameters.length) = some 2 := by decide +kernel
theorem kcL_cell_7 : Jvm.Cond.constant RL 7 795749149 ∈ wsL_cell := by decide +kernel
def PCx (L : Nat) (xs : Nat → Int32) (i : Int32) : Option Value → va_W → Prop := fun rv w => rv = some (.int (cellI L xs i)) ∧ w = []
theorem wkL_cell {k : Kt} (C : gC k cL_cell 2 RL wsL_cell rmL_cell "cell") {b L : Nat} {xs : Nat → Int32} (X : LX k b L xs) (hL : L ≤ 260) (i : Int32) (hi : ¬ i < 0) (E : gE k [] (PCx L xs i) (fun _ _ => False) 0 0 (some .int) []) : gG k [] [(0, .ref b), (1, .int i)] 0 0 0 [] := by
  refine g_iload_n (pc := 0) (x := i) C dL_cell_0 rfl ?_
  refine g_aload_n (pc := 1) (x := b) C dL_cell_1 rfl ?_
  refine g_xlen (pc := 2) C X dL_cell_2 ?_
  by_cases c : nI L ≤ i
  · have e : cellI L xs i = 795749149 * (i + 1) := by exact if_neg (fun q => Int32.not_le.mpr q c)
    refine g_icmp_ge_t (pc := 3) (tgt := 12) C c dL_cell_3 (by decide) ?_
    refine g_ldc (pc := 12) (v := 795749149) C dL_cell_12 kcL_cell_7 ?_
    refine g_iload_n (pc := 14) (x := i) C dL_cell_14 rfl ?_
    refine g_iconst (pc := 15) (v := 1) C dL_cell_15 (by decide) ?_
    refine g_iadd (pc := 16) C dL_cell_16 ?_
    refine g_imul (pc := 17) C dL_cell_17 ?_
    exact g_iret C E dL_cell_18 (Nat.le_refl _) (Nat.le_refl _) ⟨by rw [e], rfl⟩
  · have e : cellI L xs i = xs i.toNatClampNeg := by exact if_pos (Int32.not_le.mp c)
    have hin : vp_in i L := by
      rintro (q | q)
      · exact hi q
      · apply c
        rw [Int32.le_iff_toInt_le, nI_toInt (by omega)]
        have q2 : L ≤ i.toInt.toNat := by exact q
        have q3 : ¬ i.toInt < (0 : Int32).toInt := by exact fun z => hi (Int32.lt_iff_toInt_lt.mpr z)
        have z : (0 : Int32).toInt = 0 := by rfl
        omega
    refine g_icmp_ge_f (pc := 3) (tgt := 12) C c dL_cell_3 (by decide) ?_
    refine g_aload_n (pc := 6) (x := b) C dL_cell_6 rfl ?_
    refine g_iload_n (pc := 7) (x := i) C dL_cell_7 rfl ?_
    refine g_xld (pc := 8) (v := xs i.toNatClampNeg) C X hin rfl dL_cell_8 ?_
    refine g_goto (pc := 9) (tgt := 18) C dL_cell_9 (by decide) ?_
    exact g_iret C E dL_cell_18 (Nat.le_refl _) (Nat.le_refl _) ⟨by rw [e], rfl⟩
def TBx (D : va_G) (sz b L : Nat) (xs : Nat → Int32) : State → Prop := fun U => TB D [] sz U ∧ va_X b L xs U U.heap ∧ b < sz
theorem TBx_blind {D : va_G} {sz b L : Nat} {xs : Nat → Int32} {args : List Value} : FrameBlind (va_Pc args (TBx D sz b L xs)) := fun a U g mk q => by
  obtain ⟨q0, ⟨q1, qP, qK, qD, qA⟩, qX, qB⟩ := q
  exact ⟨q0, ⟨q1, qP, va_K.moved (u := U) (U := U.calling g mk a) (Vm.Alike.refl U.vm) qK, qD, gAmb.same (u := U) (U := U.calling g mk a) rfl qA⟩, va_X.moved (u := U) (U := U.calling g mk a) (Vm.Alike.refl U.vm) qX, qB⟩
theorem not_va_A {b sz : Nat} (h : b < sz) : ¬ va_A [] sz b := by
  rintro (⟨k, e, q⟩ | q)
  · cases q
  · exact absurd h (Nat.not_lt.mpr q)
theorem mL_cell_ (l : Launch) (htr : l.stackTraces = false) (D : va_G) (b L : Nat) (xs : Nat → Int32) (hL : L ≤ 260) (i : Int32) (hi : ¬ i < 0) (sz : Nat) : vx_Met l yL_cell wsL_cell rmL_cell (va_Pc [.ref b, .int i] (TBx D sz b L xs)) (TQ D [] (PCx L xs i) sz) (TX D [] (fun _ _ => False) sz) 0 0 (va_A [] sz) := by
  refine vx_ofW (by decide +kernel) rfl ?_
  intro p e s m args' below meth c s₁ B hml hex hv
  obtain ⟨rfl, ⟨hsz, hP, hK, hD0, hAmb⟩, hX, hb⟩ := hv
  subst hsz
  have hts := atoms_spec (ws := wsL_cell) B.pre
  have hown : s.vm.findClass yL_cell.cls = some m.cls := findClass_of_methodNamed B.named
  have hnm : meth.name = yL_cell.name := (name_of_methodNamed B.named B.method).1
  have hl := lv_entry [.ref b, .int i] (n := 2) (Nat.le_of_ble_eq_true rfl)
  have hex' : c.exceptionTable.toList = [] := by
    cases h : c.exceptionTable.toList with
    | nil => rfl
    | cons x r => exact (hex x (by rw [h]; exact List.mem_cons_self)).elim
  rw [lg_entry_eq]
  exact wkL_cell (k := (p, l, e, (headSpec wsL_cell rmL_cell).room, s, m, [Value.ref b, Value.int i].toArray, below, meth, c, 2, D, va_A [] s.heap.size, vx_MQ below (TQ D [] (PCx L xs i) s.heap.size) (TX D [] (fun _ _ => False) s.heap.size) [Value.ref b, Value.int i].toArray s 0 0 (va_A [] s.heap.size)))
    ⟨B.exec, B.bytes, hml, hown, hts, hK, fun q h => Or.inr h, B.notSynchronized, rfl, hnm, hAmb, htr, rfl⟩ ⟨hX, hb, not_va_A hb⟩ hL i hi ⟨B.returns, hex', rfl, rfl⟩ s.heap [] _ hP hD0.self va_S.rf hl
theorem g_cell {k : Kt} {α : Type} {Y : Option α} {r : α} {cc : ByteArray} {nL : Nat} {own nm : String} {Ts : List Cond} {rm : Room} {ws : va_W} {lv : List (Nat × Value)} {cs sl pc ix : Nat} {rest : List Value} {bytes : ByteArray} {maxL : Nat} {ret : Option FieldType} {b L : Nat} {xs : Nat → Int32} {i : Int32} (hf : cq i Y = some r) (C : gC k cc nL own Ts rm nm) (X : LX k b L xs) (hL : L ≤ 260)
    (cw : (∀ w ∈ Ts, w.before (kA k) (kS k) = true) → CallB rm (kS k) (kA k) own ix yL_cell bytes maxL ret wsL_cell rmL_cell 0 0 2 ∧ (Cond.static yL_cell).before (kA k) (kS k) = true) (hW : (rest.map fun v => v.category).sum ≤ 8) (d : decode cc pc = .ok (.invokestatic ix, 3)) (hfit : cs + 0 ≤ rm.cells ∧ sl + 0 ≤ rm.slots)
    (h : Y = some r → gG k ws lv cs sl (pc + 3) (.int (cellI L xs i) :: rest)) : gG k ws lv cs sl pc (.int i :: .ref b :: rest) := by
  unfold cq at hf
  by_cases hi : i < 0
  · rw [if_pos hi] at hf
    cases hf
  rw [if_neg hi] at hf
  have run : gRun k ws lv cs sl pc (.int i :: .ref b :: rest) rest [] (PCx L xs i) (fun _ _ => False) 0 0 := by
    intro H locs ls hP hD hS hl
    have hb : b < H.size := by exact Nat.lt_of_lt_of_le X.2.1 hS.1
    have hX : va_X b L xs (kS k) H := by exact X.1.kept (hS.2.1 b X.2.1 X.2.2)
    refine ⟨_, vx_runS ⟨C.x, C.b, C.ml, C.ow, C.ts⟩ (mL_cell_ (kL k) C.tr (kD k) b L xs hL i hi H.size) (C.R ▸ cw C.ts) ⟨TBx_blind, fun U hU hW => ⟨rfl, TB_of C [] rfl rfl hP hD hS U hU hW, by rw [hU]; exact va_X.moved hW.alike hX, hb⟩⟩ rfl rfl hl.1 rfl ?_ d (C.R ▸ hfit)⟩
    show 2 * 0 + _ ≤ 8
    omega
  refine g_callG (wr := ws) C run [] (List.range ws.length) rfl ?_ (rg_nd _) (fun i _ q => absurd q List.not_mem_nil) (fun _ _ z => z.elim) (fun rv w1 z => ?_)
  · have e := rg_map ws ([] : va_W)
    rw [List.append_nil] at e
    exact e
  · obtain ⟨rfl, rfl⟩ := z
    rw [List.append_nil]
    exact h hf
