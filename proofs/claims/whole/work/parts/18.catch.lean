/-! methods that catch: their contracts, the row of a handler, the call of one -/
theorem met_ofH {l : Launch} {y : MethodName} {ws ws' : List Cond} {rm : Room} {Pc : Array Value → State → Prop} {Qc : Array Value → State → Outcome → State → Prop} {mc ms : Nat} {free : Addr → Prop} {cc : ByteArray} {maxL : Nat} {ret : Option FieldType} {hh : List (Nat × Nat × Nat × Nat)}
    (hy : plainName y.cls = true) (hw : ws = Cond.codeWith y cc maxL ret hh :: ws')
    (body : ∀ p e s m args below meth c s₁, BodyLoose p l y (headSpec ws rm) cc maxL ret e s m args below meth c s₁ → c.maxLocals = maxL → c.exceptionTable.toList = tableOf hh → Pc args s →
      W p l e (headSpec ws rm).room s m args below meth c s.heap [] 0 0 (MQ below Qc args s mc ms free) (entryFrame m args maxL)) : Met l y ws rm Pc Qc mc ms free := by
  refine MetFree.of_bodyS (code := cc) (maxLocals := maxL) (ret := ret) hy ?_ ?_
  · intro args s m h hn
    obtain ⟨m9, meth, c, hn9, h1, h2, h3, h4, -, h5, h6, -⟩ := Cond.codeWith_spec (atoms_spec (ws := ws) h _ (by rw [hw]; exact List.mem_cons_self))
    cases Option.some.inj (hn9.symm.trans hn)
    exact ⟨meth, c, h1, h2, h3, h4, h5, h6⟩
  · intro p e s m args below meth c s₁ B hml hP _
    have hh0 : s₁.heap = s.heap := by rw [B.state]; rfl
    have ht := vx_table (x := y) B (atoms_spec (ws := ws) B.pre _ (by rw [hw]; exact List.mem_cons_self))
    obtain ⟨t, a1, o, b1, b2, b3⟩ := body p e s m args below meth c s₁ B hml ht hP s₁ hh0 (Stand.of_body B)
    exact ⟨t, o, a1, b1, b2, ⟨b3.1, b3.2⟩⟩
/-- a method that throws nothing -/
def Tm (l : Launch) (D : va_G) (y : MethodName) (ws : List Cond) (rm : Room) (args : List Value) (w0 : va_W) (Post : Option Value → va_W → Prop) (mc ms : Nat) : Prop :=
  ∀ sz : Nat, Met l y ws rm (va_Pc args (TB D w0 sz)) (TQ D w0 Post sz) mc ms (va_A w0 sz)
def gEm (k : Kt) (w0 : va_W) (Post : Option Value → va_W → Prop) (mc ms : Nat) (ret : Option FieldType) (tab : List ExceptionTableEntry) : Prop :=
  (kMe k).sig.returnType = ret ∧ (kC k).exceptionTable.toList = tab ∧ kF k = va_A w0 (kS k).heap.size ∧
  kQ k = MQ (kB k) (TQ (kD k) w0 Post (kS k).heap.size) (kA k) (kS k) mc ms (va_A w0 (kS k).heap.size)
theorem Tm_of {l : Launch} {D : va_G} {y : MethodName} {ws ws' : List Cond} {rm : Room} {args : List Value} {w0 : va_W} {Post : Option Value → va_W → Prop} {mc ms : Nat} {cc : ByteArray} {maxL : Nat} {ret : Option FieldType} {hh : List (Nat × Nat × Nat × Nat)} (htr : l.stackTraces = false) (hy : plainName y.cls = true) (hw : ws = Cond.codeWith y cc maxL ret hh :: ws') (hlen : (lg_sl args).length ≤ maxL)
    (body : ∀ k : Kt, gC k cc maxL y.cls ws rm y.name → gEm k w0 Post mc ms ret (tableOf hh) → kL k = l → kD k = D → gG k w0 (lv_args 0 args) 0 0 0 []) : Tm l D y ws rm args w0 Post mc ms := by
  intro sz
  refine met_ofH hy hw ?_
  intro p e s m args' below meth c s₁ B hml hex hv
  obtain ⟨rfl, hsz, hP, hK, hD0, hAmb⟩ := hv
  subst hsz
  have hts := atoms_spec (ws := ws) B.pre
  have hown : s.vm.findClass y.cls = some m.cls := findClass_of_methodNamed B.named
  have hnm : meth.name = y.name := (name_of_methodNamed B.named B.method).1
  have hl := lv_entry args hlen
  rw [lg_entry_eq]
  exact body (p, l, e, (headSpec ws rm).room, s, m, args.toArray, below, meth, c, maxL, D, va_A w0 s.heap.size, MQ below (TQ D w0 Post s.heap.size) args.toArray s mc ms (va_A w0 s.heap.size))
    ⟨B.exec, B.bytes, hml, hown, hts, hK, fun q h => Or.inr h, B.notSynchronized, rfl, hnm, hAmb, htr, rfl⟩ ⟨B.returns, hex, rfl, rfl⟩ rfl rfl s.heap [] _ hP hD0.self va_S.rf hl
section GH
variable {k : Kt} {cc : ByteArray} {nL : Nat} {own nm : String} {Ts : List Cond} {rm rc : Room} {ws w0 wc wr : va_W} {lv : List (Nat × Value)} {cs sl pc mc ms n ix maxL : Nat} {st st0 rest As : List Value} {Post : Option Value → va_W → Prop} {ret : Option FieldType} {tab : List ExceptionTableEntry} {y : MethodName} {wy : List Cond} {bytes : ByteArray} {hh : List (Nat × Nat × Nat × Nat)}
theorem g_iretm (C : gC k cc nL own Ts rm nm) {v : Int32} (E : gEm k w0 Post mc ms (some .int) tab) (d : decode cc pc = .ok (.ireturn, 1)) (hc : cs ≤ mc) (hs : sl ≤ ms) (hp : Post (some (.int v)) ws) : gG k ws lv cs sl pc [.int v] := by
  intro H locs ls hP hD hS hl
  have hlk := C.lk
  have hq := TQ_of C E.2.2.1 hp hP hD hS
  have hf : ∀ q ∈ locs, va_A w0 (kS k).heap.size q.base := by rw [← E.2.2.1]; exact hS.2.2
  refine W.widen hc hs ?_
  rw [E.2.2.2]
  exact W.iret C.x C.b E.1 hq hf d (hlocks := hlk)
/-- caught here -/
theorem g_catch (C : gC k cc nL own Ts rm nm) (htab : (kC k).exceptionTable.toList = tab) {E name : String} (pre : List ExceptionTableEntry) (x : ExceptionTableEntry) (suf : List ExceptionTableEntry) (hsplit : tab = pre ++ x :: suf)
    (hpass : ∀ z ∈ pre, ∃ nm : String, z.catchType ≠ 0 ∧ Cond.classLink own z.catchType nm ∈ Ts ∧ (E, nm) ∈ gNc) (hx : covers x pc = true) (h0 : x.catchType ≠ 0) (hlink : Cond.classLink own x.catchType name ∈ Ts) (hcast : Cond.castable E name ∈ gWd)
    (h : ∀ q : Nat, gG k ws lv cs sl x.handlerPc [.ref q]) : gX k ws lv cs sl pc rest E :=
  fun H locs ls ce q9 hP hD hS hl hce hcv hcl => vx_catch C.ow pre x suf (htab.trans hsplit) (fun z hz => by
    obtain ⟨nm, h1, h2, h3⟩ := hpass z hz
    exact Or.inr ⟨h1, nm, C.ts _ h2, C.amb.2.2.2.2.2.2 _ h3⟩) hx h0 (C.ts _ hlink) (va_Nw.use rfl (C.amb.2.2.2.2.2.1 _ hcast)) hce hcv hcl (h q9 H locs ls hP hD hS hl)
/-- a call of a method that throws nothing, its blocks first -/
theorem g_callM (C : gC k cc nL own Ts rm nm) (hp : List.Perm ws (wc ++ wr)) (hM : Tm (kL k) (kD k) y wy rc As wc Post mc ms) (cw : (∀ w ∈ Ts, w.before (kA k) (kS k) = true) → vx_CSW rm (kS k) (kA k) own ix y bytes maxL ret hh wy rc mc ms n)
    (hn : As.length = n) (hst : st0 = As.reverse ++ rest) (hW : (rest.map fun v => v.category).sum ≤ 8) (d : decode cc pc = .ok (.invokestatic ix, 3)) (hf : cs + mc ≤ rm.cells ∧ sl + ms ≤ rm.slots)
    (kk : ∀ (rv : Option Value) (w1 : va_W), Post rv w1 → gG k (w1 ++ wr) lv (cs + mc) (sl + ms) (pc + 3) (rv.toList ++ rest)) : gG k ws lv cs sl pc st0 := by
  refine g_Perm hp ?_
  intro H locs ls hP hD hS hl T hT X
  have hC := rg_map wc wr
  have hnd := rg_nd wc.length
  have hF := va_free hD hS C.A (List.range wc.length) hC
  have run := vx_runSW (p := kP k) (l := kL k) (e := kE k) (R := kR k) (s := kS k) (m := kM k) (args := kA k) (below := kB k) (meth := kMe k) (c := kC k) (H := H) (locs := locs) (cells := cs) (slots := sl) (g := F0 (kM k) pc ls st0) (rest := rest) ⟨C.x, C.b, C.ml, C.ow, C.ts⟩ (hM H.size) (C.R ▸ cw C.ts) ⟨TB_blind, fun U hU hW => ⟨rfl, TB_of C (List.range wc.length) hC hnd hP hD hS U hU hW⟩⟩ rfl hn hl.1 hst (by show 2 * 0 + _ ≤ 8; omega) d (C.R ▸ hf)
  obtain ⟨v, st₀, t, T', L, h0, X', hL, e1, e2, ⟨⟨rv, w1, hv, hq, hP1, hK1, hD1⟩, hFr⟩, stp⟩ := run T hT X
  cases hv
  obtain ⟨k1, k2, k3⟩ := vx_keep h0 e1 hS (fun q _ h => hF q h) hF hL hFr
  obtain ⟨hP2, hD2⟩ := va_join (H1 := T'.heap) hP hD (List.range wc.length) ((List.range wr.length).map (fun i => i + wc.length)) hC (rg_map2 wc wr) (rg_nd2 _ _) (rg_dis _ _) k2 hF (by rw [e1]; exact hP1) hD1
  obtain ⟨t2, a1, b1⟩ := kk v w1 hq T'.heap (locs ++ L) ls (vp_perm List.perm_append_comm hP2) (vd_perm List.perm_append_comm hD2) k3 hl T' rfl X'
  exact ⟨t2, stp t2 a1, b1⟩
end GH
theorem cs_xnm : Cond.castable xIAE xIAE ∈ gWd ∧ Cond.castable xISE xISE ∈ gWd ∧ Cond.castable xIOB xIOB ∈ gWd := by decide +kernel
