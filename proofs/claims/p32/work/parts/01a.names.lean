/-! ===== BEGIN words of one list among another's, by their places ===== -/
theorem goodIn_r {big : List Cond} (ws : List Cond) (ps : List Nat) (hp : ws = ps.filterMap (fun i => big[i]?)) (h : ws.all goodWord = true) : GoodIn big ws := by
  intro w hw
  have h1 := List.all_eq_true.mp h w hw
  rw [hp] at hw
  obtain ⟨i, -, hi⟩ := List.mem_filterMap.mp hw
  have hm : w ∈ big := by first | exact List.mem_of_getElem? hi | exact List.getElem?_mem hi
  exact ⟨hm, good_of_word h1⟩
theorem goodIn_app {big a b : List Cond} (ha : GoodIn big a) (hb : GoodIn big b) : GoodIn big (a ++ b) := fun w h => (List.mem_append.mp h).elim (ha w) (hb w)
theorem goodIn_ca {big a b : List Cond} {c : Cond} (ha : GoodIn big (c :: a)) (hb : GoodIn big b) : GoodIn big (c :: (a ++ b)) := fun w h => (List.mem_cons.mp h).elim (fun e => ha w (List.mem_cons.mpr (Or.inl e))) (fun h => (List.mem_append.mp h).elim (fun h => ha w (List.mem_cons.mpr (Or.inr h))) (hb w))
theorem goodIn_sub {big ws : List Cond} (hm : ∀ w ∈ ws, w ∈ big) (h : ws.all goodWord = true) : GoodIn big ws := fun w hw => ⟨hm w hw, good_of_word (List.all_eq_true.mp h w hw)⟩
/-! ===== END ===== -/

/-! ===== BEGIN exceptions that leave a method, and their catching by the caller (launches without stack traces) ===== -/
section VXA
/-! The laws vx_back, vx_callV, vx_callS, vx_callSW, vx_throw0, vx_throwS follow proofs of the library, with one case more: JvmDerived/Free/Laws.lean (Back.of_free), Shelf42/LK1.lean (callV, callS), Shelf/KitTraced.lean (throwNew0V, throwNewS). -/
/-- where a method has thrown q: the class by its name, the cell, what was written, the world -/
def vx_T (XC : String → State → State → Prop) (st : State) (q : Addr) (t : State) (mc ms : Nat) (free : Addr → Prop) : Prop :=
  ∃ (E : String) (ce : Cell) (L : List Loc), XC E st t ∧ t.heap[q]? = some ce ∧ ce.vm = .none ∧ st.vm.findClass E = some ce.cls ∧ st.WarmedH t.vm ∧ st.sameButNew ({ t with vm := st.vm } : State) L mc ms ∧ ∀ z ∈ L, free z.base
def vx_Q (Qc : Array Value → State → Outcome → State → Prop) (XC : String → State → State → Prop) (mc ms : Nat) (free : Addr → Prop) : Array Value → State → Outcome → State → Prop := fun a st o t =>
  (Qc a st o t ∧ ∃ L, FrameEnd st o t L mc ms ∧ ∀ q ∈ L, free q.base) ∨ ∃ q, o = .threw q ∧ vx_T XC st q t mc ms free
/-- a callee that returns or throws -/
def vx_Met (l : Launch) (y : MethodName) (ws : List Cond) (rm : Room) (Pc : Array Value → State → Prop) (Qc : Array Value → State → Outcome → State → Prop) (XC : String → State → State → Prop) (mc ms : Nat) (free : Addr → Prop) : Prop :=
  MetFree l y (headSpec ws rm) Pc (fun _ _ _ _ _ => True) (vx_Q Qc XC mc ms free)
def vx_Post (XC : String → State → State → Prop) (mc ms : Nat) (free : Addr → Prop) : Pt → Array Value → Addr → Pt → Prop := fun A a q B =>
  ∃ (g : JFrame) (mk : MethodId) (t : State) (L : List Loc) (E : String) (ce : Cell), B.U.heap = t.heap ∧ B.U.vm = t.vm ∧ XC E (A.U.calling g mk a) t ∧ t.heap[q]? = some ce ∧ ce.vm = .none ∧ A.U.vm.findClass E = some ce.cls ∧ B.locs = A.locs ++ L ∧ (∀ z ∈ L, free z.base) ∧ B.cells = A.cells + mc ∧ B.slots = A.slots + ms
def vx_Back (l : Launch) (R : Room) (p : Program) (e : Env) (below : List Frame) (s : State) (sargs : Array Value) (y : MethodName) (len W9 : Nat)
    (Pre : Pt → Array Value → Prop) (Post : Pt → Array Value → Option Value → Pt → Prop) (PostX : Pt → Array Value → Addr → Pt → Prop) : Prop :=
  ∀ (m : MethodId) (meth : Method) (c : Code) (A : Pt) (g : JFrame) (ig : Instr) (mk : MethodId) (a : Array Value),
    Stand p l e R s m sargs below meth c A.U A.locs A.cells A.slots → g.method = m → g.locals.size = c.maxLocals → decode c.code g.pc = .ok (ig, len) →
    2 * g.monitorRoom + (g.stack.map fun v => v.category).sum ≤ W9 → A.U.methodNamed? y = some mk → Pre A a →
    (∃ (v : Option Value) (B : Pt), Stand p l e R s m sargs below meth c B.U B.locs B.cells B.slots ∧ Post A a v B ∧
      Steps p.tables e below (doInvoke e (A.U.setTop g) [] mk a).1 (B.U.setTop { g with pc := g.pc + len, stack := v.toList ++ g.stack })) ∨
    (∃ (q : Addr) (B : Pt), Stand p l e R s m sargs below meth c B.U B.locs B.cells B.slots ∧ PostX A a q B ∧
      Steps p.tables e below (doInvoke e (A.U.setTop g) [] mk a).1 ((B.U.setTop g).pushFrame (.throwing q)))
section Payer
variable {l : Launch} {R : Room} {p : Program} {e : Env} {below : List Frame} {s : State} {sargs : Array Value} {y : MethodName} {len W9 : Nat}
theorem vx_back {ws : List Cond} {rm : Room} {Pc : Array Value → State → Prop} {Qc : Array Value → State → Outcome → State → Prop} {XC : String → State → State → Prop} {mc ms : Nat} {free : Addr → Prop} {bytes : ByteArray} {maxL : Nat} {ret : Option FieldType}
    (hM : vx_Met l y ws rm Pc Qc XC mc ms free) (hblind : FrameBlind Pc) (hrc : rm.cells = mc) (hrs : rm.slots = ms)
    (hframes : rm.frames + 1 ≤ R.frames) (hlocals : W9 + (maxL + 11) + rm.locals ≤ R.locals)
    (hws : ∀ w ∈ ws, ∀ a' U, s.WarmedH U.vm → w.before a' U = true) (hcode : Cond.code y bytes maxL ret ∈ ws) (hinit : ∀ a' U, s.WarmedH U.vm → (Cond.initialized y.cls).before a' U = true) :
    vx_Back l R p e below s sargs y len W9 (PreOf R mc ms Pc) (PostOf Qc mc ms free) (vx_Post XC mc ms free) := by
  intro m meth c A g ig mk a X hg hsize hdg hW hn hp
  have h1 : (headSpec ws rm).pre.before a A.U = true := atoms_intro fun w hw => hws w hw _ _ X.warmed
  have h2 : (Cond.code y bytes maxL ret).before a A.U = true := hws _ hcode _ _ X.warmed
  have h3 : (Cond.initialized y.cls).before a A.U = true := hinit _ _ X.warmed
  have h4 : A.cells + (headSpec ws rm).room.cells ≤ R.cells := by rw [show (headSpec ws rm).room.cells = mc from hrc]; exact hp.1
  have h5 : A.slots + (headSpec ws rm).room.slots ≤ R.slots := by rw [show (headSpec ws rm).room.slots = ms from hrs]; exact hp.2.1
  have hPc : Pc a (A.U.calling g mk a) := hblind _ _ _ _ hp.2.2
  obtain ⟨U, Ls, c0, s0⟩ := A
  dsimp only [Pt.U, Pt.locs, Pt.cells, Pt.slots] at h1 h2 h3 h4 h5 X hn hPc ⊢
  obtain ⟨methY, cY, hmY, hcY, -, hlY, -, -, -, -⟩ := Cond.code_spec hn h2
  obtain ⟨kY, hkY, -⟩ := className_of_methodNamed hn
  have hinitY : kY.init = .initialized := Cond.initialized_spec (findClass_of_methodNamed hn) hkY h3
  have h : At U g.method c below := by rw [hg]; exact X.here
  have hlocals9 : W9 + (maxL + 11) + (headSpec ws rm).room.locals ≤ R.locals := hlocals
  have happ : (headSpec ws rm).appliesLoose y e.platform (U.calling g mk a) = true :=
    Spec.appliesLoose_calling (g := g) h hdg hn hkY hinitY
      (X.room_calling (g := g) (R' := (headSpec ws rm).room) hsize hmY hcY hframes (by rw [hlY]; omega) h4 h5) h1
  obtain ⟨mid, hmid⟩ := h.above
  have hfr : (U.setTop g).frames = (.java g :: mid) ++ below := by rw [State.frames_setTop' g h.top, hmid]; rfl
  obtain ⟨o, s₂, hsteps, -, hend, hq⟩ := Steps.callFree hM p X.admits X.cas X.clock (acts := []) hfr happ hPc trivial
  have hq' : vx_Q Qc XC mc ms free a (U.calling g mk a) o s₂ := hq
  rw [State.frames_setTop' g h.top] at hend
  obtain ⟨g₀, hg0⟩ := Option.isSome_iff_exists.mp h.top
  obtain ⟨r, hr⟩ := State.topJava?_eq_some.mp hg0
  have hr' : (({ U with heap := s₂.heap, slotsUsed := s₂.slotsUsed } : State).setVm s₂.vm).frames = .java g₀ :: r := hr
  rcases hq' with ⟨hqc, L, hfe, hL⟩ | ⟨q, rfl, E, ce, L, hx, hce, hcv, hcl, hW₂, hsm, hL⟩
  · obtain ⟨⟨v, rfl⟩, hW₂, e2, q2, q3, q4, q5, q6⟩ := id hfe
    have e3 : s₂ = ({ (U.calling g mk a).setFrames s₂.frames with heap := s₂.heap, slotsUsed := s₂.slotsUsed } : State).setVm s₂.vm := by
      have : s₂ = ({ s₂ with vm := (U.calling g mk a).vm } : State).setVm s₂.vm := rfl
      rw [e2] at this
      exact this
    obtain ⟨c₂, i₂, len₂, hc₂, hd₂, hf₂⟩ := hend
    have hW' : U.WarmedH s₂.vm := hW₂
    have hcc : c₂ = c := by
      have h1 : s₂.code? g.method = U.code? g.method := by
        rw [State.code?_eq, State.code?_eq, hW'.alike.method?]
      exact Option.some.inj (hc₂.symm.trans (h1.trans h.code))
    subst hcc
    have hlen : len₂ = len := by rw [hdg] at hd₂; cases hd₂; rfl
    subst hlen
    have hs₂ : s₂ = (({ U with heap := s₂.heap, slotsUsed := s₂.slotsUsed } : State).setVm s₂.vm).setTop { g with pc := g.pc + len₂, stack := v.toList ++ g.stack } := by
      refine e3.trans ?_
      rw [hf₂, State.calling_eq h.top, State.setFrames_setFrames, State.setTop_of_frames _ hr', hr]
      rfl
    have hsame : U.sameButNew ({ U with heap := s₂.heap, slotsUsed := s₂.slotsUsed } : State) L mc ms := by
      refine ⟨?_, q2, q3, q4, q5, q6⟩
      obtain ⟨t, ht, -⟩ := State.frames_cons hr
      show ({ U with heap := s₂.heap, slotsUsed := s₂.slotsUsed } : State) = { U.setFrames U.frames with heap := s₂.heap, slotsUsed := s₂.slotsUsed }
      rw [State.setFrames_self ht]
    subst hg
    refine Or.inl ⟨v, ⟨(({ U with heap := s₂.heap, slotsUsed := s₂.slotsUsed } : State).setVm s₂.vm), Ls ++ L, c0 + mc, s0 + ms⟩,
      ⟨X.admits, X.cas, X.clock, X.frames, X.room, X.hears, X.method, X.code, (X.here.setHeapUsed s₂.heap s₂.slotsUsed).setVm hW'.alike, X.tail, State.WarmedH.trans X.warmed hW', X.limits, X.bytes, X.same.trans (hsame.setVm s.vm)⟩,
      ⟨g, mk, s₂, L, rfl, rfl, hqc, rfl, hL, rfl, rfl⟩, ?_⟩
    show Steps p.tables e below _ ((({ U with heap := s₂.heap, slotsUsed := s₂.slotsUsed } : State).setVm s₂.vm).setTop { g with pc := g.pc + len₂, stack := v.toList ++ g.stack })
    rw [← hs₂]
    exact hsteps
  · obtain ⟨e2, q2, q3, q4, q5, q6⟩ := id hsm
    have e3 : s₂ = ({ (U.calling g mk a).setFrames s₂.frames with heap := s₂.heap, slotsUsed := s₂.slotsUsed } : State).setVm s₂.vm := by
      have : s₂ = ({ s₂ with vm := (U.calling g mk a).vm } : State).setVm s₂.vm := rfl
      rw [e2] at this
      exact this
    have hf₂ : s₂.frames = .throwing q :: .java g :: U.frames.tail := hend
    have hW' : U.WarmedH s₂.vm := hW₂
    have hs₂ : s₂ = ((({ U with heap := s₂.heap, slotsUsed := s₂.slotsUsed } : State).setVm s₂.vm).setTop g).pushFrame (.throwing q) := by
      refine e3.trans ?_
      rw [hf₂, State.calling_eq h.top, State.setFrames_setFrames, State.pushFrame, State.frames_setTop _ hr', State.setTop_of_frames _ hr', State.setFrames_setFrames, hr]
      rfl
    have hsame : U.sameButNew ({ U with heap := s₂.heap, slotsUsed := s₂.slotsUsed } : State) L mc ms := by
      refine ⟨?_, q2, q3, q4, q5, q6⟩
      obtain ⟨t, ht, -⟩ := State.frames_cons hr
      show ({ U with heap := s₂.heap, slotsUsed := s₂.slotsUsed } : State) = { U.setFrames U.frames with heap := s₂.heap, slotsUsed := s₂.slotsUsed }
      rw [State.setFrames_self ht]
    subst hg
    refine Or.inr ⟨q, ⟨(({ U with heap := s₂.heap, slotsUsed := s₂.slotsUsed } : State).setVm s₂.vm), Ls ++ L, c0 + mc, s0 + ms⟩,
      ⟨X.admits, X.cas, X.clock, X.frames, X.room, X.hears, X.method, X.code, (X.here.setHeapUsed s₂.heap s₂.slotsUsed).setVm hW'.alike, X.tail, State.WarmedH.trans X.warmed hW', X.limits, X.bytes, X.same.trans (hsame.setVm s.vm)⟩,
      ⟨g, mk, s₂, L, E, ce, rfl, rfl, hx, hce, hcv, hcl, rfl, hL, rfl, rfl⟩, ?_⟩
    show Steps p.tables e below _ (((({ U with heap := s₂.heap, slotsUsed := s₂.slotsUsed } : State).setVm s₂.vm).setTop g).pushFrame (.throwing q))
    rw [← hs₂]
    exact hsteps
end Payer
section Calls
variable {p : Program} {l : Launch} {e : Env} {R : Room} {s : State} {m : MethodId} {args : Array Value} {below : List Frame} {meth : Method} {c : Code} {T : State} {locs : List Loc} {cells slots : Nat}
theorem vx_callV (X : Stand p l e R s m args below meth c T locs cells slots) (hexec : p.tables.exec = Jvm.exec) {own C : String} {index : Nat} {y : MethodName} {bytes : ByteArray} {maxL : Nat} {ret : Option FieldType}
    (hown : s.vm.findClass own = some m.cls) (hlink : (Cond.methodLink own index y).before args s = true) (hinst : (Cond.instanceMethod y).before args s = true) (hsel : (Cond.selects C y y).before args s = true)
    (hcode : (Cond.code y bytes maxL ret).before args s = true) (hy : y.cls ≠ "java/lang/invoke/MethodHandle" ∧ y.cls ≠ "java/lang/invoke/VarHandle")
    {W9 : Nat} {Pre : Pt → Array Value → Prop} {Post : Pt → Array Value → Option Value → Pt → Prop} {PostX : Pt → Array Value → Addr → Pt → Prop} (hK : vx_Back l R p e below s args y 3 W9 Pre Post PostX)
    {b : Addr} {cellB : Cell} (hcell : T.heap[b]? = some cellB) (hobj : cellB.vm.isStatics = false) (hcls : s.vm.findClass C = some cellB.cls)
    {g : JFrame} (hg : g.method = m) (hsize : g.locals.size = c.maxLocals) {argsL rest : List Value} (hlen : ∀ sig, parseMethodDescriptor y.desc = some sig → argsL.length = sig.parameters.length)
    (hstack : g.stack = argsL.reverse ++ .ref b :: rest) (hW : 2 * g.monitorRoom + (rest.map fun v => v.category).sum ≤ W9) (hdg : decode c.code g.pc = .ok (.invokevirtual index, 3))
    (hpre : ∀ vm₁, s.WarmedH vm₁ → Pre ⟨T.setVm vm₁, locs, cells, slots⟩ (Value.ref b :: argsL).toArray) :
    (∃ (v : Option Value) (vm₁ : Vm) (B : Pt), s.WarmedH vm₁ ∧ Stand p l e R s m args below meth c B.U B.locs B.cells B.slots ∧ Post ⟨T.setVm vm₁, locs, cells, slots⟩ (Value.ref b :: argsL).toArray v B ∧
      ∀ target, Steps p.tables e below (B.U.setTop { g with pc := g.pc + 3, stack := v.toList ++ rest }) target → Steps p.tables e below (T.setTop g) target) ∨
    (∃ (q : Addr) (vm₁ : Vm) (B : Pt), s.WarmedH vm₁ ∧ Stand p l e R s m args below meth c B.U B.locs B.cells B.slots ∧ PostX ⟨T.setVm vm₁, locs, cells, slots⟩ (Value.ref b :: argsL).toArray q B ∧
      Steps p.tables e below (T.setTop g) ((B.U.setTop { g with stack := rest }).pushFrame (.throwing q))) := by
  obtain ⟨mk, methM, hnamed, hmethM, hstM, habM⟩ := Cond.instanceMethod_spec hinst
  obtain ⟨methM', cM, hmethM', -, -, -, -, -, -, hsigM⟩ := Cond.code_spec hnamed hcode
  cases hmethM.symm.trans hmethM'
  obtain ⟨c2, r2, m2, q1, q2, q3, q4, kP, hkP, hkPi⟩ := Cond.selects_spec hsel
  cases hcls.symm.trans q1
  cases (State.methodFound?_of_named hnamed hy).symm.trans q2
  cases hnamed.symm.trans q3
  have hselP : selectMethod e.platform s.vm cellB.cls mk = .method mk := by rw [Launch.admits_selectMethod X.admits]; exact q4
  obtain ⟨vm₁, X₁, hstep₁⟩ := X.invokevirtual hexec hown hlink hnamed hmethM hstM hkP hkPi hy (a := b) (cell := cellB) hcell
    (fun z h => by rw [h] at hobj; cases hobj) hselP hmethM habM hkP hkPi (g := g) hg (argsL := argsL) (rest := rest) (hlen _ hsigM) hstack hdg
  rcases hK m meth c ⟨T.setVm vm₁, locs, cells, slots⟩ { g with stack := rest } (.invokevirtual index) mk (Value.ref b :: argsL).toArray X₁ hg hsize hdg hW (X₁.named hnamed) (hpre vm₁ X₁.warmed) with ⟨v, B, X', hpost, hsteps⟩ | ⟨q, B, X', hpost, hsteps⟩
  · exact Or.inl ⟨v, vm₁, B, X₁.warmed, X', hpost, fun target h => hstep₁ _ fun acts => by rw [doInvoke_state]; exact hsteps.trans h⟩
  · exact Or.inr ⟨q, vm₁, B, X₁.warmed, X', hpost, hstep₁ _ fun acts => by rw [doInvoke_state]; exact hsteps⟩
theorem vx_callS (X : Stand p l e R s m args below meth c T locs cells slots) (hexec : p.tables.exec = Jvm.exec) {own : String} {index : Nat} {y : MethodName} {bytes : ByteArray} {maxL : Nat} {ret : Option FieldType}
    (hown : s.vm.findClass own = some m.cls) (hlink : (Cond.methodLink own index y).before args s = true) (hstat : (Cond.static y).before args s = true) (hinit : (Cond.initialized y.cls).before args s = true)
    (hcode : (Cond.code y bytes maxL ret).before args s = true) (hy : y.cls ≠ "java/lang/invoke/MethodHandle" ∧ y.cls ≠ "java/lang/invoke/VarHandle")
    {W9 : Nat} {Pre : Pt → Array Value → Prop} {Post : Pt → Array Value → Option Value → Pt → Prop} {PostX : Pt → Array Value → Addr → Pt → Prop} (hK : vx_Back l R p e below s args y 3 W9 Pre Post PostX)
    {g : JFrame} (hg : g.method = m) (hsize : g.locals.size = c.maxLocals) {argsL rest : List Value} (hlen : ∀ sig, parseMethodDescriptor y.desc = some sig → argsL.length = sig.parameters.length)
    (hstack : g.stack = argsL.reverse ++ rest) (hW : 2 * g.monitorRoom + (rest.map fun v => v.category).sum ≤ W9) (hdg : decode c.code g.pc = .ok (.invokestatic index, 3))
    (hpre : ∀ vm₁, s.WarmedH vm₁ → Pre ⟨T.setVm vm₁, locs, cells, slots⟩ argsL.toArray) :
    (∃ (v : Option Value) (vm₁ : Vm) (B : Pt), s.WarmedH vm₁ ∧ Stand p l e R s m args below meth c B.U B.locs B.cells B.slots ∧ Post ⟨T.setVm vm₁, locs, cells, slots⟩ argsL.toArray v B ∧
      ∀ target, Steps p.tables e below (B.U.setTop { g with pc := g.pc + 3, stack := v.toList ++ rest }) target → Steps p.tables e below (T.setTop g) target) ∨
    (∃ (q : Addr) (vm₁ : Vm) (B : Pt), s.WarmedH vm₁ ∧ Stand p l e R s m args below meth c B.U B.locs B.cells B.slots ∧ PostX ⟨T.setVm vm₁, locs, cells, slots⟩ argsL.toArray q B ∧
      Steps p.tables e below (T.setTop g) ((B.U.setTop { g with stack := rest }).pushFrame (.throwing q))) := by
  obtain ⟨mk, hnamed⟩ := Cond.code_named hcode
  obtain ⟨methM, cM, hmethM, -, -, -, -, -, -, hsigM⟩ := Cond.code_spec hnamed hcode
  have hstatic : methM.isStatic = true := Cond.static_spec hnamed hmethM hstat
  obtain ⟨kP, hkP, -⟩ := className_of_methodNamed hnamed
  have hinitP : kP.init = .initialized := Cond.initialized_spec (findClass_of_methodNamed hnamed) hkP hinit
  obtain ⟨vm₁, X₁, hstep₁⟩ := X.invokestatic hexec hown hlink hnamed hmethM hstatic hkP hinitP hy (g := g) hg (argsL := argsL) (rest := rest) (hlen _ hsigM) hstack hdg
  rcases hK m meth c ⟨T.setVm vm₁, locs, cells, slots⟩ { g with stack := rest } (.invokestatic index) mk argsL.toArray X₁ hg hsize hdg hW (X₁.named hnamed) (hpre vm₁ X₁.warmed) with ⟨v, B, X', hpost, hsteps⟩ | ⟨q, B, X', hpost, hsteps⟩
  · exact Or.inl ⟨v, vm₁, B, X₁.warmed, X', hpost, fun target h => hstep₁ _ fun acts => by rw [doInvoke_state]; exact hsteps.trans h⟩
  · exact Or.inr ⟨q, vm₁, B, X₁.warmed, X', hpost, hstep₁ _ fun acts => by rw [doInvoke_state]; exact hsteps⟩
end Calls
theorem vx_cls {s : State} {T : State} {vm₁ : Vm} {E : String} {k : ClassId} (hW : s.WarmedH vm₁) (h : (T.setVm vm₁).vm.findClass E = some k) : s.vm.findClass E = some k := by
  have h1 : vm₁.findClass E = some k := h
  rw [hW.alike.findClass] at h1
  exact h1
/-- the method's frame g, with q thrown over it -/
def vx_W (p : Program) (l : Launch) (e : Env) (R : Room) (s : State) (m : MethodId) (args : Array Value) (below : List Frame) (meth : Method) (c : Code) (H : Heap) (locs : List Loc) (cells slots : Nat) (Q : State → Prop) (g : JFrame) (q : Addr) : Prop :=
  ∀ T : State, T.heap = H → Stand p l e R s m args below meth c T locs cells slots → ∃ t, Steps p.tables e below ((T.setTop g).pushFrame (.throwing q)) t ∧ Q t
def vx_Run (p : Program) (l : Launch) (e : Env) (R : Room) (s : State) (m : MethodId) (args : Array Value) (below : List Frame) (meth : Method) (c : Code) (H : Heap) (locs : List Loc) (cells slots mc ms : Nat) (g : JFrame) (rest : List Value) (Qa : State → Outcome → State → Prop) (XC : String → State → State → Prop) (free : Addr → Prop) : Prop :=
  ∀ T : State, T.heap = H → Stand p l e R s m args below meth c T locs cells slots →
    (∃ (v : Option Value) (st₀ t T' : State) (L : List Loc), st₀.heap = H ∧ Stand p l e R s m args below meth c T' (locs ++ L) (cells + mc) (slots + ms) ∧ (∀ q ∈ L, free q.base) ∧ T'.heap = t.heap ∧ T'.vm = t.vm ∧ Qa st₀ (.returned v) t ∧
      Goes p e below T g T' { g with pc := g.pc + 3, stack := v.toList ++ rest }) ∨
    (∃ (q : Addr) (st₀ t T' : State) (L : List Loc) (E : String) (ce : Cell), st₀.heap = H ∧ Stand p l e R s m args below meth c T' (locs ++ L) (cells + mc) (slots + ms) ∧ (∀ z ∈ L, free z.base) ∧ T'.heap = t.heap ∧ T'.vm = t.vm ∧ XC E st₀ t ∧ t.heap[q]? = some ce ∧ ce.vm = .none ∧ s.vm.findClass E = some ce.cls ∧
      Steps p.tables e below (T.setTop g) ((T'.setTop { g with stack := rest }).pushFrame (.throwing q)))
def vx_X {S : Type} (px : S → Prop) (B : String → S → State → Prop) (A : Nat → Prop) : String → State → State → Prop := fun E st t => ∃ u : S, px u ∧ B E u t ∧ va_F A st t
section Runs
variable {p : Program} {l : Launch} {e : Env} {R : Room} {s : State} {m : MethodId} {args : Array Value} {below : List Frame} {meth : Method} {c : Code} {H : Heap} {locs : List Loc} {cells slots : Nat}
variable {y : MethodName} {bytes cc : ByteArray} {maxL nL mc ms n index : Nat} {ret : Option FieldType} {ws : List Cond} {rm : Room} {Pc : Array Value → State → Prop} {Qc : Array Value → State → Outcome → State → Prop} {XC : String → State → State → Prop} {free : Addr → Prop} {Ts : List Cond} {own C : String} {b : Addr} {As rest : List Value} {g : JFrame}
theorem vx_callBack (cb : CallB R s args own index y bytes maxL ret ws rm mc ms n) (hM : vx_Met l y ws rm Pc Qc XC mc ms free) (hbl : FrameBlind Pc) : vx_Back l R p e below s args y 3 8 (PreOf R mc ms Pc) (PostOf Qc mc ms free) (vx_Post XC mc ms free) := by
  obtain ⟨hrc, hrs, hfr, hlo, hws, hcw, -, hini, -⟩ := cb
  exact vx_back (bytes := bytes) (maxL := maxL) (ret := ret) hM hbl hrc hrs hfr hlo hws hcw (fun a' U hW => word_at hW (Or.inl (by first | rfl | simp [Cond.onTables, Cond.keeps, Cond.steady])) hini)
theorem vx_runV (S : CallFix p m c cc nL s args Ts own) (hM : vx_Met l y ws rm Pc Qc XC mc ms free) (cw : CallW R s args own C index y bytes maxL ret ws rm mc ms n) (hp : PreV s H C b Pc As)
    (hg : g.method = m) (hn : As.length = n) (hsize : g.locals.size = nL) (hstack : g.stack = As.reverse ++ .ref b :: rest) (hW : 2 * g.monitorRoom + (rest.map fun v => v.category).sum ≤ 8) (hdg : decode cc g.pc = .ok (.invokevirtual index, 3)) (hf : cells + mc ≤ R.cells ∧ slots + ms ≤ R.slots) :
    vx_Run p l e R s m args below meth c H locs cells slots mc ms g rest (Qc (Value.ref b :: As).toArray) XC free := by
  have hK : vx_Back l R p e below s args y 3 8 (PreOf R mc ms Pc) (PostOf Qc mc ms free) (vx_Post XC mc ms free) := vx_callBack cw.1 hM hp.1
  obtain ⟨⟨-, -, -, -, -, -, hcode, -, hy, hlen, hl⟩, hin, hse⟩ := cw
  obtain ⟨hx, hb, hml, ho, -⟩ := S
  obtain ⟨-, ⟨cellB, hcB, hoB, hclB⟩, hPc⟩ := hp
  intro T hT X
  rcases vx_callV X hx (C := C) (bytes := bytes) (maxL := maxL) (ret := ret) ho hl hin hse hcode hy hK (by rw [hT]; exact hcB) hoB hclB hg (hsize.trans hml.symm) (argsL := As) (rest := rest) (fun sig h => hn.trans (hlen sig h)) hstack hW (by rw [hb]; exact hdg)
    (fun vm₁ hW₁ => ⟨hf.1, hf.2, hPc (T.setVm vm₁) hT hW₁⟩) with ⟨v, vm₁, ⟨U', l2, c2, s2⟩, hW₁, X', ⟨g', mk, t, L, e1, e2, hq, h1, hL, h2, h3⟩, st⟩ | ⟨q, vm₁, ⟨U', l2, c2, s2⟩, hW₁, X', ⟨g', mk, t, L, E, ce, e1, e2, hq, hce, hcv, hcl, h1, hL, h2, h3⟩, st⟩
  · dsimp only [Pt.U, Pt.locs, Pt.cells, Pt.slots] at X' e1 e2 h1 h2 h3 st
    subst h1; subst h2; subst h3
    exact Or.inl ⟨v, (T.setVm vm₁).calling g' mk (Value.ref b :: As).toArray, t, U', L, hT, X', hL, e1, e2, hq, st⟩
  · dsimp only [Pt.U, Pt.locs, Pt.cells, Pt.slots] at X' e1 e2 h1 h2 h3 st hcl
    subst h1; subst h2; subst h3
    exact Or.inr ⟨q, (T.setVm vm₁).calling g' mk (Value.ref b :: As).toArray, t, U', L, E, ce, hT, X', hL, e1, e2, hq, hce, hcv, vx_cls hW₁ hcl, st⟩
theorem vx_runS (S : CallFix p m c cc nL s args Ts own) (hM : vx_Met l y ws rm Pc Qc XC mc ms free) (cw : CallB R s args own index y bytes maxL ret ws rm mc ms n ∧ (Cond.static y).before args s = true) (hp : PreS s H Pc As)
    (hg : g.method = m) (hn : As.length = n) (hsize : g.locals.size = nL) (hstack : g.stack = As.reverse ++ rest) (hW : 2 * g.monitorRoom + (rest.map fun v => v.category).sum ≤ 8) (hdg : decode cc g.pc = .ok (.invokestatic index, 3)) (hf : cells + mc ≤ R.cells ∧ slots + ms ≤ R.slots) :
    vx_Run p l e R s m args below meth c H locs cells slots mc ms g rest (Qc As.toArray) XC free := by
  have hK : vx_Back l R p e below s args y 3 8 (PreOf R mc ms Pc) (PostOf Qc mc ms free) (vx_Post XC mc ms free) := vx_callBack cw.1 hM hp.1
  obtain ⟨⟨-, -, -, -, -, -, hcode, hini, hy, hlen, hl⟩, hstt⟩ := cw
  obtain ⟨hx, hb, hml, ho, -⟩ := S
  intro T hT X
  rcases vx_callS X hx (bytes := bytes) (maxL := maxL) (ret := ret) ho hl hstt hini hcode hy hK hg (hsize.trans hml.symm) (argsL := As) (rest := rest) (fun sig h => hn.trans (hlen sig h)) hstack hW (by rw [hb]; exact hdg)
    (fun vm₁ hW₁ => ⟨hf.1, hf.2, hp.2 (T.setVm vm₁) hT hW₁⟩) with ⟨v, vm₁, ⟨U', l2, c2, s2⟩, hW₁, X', ⟨g', mk, t, L, e1, e2, hq, h1, hL, h2, h3⟩, st⟩ | ⟨q, vm₁, ⟨U', l2, c2, s2⟩, hW₁, X', ⟨g', mk, t, L, E, ce, e1, e2, hq, hce, hcv, hcl, h1, hL, h2, h3⟩, st⟩
  · dsimp only [Pt.U, Pt.locs, Pt.cells, Pt.slots] at X' e1 e2 h1 h2 h3 st
    subst h1; subst h2; subst h3
    exact Or.inl ⟨v, (T.setVm vm₁).calling g' mk As.toArray, t, U', L, hT, X', hL, e1, e2, hq, st⟩
  · dsimp only [Pt.U, Pt.locs, Pt.cells, Pt.slots] at X' e1 e2 h1 h2 h3 st hcl
    subst h1; subst h2; subst h3
    exact Or.inr ⟨q, (T.setVm vm₁).calling g' mk As.toArray, t, U', L, E, ce, hT, X', hL, e1, e2, hq, hce, hcv, vx_cls hW₁ hcl, st⟩
end Runs
section Rows
variable {p : Program} {l : Launch} {e : Env} {R : Room} {s : State} {m : MethodId} {args : Array Value} {below : List Frame} {meth : Method} {c : Code} {H : Heap} {locs : List Loc} {cells slots : Nat} {Q : State → Prop}
variable {mc ms : Nat} {free : Addr → Prop} {A0 A1 : Nat → Prop} {H0 : Heap} {a : Array Value} {pc : Nat} {ls : Array Slot} {st0 rest : List Value}
theorem vx_keep {st₀ t T' : State} {L : List Loc} (h0 : st₀.heap = H) (e1 : T'.heap = t.heap) (hS : va_S A0 H0 H locs) (hA : ∀ q, q < H.size → A1 q → A0 q) (hf : ∀ q, free q → A0 q) (hL : ∀ q ∈ L, free q.base) (hF : va_F A1 st₀ t) :
    H.size ≤ T'.heap.size ∧ (∀ q : Nat, q < H.size → ¬ A1 q → T'.heap[q]? = H[q]?) ∧ va_S A0 H0 T'.heap (locs ++ L) := by
  obtain ⟨hz, hk⟩ := hF
  rw [h0] at hz hk
  exact ⟨by rw [e1]; exact hz, fun q h1 h2 => by rw [e1]; exact hk q h1 h2,
    ⟨Nat.le_trans hS.1 (by rw [e1]; exact hz), fun q h1 h2 => by rw [e1, hk q (Nat.lt_of_lt_of_le h1 hS.1) (fun z => h2 (hA q (Nat.lt_of_lt_of_le h1 hS.1) z))]; exact hS.2.1 q h1 h2, fun q hq => by
      rcases List.mem_append.mp hq with h | h
      · exact hS.2.2 q h
      · exact hf _ (hL q h)⟩⟩
theorem vx_calli {S SX : Type} {post : Int32 → S → Prop} {px : SX → Prop} {B : S → State → Prop} {BX : String → SX → State → Prop} {AX : Nat → Prop} (hr : vx_Run p l e R s m args below meth c H locs cells slots mc ms (F0 m pc ls st0) rest (va_Qi post B A1 a) (vx_X px BX AX) free) (hS : va_S A0 H0 H locs) (hA : ∀ q, q < H.size → A1 q → A0 q) (hf : ∀ q, free q → A0 q) (hAX : ∀ q, q < H.size → AX q → A0 q)
    (kx : ∀ (E : String) (ce : Cell) (q9 : Addr) (u : SX) (t : State) (H1 : Heap) (locs1 : List Loc), t.heap = H1 → s.vm.Alike t.vm → px u → BX E u t → H.size ≤ H1.size → (∀ q : Nat, q < H.size → ¬ AX q → H1[q]? = H[q]?) → va_S A0 H0 H1 locs1 → H1[q9]? = some ce → ce.vm = .none → s.vm.findClass E = some ce.cls → vx_W p l e R s m args below meth c H1 locs1 (cells + mc) (slots + ms) Q (F0 m pc ls rest) q9)
    (kk : ∀ (r : Int32) (u : S) (t : State) (H1 : Heap) (locs1 : List Loc), t.heap = H1 → s.vm.Alike t.vm → post r u → B u t → H.size ≤ H1.size → (∀ q : Nat, q < H.size → ¬ A1 q → H1[q]? = H[q]?) → va_S A0 H0 H1 locs1 → W p l e R s m args below meth c H1 locs1 (cells + mc) (slots + ms) Q (F0 m (pc + 3) ls (.int r :: rest))) : W p l e R s m args below meth c H locs cells slots Q (F0 m pc ls st0) := by
  intro T hT X
  rcases hr T hT X with ⟨v, st₀, t, T', L, h0, X', hL, e1, e2, ⟨⟨r, u, hv, hp, hb⟩, hF⟩, st⟩ | ⟨q, st₀, t, T', L, E, ce, h0, X', hL, e1, e2, ⟨u, hp, hb, hF⟩, hce, hcv, hcl, st⟩
  · cases hv
    obtain ⟨k1, k2, k3⟩ := vx_keep h0 e1 hS hA hf hL hF
    obtain ⟨t2, a1, b1⟩ := kk r u t T'.heap (locs ++ L) e1.symm (by rw [← e2]; exact X'.warmed.alike) hp hb k1 k2 k3 T' rfl X'
    exact ⟨t2, st t2 a1, b1⟩
  · obtain ⟨k1, k2, k3⟩ := vx_keep h0 e1 hS hAX hf hL hF
    obtain ⟨t2, a1, b1⟩ := kx E ce q u t T'.heap (locs ++ L) e1.symm (by rw [← e2]; exact X'.warmed.alike) hp hb k1 k2 k3 (by rw [e1]; exact hce) hcv hcl T' rfl X'
    exact ⟨t2, st.trans a1, b1⟩
theorem vx_calll {S SX : Type} {post : Int64 → S → Prop} {px : SX → Prop} {B : S → State → Prop} {BX : String → SX → State → Prop} {AX : Nat → Prop} (hr : vx_Run p l e R s m args below meth c H locs cells slots mc ms (F0 m pc ls st0) rest (va_Ql post B A1 a) (vx_X px BX AX) free) (hS : va_S A0 H0 H locs) (hA : ∀ q, q < H.size → A1 q → A0 q) (hf : ∀ q, free q → A0 q) (hAX : ∀ q, q < H.size → AX q → A0 q)
    (kx : ∀ (E : String) (ce : Cell) (q9 : Addr) (u : SX) (t : State) (H1 : Heap) (locs1 : List Loc), t.heap = H1 → s.vm.Alike t.vm → px u → BX E u t → H.size ≤ H1.size → (∀ q : Nat, q < H.size → ¬ AX q → H1[q]? = H[q]?) → va_S A0 H0 H1 locs1 → H1[q9]? = some ce → ce.vm = .none → s.vm.findClass E = some ce.cls → vx_W p l e R s m args below meth c H1 locs1 (cells + mc) (slots + ms) Q (F0 m pc ls rest) q9)
    (kk : ∀ (r : Int64) (u : S) (t : State) (H1 : Heap) (locs1 : List Loc), t.heap = H1 → s.vm.Alike t.vm → post r u → B u t → H.size ≤ H1.size → (∀ q : Nat, q < H.size → ¬ A1 q → H1[q]? = H[q]?) → va_S A0 H0 H1 locs1 → W p l e R s m args below meth c H1 locs1 (cells + mc) (slots + ms) Q (F0 m (pc + 3) ls (.long r :: rest))) : W p l e R s m args below meth c H locs cells slots Q (F0 m pc ls st0) := by
  intro T hT X
  rcases hr T hT X with ⟨v, st₀, t, T', L, h0, X', hL, e1, e2, ⟨⟨r, u, hv, hp, hb⟩, hF⟩, st⟩ | ⟨q, st₀, t, T', L, E, ce, h0, X', hL, e1, e2, ⟨u, hp, hb, hF⟩, hce, hcv, hcl, st⟩
  · cases hv
    obtain ⟨k1, k2, k3⟩ := vx_keep h0 e1 hS hA hf hL hF
    obtain ⟨t2, a1, b1⟩ := kk r u t T'.heap (locs ++ L) e1.symm (by rw [← e2]; exact X'.warmed.alike) hp hb k1 k2 k3 T' rfl X'
    exact ⟨t2, st t2 a1, b1⟩
  · obtain ⟨k1, k2, k3⟩ := vx_keep h0 e1 hS hAX hf hL hF
    obtain ⟨t2, a1, b1⟩ := kx E ce q u t T'.heap (locs ++ L) e1.symm (by rw [← e2]; exact X'.warmed.alike) hp hb k1 k2 k3 (by rw [e1]; exact hce) hcv hcl T' rfl X'
    exact ⟨t2, st.trans a1, b1⟩
theorem vx_callf {S SX : Type} {post : UInt32 → S → Prop} {px : SX → Prop} {B : S → State → Prop} {BX : String → SX → State → Prop} {AX : Nat → Prop} (hr : vx_Run p l e R s m args below meth c H locs cells slots mc ms (F0 m pc ls st0) rest (va_Qf post B A1 a) (vx_X px BX AX) free) (hS : va_S A0 H0 H locs) (hA : ∀ q, q < H.size → A1 q → A0 q) (hf : ∀ q, free q → A0 q) (hAX : ∀ q, q < H.size → AX q → A0 q)
    (kx : ∀ (E : String) (ce : Cell) (q9 : Addr) (u : SX) (t : State) (H1 : Heap) (locs1 : List Loc), t.heap = H1 → s.vm.Alike t.vm → px u → BX E u t → H.size ≤ H1.size → (∀ q : Nat, q < H.size → ¬ AX q → H1[q]? = H[q]?) → va_S A0 H0 H1 locs1 → H1[q9]? = some ce → ce.vm = .none → s.vm.findClass E = some ce.cls → vx_W p l e R s m args below meth c H1 locs1 (cells + mc) (slots + ms) Q (F0 m pc ls rest) q9)
    (kk : ∀ (r : UInt32) (u : S) (t : State) (H1 : Heap) (locs1 : List Loc), t.heap = H1 → s.vm.Alike t.vm → post r u → B u t → H.size ≤ H1.size → (∀ q : Nat, q < H.size → ¬ A1 q → H1[q]? = H[q]?) → va_S A0 H0 H1 locs1 → W p l e R s m args below meth c H1 locs1 (cells + mc) (slots + ms) Q (F0 m (pc + 3) ls (.float r :: rest))) : W p l e R s m args below meth c H locs cells slots Q (F0 m pc ls st0) := by
  intro T hT X
  rcases hr T hT X with ⟨v, st₀, t, T', L, h0, X', hL, e1, e2, ⟨⟨r, u, hv, hp, hb⟩, hF⟩, st⟩ | ⟨q, st₀, t, T', L, E, ce, h0, X', hL, e1, e2, ⟨u, hp, hb, hF⟩, hce, hcv, hcl, st⟩
  · cases hv
    obtain ⟨k1, k2, k3⟩ := vx_keep h0 e1 hS hA hf hL hF
    obtain ⟨t2, a1, b1⟩ := kk r u t T'.heap (locs ++ L) e1.symm (by rw [← e2]; exact X'.warmed.alike) hp hb k1 k2 k3 T' rfl X'
    exact ⟨t2, st t2 a1, b1⟩
  · obtain ⟨k1, k2, k3⟩ := vx_keep h0 e1 hS hAX hf hL hF
    obtain ⟨t2, a1, b1⟩ := kx E ce q u t T'.heap (locs ++ L) e1.symm (by rw [← e2]; exact X'.warmed.alike) hp hb k1 k2 k3 (by rw [e1]; exact hce) hcv hcl T' rfl X'
    exact ⟨t2, st.trans a1, b1⟩
theorem vx_calld {S SX : Type} {post : UInt64 → S → Prop} {px : SX → Prop} {B : S → State → Prop} {BX : String → SX → State → Prop} {AX : Nat → Prop} (hr : vx_Run p l e R s m args below meth c H locs cells slots mc ms (F0 m pc ls st0) rest (va_Qd post B A1 a) (vx_X px BX AX) free) (hS : va_S A0 H0 H locs) (hA : ∀ q, q < H.size → A1 q → A0 q) (hf : ∀ q, free q → A0 q) (hAX : ∀ q, q < H.size → AX q → A0 q)
    (kx : ∀ (E : String) (ce : Cell) (q9 : Addr) (u : SX) (t : State) (H1 : Heap) (locs1 : List Loc), t.heap = H1 → s.vm.Alike t.vm → px u → BX E u t → H.size ≤ H1.size → (∀ q : Nat, q < H.size → ¬ AX q → H1[q]? = H[q]?) → va_S A0 H0 H1 locs1 → H1[q9]? = some ce → ce.vm = .none → s.vm.findClass E = some ce.cls → vx_W p l e R s m args below meth c H1 locs1 (cells + mc) (slots + ms) Q (F0 m pc ls rest) q9)
    (kk : ∀ (r : UInt64) (u : S) (t : State) (H1 : Heap) (locs1 : List Loc), t.heap = H1 → s.vm.Alike t.vm → post r u → B u t → H.size ≤ H1.size → (∀ q : Nat, q < H.size → ¬ A1 q → H1[q]? = H[q]?) → va_S A0 H0 H1 locs1 → W p l e R s m args below meth c H1 locs1 (cells + mc) (slots + ms) Q (F0 m (pc + 3) ls (.double r :: rest))) : W p l e R s m args below meth c H locs cells slots Q (F0 m pc ls st0) := by
  intro T hT X
  rcases hr T hT X with ⟨v, st₀, t, T', L, h0, X', hL, e1, e2, ⟨⟨r, u, hv, hp, hb⟩, hF⟩, st⟩ | ⟨q, st₀, t, T', L, E, ce, h0, X', hL, e1, e2, ⟨u, hp, hb, hF⟩, hce, hcv, hcl, st⟩
  · cases hv
    obtain ⟨k1, k2, k3⟩ := vx_keep h0 e1 hS hA hf hL hF
    obtain ⟨t2, a1, b1⟩ := kk r u t T'.heap (locs ++ L) e1.symm (by rw [← e2]; exact X'.warmed.alike) hp hb k1 k2 k3 T' rfl X'
    exact ⟨t2, st t2 a1, b1⟩
  · obtain ⟨k1, k2, k3⟩ := vx_keep h0 e1 hS hAX hf hL hF
    obtain ⟨t2, a1, b1⟩ := kx E ce q u t T'.heap (locs ++ L) e1.symm (by rw [← e2]; exact X'.warmed.alike) hp hb k1 k2 k3 (by rw [e1]; exact hce) hcv hcl T' rfl X'
    exact ⟨t2, st.trans a1, b1⟩
theorem vx_callv {S SX : Type} {post : S → Prop} {px : SX → Prop} {B : S → State → Prop} {BX : String → SX → State → Prop} {AX : Nat → Prop} (hr : vx_Run p l e R s m args below meth c H locs cells slots mc ms (F0 m pc ls st0) rest (va_Qv post B A1 a) (vx_X px BX AX) free) (hS : va_S A0 H0 H locs) (hA : ∀ q, q < H.size → A1 q → A0 q) (hf : ∀ q, free q → A0 q) (hAX : ∀ q, q < H.size → AX q → A0 q)
    (kx : ∀ (E : String) (ce : Cell) (q9 : Addr) (u : SX) (t : State) (H1 : Heap) (locs1 : List Loc), t.heap = H1 → s.vm.Alike t.vm → px u → BX E u t → H.size ≤ H1.size → (∀ q : Nat, q < H.size → ¬ AX q → H1[q]? = H[q]?) → va_S A0 H0 H1 locs1 → H1[q9]? = some ce → ce.vm = .none → s.vm.findClass E = some ce.cls → vx_W p l e R s m args below meth c H1 locs1 (cells + mc) (slots + ms) Q (F0 m pc ls rest) q9)
    (kk : ∀ (u : S) (t : State) (H1 : Heap) (locs1 : List Loc), t.heap = H1 → s.vm.Alike t.vm → post u → B u t → H.size ≤ H1.size → (∀ q : Nat, q < H.size → ¬ A1 q → H1[q]? = H[q]?) → va_S A0 H0 H1 locs1 → W p l e R s m args below meth c H1 locs1 (cells + mc) (slots + ms) Q (F0 m (pc + 3) ls (rest))) : W p l e R s m args below meth c H locs cells slots Q (F0 m pc ls st0) := by
  intro T hT X
  rcases hr T hT X with ⟨v, st₀, t, T', L, h0, X', hL, e1, e2, ⟨⟨u, hv, hp, hb⟩, hF⟩, st⟩ | ⟨q, st₀, t, T', L, E, ce, h0, X', hL, e1, e2, ⟨u, hp, hb, hF⟩, hce, hcv, hcl, st⟩
  · cases hv
    obtain ⟨k1, k2, k3⟩ := vx_keep h0 e1 hS hA hf hL hF
    obtain ⟨t2, a1, b1⟩ := kk u t T'.heap (locs ++ L) e1.symm (by rw [← e2]; exact X'.warmed.alike) hp hb k1 k2 k3 T' rfl X'
    exact ⟨t2, st t2 a1, b1⟩
  · obtain ⟨k1, k2, k3⟩ := vx_keep h0 e1 hS hAX hf hL hF
    obtain ⟨t2, a1, b1⟩ := kx E ce q u t T'.heap (locs ++ L) e1.symm (by rw [← e2]; exact X'.warmed.alike) hp hb k1 k2 k3 (by rw [e1]; exact hce) hcv hcl T' rfl X'
    exact ⟨t2, st.trans a1, b1⟩
/-- caught by the row x of this method's table; the rows ahead don't take it -/
theorem vx_catch {own name : String} {E : String} {ce : Cell} {q : Addr} (hown : s.vm.findClass own = some m.cls) (pre : List ExceptionTableEntry) (x : ExceptionTableEntry) (suf : List ExceptionTableEntry) (hsplit : c.exceptionTable.toList = pre ++ x :: suf)
    (hpass : ∀ z ∈ pre, covers z pc = false ∨ (z.catchType ≠ 0 ∧ ∃ nm : String, (Cond.classLink own z.catchType nm).before args s = true ∧ va_Nc E nm s)) (hx : covers x pc = true) (h0 : x.catchType ≠ 0)
    (hlink : (Cond.classLink own x.catchType name).before args s = true) (hcast : (Cond.castable E name).before args s = true) (hcell : H[q]? = some ce) (hv : ce.vm = .none) (hcl : s.vm.findClass E = some ce.cls)
    (kk : W p l e R s m args below meth c H locs cells slots Q (F0 m x.handlerPc ls [.ref q])) : vx_W p l e R s m args below meth c H locs cells slots Q (F0 m pc ls rest) q := by
  intro T hT X
  have hpl : e.platform.magicAccessors = ({} : Platform).magicAccessors := by rw [X.admits.platform]
  obtain ⟨c3, c4, hc3, hc4, hasg⟩ := Cond.castable_spec hcast
  cases Option.some.inj (hc3.symm.trans hcl)
  obtain ⟨c5, hc5, hcl5⟩ := Cond.classLink_spec hown hlink e.platform hpl
  cases Option.some.inj (hc4.symm.trans hc5)
  obtain ⟨vm', X', st⟩ := X.thenCaughtThrough q (g := F0 m pc ls rest) rfl (Steps.refl _) (by rw [hT]; exact hcell) (by rw [hv]; rfl) (by obtain ⟨k9, h9, -⟩ := Vm.findClass_spec hcl; exact ⟨k9, h9⟩) pre x suf hsplit
    (fun z hz => by
      rcases hpass z hz with h | ⟨hz0, nm, hl1, hn1⟩
      · exact Or.inl h
      · obtain ⟨c6, hc6, hcl6⟩ := Cond.classLink_spec hown hl1 e.platform hpl
        obtain ⟨a8, b8, h1, h2, h3⟩ := hn1
        cases Option.some.inj (h1.symm.trans hcl)
        cases Option.some.inj (h2.symm.trans hc6)
        exact Or.inr ⟨hz0, _, hcl6, h3⟩) hx (Or.inr ⟨h0, c4, hcl5, hasg⟩)
  obtain ⟨t, a1, b1⟩ := kk (T.setVm vm') hT X'
  exact ⟨t, st.trans a1, b1⟩
end Rows
section Ends
variable {p : Program} {l : Launch} {e : Env} {R : Room} {s : State} {m : MethodId} {args : Array Value} {below : List Frame} {meth : Method} {c : Code} {H : Heap} {locs : List Loc} {cells slots : Nat} {Q : State → Prop}
variable {mc ms : Nat} {free : Addr → Prop} {A0 A1 : Nat → Prop} {H0 : Heap} {a : Array Value} {ls : Array Slot} {st0 rest : List Value}
variable {Qc : Array Value → State → Outcome → State → Prop} {XC : String → State → State → Prop}
/-- what a body that may throw owes at its end -/
def vx_MQ (below : List Frame) (Qc : Array Value → State → Outcome → State → Prop) (XC : String → State → State → Prop) (a : Array Value) (s : State) (mc ms : Nat) (free : Addr → Prop) : State → Prop := fun t =>
  ∃ o, t.status = .running ∧ Ended t below o ∧ vx_Q Qc XC mc ms free a s o t
theorem vx_ret {g : JFrame} {mc ms : Nat} (k : W p l e R s m args below meth c H locs cells slots (MQ below Qc args s mc ms free) g) : W p l e R s m args below meth c H locs cells slots (vx_MQ below Qc XC args s mc ms free) g := by
  intro T hT X
  obtain ⟨t, a1, o, b1, b2, b3, b4⟩ := k T hT X
  exact ⟨t, a1, o, b1, b2, Or.inl ⟨b3, b4⟩⟩
/-- not caught here: it goes on to the caller -/
theorem vx_widen {g : JFrame} {q : Addr} {k n : Nat} (h1 : cells ≤ k) (h2 : slots ≤ n) (kk : vx_W p l e R s m args below meth c H locs k n Q g q) : vx_W p l e R s m args below meth c H locs cells slots Q g q := fun T hT X => kk T hT (stand_widen X h1 h2)
theorem vx_out {pc : Nat} {E : String} {ce : Cell} {q : Addr} {mc ms : Nat} (hout : ∀ x ∈ c.exceptionTable.toList, covers x pc = false) (hlocks : meth.locks = false) (hcell : H[q]? = some ce) (hv : ce.vm = .none) (hcl : s.vm.findClass E = some ce.cls)
    (hx : ∀ t : State, t.heap = H → s.vm.Alike t.vm → XC E s t) (hf : ∀ z ∈ locs, free z.base) (hc : cells ≤ mc) (hs : slots ≤ ms) :
    vx_W p l e R s m args below meth c H locs cells slots (vx_MQ below Qc XC args s mc ms free) (F0 m pc ls rest) q := by
  intro T hT X
  obtain ⟨st1, hrun, hend, hW, hsm⟩ := X.leaveThrown q (g := F0 m pc ls rest) rfl rfl rfl hout hlocks
  have hcell9 : (T.setFrames (.throwing q :: below)).heap[q]? = some ce := by
    show T.heap[q]? = some ce
    rw [hT]; exact hcell
  exact ⟨_, st1, .threw q, hrun, hend, Or.inr ⟨q, rfl, E, ce, locs, hx _ hT hW.alike, hcell9, hv, hcl, hW, hsm.mono hc hs, hf⟩⟩
theorem vx_frame {U : State} {k n : Nat} (h : s.sameButNew ({ U with vm := s.vm } : State) locs k n) : s.heap.size ≤ U.heap.size ∧ ∀ q : Nat, q < s.heap.size → (∀ z ∈ locs, z.base ≠ q) → U.heap[q]? = s.heap[q]? := by
  obtain ⟨-, h2, -, -, -, h6⟩ := h
  refine ⟨h2, fun q hq hz => ?_⟩
  obtain ⟨c9, e1, e2, e3, e4⟩ := h6 q _ (Array.getElem?_eq_getElem hq)
  have hs : c9.slots = (s.heap[q]).slots := Array.ext_getElem? fun i => e4 i fun hm => hz _ hm rfl
  have h9 : c9 = s.heap[q] := by
    rw [hs] at e2
    exact e2
  have e5 : U.heap[q]? = some c9 := e1
  rw [e5, h9, Array.getElem?_eq_getElem hq]
/-- the words of a throw but the four that speak of the heap -/
def vx_no (w : Cond) : Bool := decide (w ≠ .isRef (.static Bundle.tN "UNASSIGNED_STACK" Bundle.steD)) && decide (w ≠ .isRef (.static Bundle.tN "SUPPRESSED_SENTINEL" Bundle.listD)) && decide (w ≠ .laysStatic Bundle.tN "UNASSIGNED_STACK" Bundle.steD) && decide (w ≠ .laysStatic Bundle.tN "SUPPRESSED_SENTINEL" Bundle.listD)
def vx_at0 (own : String) (ic : Nat) (X : String) (names : List String) : List Cond := (Bundle.ownAtoms0 own ic X names).filter vx_no
def vx_atS (own : String) (ic : Nat) (X : String) (names : List String) : List Cond := (Bundle.ownAtoms own ic X names).filter vx_no
/-- a word that the tables alone decide, or a good one -/
def vx_ot (w : Cond) : Bool := w.onTables || goodWord w
theorem vx_ot_at {args a' : Array Value} {s U : State} {w : Cond} (hW : s.WarmedH U.vm) (hvm : s.vm = U.vm) (hg : vx_ot w = true) (h : w.before args s = true) : w.before a' U = true := by
  simp only [vx_ot, Bool.or_eq_true] at hg
  rcases hg with hg | hg
  · exact va_tabs hg hvm h
  · exact word_at hW (good_of_word hg) h
/-- a list's words: the good ones out of the method's own list, the others by premises of their own -/
theorem vx_hat {args : Array Value} {s : State} {L B : List Cond} (h1 : ∀ w ∈ L.filter goodWord, w.before args s = true) (h2 : ∀ w ∈ L.filter (fun w => !goodWord w), w ∈ B) (h3 : ∀ w ∈ B, w.before args s = true) : ∀ w ∈ L, w.before args s = true := by
  intro w hw
  by_cases g : goodWord w = true
  · exact h1 w (List.mem_filter.mpr ⟨hw, g⟩)
  · refine h3 w (h2 w (List.mem_filter.mpr ⟨hw, ?_⟩))
    show (!goodWord w) = true
    cases hgw : goodWord w
    · rfl
    · exact absurd hgw g
theorem vx_c {args : Array Value} {s : State} {w : Cond} {B : List Cond} (h : w.before args s = true) (t : ∀ w ∈ B, w.before args s = true) : ∀ w' ∈ w :: B, w'.before args s = true := fun w' h' => (List.mem_cons.mp h').elim (fun e => by rw [e]; exact h) (t w')
theorem vx_n {args : Array Value} {s : State} : ∀ w ∈ ([] : List Cond), w.before args s = true := fun _ h => nomatch h
theorem vx_own {args : Array Value} {s : State} {L : List Cond} (h1 : ∀ w ∈ L.filter vx_no, w.before args s = true)
    (hU : (Cond.isRef (.static Bundle.tN "UNASSIGNED_STACK" Bundle.steD)).before args s = true) (hN : (Cond.isRef (.static Bundle.tN "SUPPRESSED_SENTINEL" Bundle.listD)).before args s = true)
    (lU : (Cond.laysStatic Bundle.tN "UNASSIGNED_STACK" Bundle.steD).before args s = true) (lN : (Cond.laysStatic Bundle.tN "SUPPRESSED_SENTINEL" Bundle.listD).before args s = true) : ∀ w ∈ L, w.before args s = true := by
  intro w hw
  by_cases e1 : w = .isRef (.static Bundle.tN "UNASSIGNED_STACK" Bundle.steD)
  · rw [e1]; exact hU
  · by_cases e2 : w = .isRef (.static Bundle.tN "SUPPRESSED_SENTINEL" Bundle.listD)
    · rw [e2]; exact hN
    · by_cases e3 : w = .laysStatic Bundle.tN "UNASSIGNED_STACK" Bundle.steD
      · rw [e3]; exact lU
      · by_cases e4 : w = .laysStatic Bundle.tN "SUPPRESSED_SENTINEL" Bundle.listD
        · rw [e4]; exact lN
        · exact h1 w (List.mem_filter.mpr ⟨hw, by unfold vx_no; rw [decide_eq_true e1, decide_eq_true e2, decide_eq_true e3, decide_eq_true e4]; rfl⟩)
/-- where a static field lies, its class's statics cell in H -/
def vx_L (C n d : String) (A : Nat → Prop) (U : State) (H : Heap) : Prop := ∃ (c : ClassId) (k : Class) (i : Nat) (f : Field) (a : Nat) (cell : Cell), U.vm.findClass C = some c ∧ U.fieldFound? C n d = some (c, k, i, f) ∧ f.isStatic = true ∧ k.statics = some a ∧ H[a]? = some cell ∧ cell.vm.isStatics = true ∧ cell.cls = c ∧ f.slot < cell.slots.size ∧ k.staticTypes[f.slot]? = some f.type ∧ ¬ A a
theorem vx_L.moved {C n d : String} {A : Nat → Prop} {u U : State} {H : Heap} (hvm : u.vm.Alike U.vm) (h : vx_L C n d A u H) : vx_L C n d A U H := by
  obtain ⟨c, k, i, f, a, cell, h1, h2, h3, h4, h5, h6, h7, h8, h9, h10⟩ := h
  obtain ⟨k', hi', he⟩ := State.fieldFound?_setVm hvm h2
  exact ⟨c, k', i, f, a, cell, by rw [hvm.findClass]; exact h1, hi', h3, by rw [he]; exact h4, h5, h6, h7, h8, by rw [he]; exact h9, h10⟩
theorem vx_L.kept {C n d : String} {A : Nat → Prop} {U : State} {H H1 : Heap} (h : vx_L C n d A U H) (hq : ∀ a : Nat, a < H.size → ¬ A a → H1[a]? = H[a]?) : vx_L C n d A U H1 := by
  obtain ⟨c, k, i, f, a, cell, h1, h2, h3, h4, h5, h6, h7, h8, h9, h10⟩ := h
  exact ⟨c, k, i, f, a, cell, h1, h2, h3, h4, by rw [hq a (Array.getElem?_eq_some_iff.mp h5).1 h10]; exact h5, h6, h7, h8, h9, h10⟩
theorem vx_L.narrow {C n d : String} {A B : Nat → Prop} {U : State} {H : Heap} (h : vx_L C n d A U H) (hAB : ∀ q, B q → A q) : vx_L C n d B U H := by
  obtain ⟨c, k, i, f, a, cell, h1, h2, h3, h4, h5, h6, h7, h8, h9, h10⟩ := h
  exact ⟨c, k, i, f, a, cell, h1, h2, h3, h4, h5, h6, h7, h8, h9, fun z => h10 (hAB _ z)⟩
theorem vx_L.word {C n d : String} {A : Nat → Prop} {s : State} {args : Array Value} (h : vx_L C n d A s s.heap) : (Cond.laysStatic C n d).before args s = true := by
  obtain ⟨c, k, i, f, a, cell, h1, h2, h3, h4, h5, h6, h7, h8, h9, -⟩ := h
  show (Cond.laysStatic C n d).holds args s none s [] = true
  exact Cond.laysStatic_of h1 h2 h3 h4 h5 h6 h7 h8 h9
/-- .. and what it holds: null or some reference -/
def vx_Zq (C n d : String) (A : Nat → Prop) (U : State) (H : Heap) : Prop := va_Zq C n d A U H ∧ vx_L C n d A U H
theorem vx_Zq.moved {C n d : String} {A : Nat → Prop} {u U : State} {H : Heap} (hvm : u.vm.Alike U.vm) (h : vx_Zq C n d A u H) : vx_Zq C n d A U H := ⟨va_Zq.moved hvm h.1, vx_L.moved hvm h.2⟩
theorem vx_Zq.kept {C n d : String} {A : Nat → Prop} {U : State} {H H1 : Heap} (h : vx_Zq C n d A U H) (hq : ∀ a : Nat, a < H.size → ¬ A a → H1[a]? = H[a]?) : vx_Zq C n d A U H1 := ⟨va_Zq.kept h.1 hq, vx_L.kept h.2 hq⟩
theorem vx_Zq.narrow {C n d : String} {A B : Nat → Prop} {U : State} {H : Heap} (h : vx_Zq C n d A U H) (hAB : ∀ q, B q → A q) : vx_Zq C n d B U H := ⟨va_Zq.narrow h.1 hAB, vx_L.narrow h.2 hAB⟩
theorem vx_Zqof {args : Array Value} {s : State} {C n d : String} {A : Nat → Prop} (hl : (Cond.laysStatic C n d).before args s = true) (hini : (Cond.initialized C).before args s = true) (h : (Cond.isRef (.static C n d)).before args s = true) (hA : ∀ a : Nat, a < s.heap.size → ¬ A a) : vx_Zq C n d A s s.heap := by
  refine ⟨va_Zqof hl hini h hA, ?_⟩
  obtain ⟨c, k, i, f, a, cell, h1, h2, h3, h4, h5, h6, h7, h8, h9⟩ := Cond.laysStatic_spec hl
  exact ⟨c, k, i, f, a, cell, h1, h2, h3, h4, h5, h6, h7, h8, h9, hA a (Array.getElem?_eq_some_iff.mp h5).1⟩
theorem vx_isRef {C n d : String} {v : Value} {A : Nat → Prop} {s : State} {args : Array Value} (h : va_Z C n d v A s s.heap) (hv : v.isRef = true) : (Cond.isRef (.static C n d)).before args s = true := by
  obtain ⟨cf, kf, fi, f, a, cell, h1, h2, h3, h4, h5, h6, h7, -⟩ := h
  have he : (Term.static C n d).eval args s none [] s = some v := by
    simp [Term.eval, State.fieldNamed?, h1, h2, h4, h5, h6, h7]
  simp only [Cond.before, Cond.holds, Cond.value, he]
  cases v <;> simp_all [Value.isRef]
theorem vx_isRefq {C n d : String} {A : Nat → Prop} {s : State} {args : Array Value} (h : va_Zq C n d A s s.heap) : (Cond.isRef (.static C n d)).before args s = true := by
  rcases h with h | ⟨t, h⟩
  · exact vx_isRef h rfl
  · exact vx_isRef h rfl
/-- the same frame, seen from here: as if the method were called anew in this heap -/
theorem vx_rebase {T : State} (X : Stand p l e R s m args below meth c T locs cells slots) {R' : Room} (hf : R'.frames ≤ R.frames) (hl : R'.locals ≤ R.locals) (hc : cells + R'.cells ≤ R.cells) (hs : slots + R'.slots ≤ R.slots) :
    Stand p l e R' ((T.setVm s.vm).setFrames (.invoking m args :: below)) m args below meth c T [] 0 0 := by
  have htop : (T.setVm s.vm).topJava?.isSome := X.here.top
  have hF : ((T.setVm s.vm).setFrames (.invoking m args :: below)).frames = .invoking m args :: below := State.frames_setFrames _ (State.cur_lt_of_top htop)
  obtain ⟨g₀, hg0⟩ := Option.isSome_iff_exists.mp htop
  obtain ⟨r, hr⟩ := State.topJava?_eq_some.mp hg0
  have hl9 : e.platform.stackLimits (T.setVm s.vm).me = e.platform.stackLimits s.me := X.limits
  have hb9 : (T.setVm s.vm).me.stackBytes = s.me.stackBytes := X.bytes
  refine ⟨X.admits, X.cas, X.clock, hF, ?_, X.hears, X.method, X.code, X.here, X.tail, X.warmed, ?_, ?_, ?_⟩
  · have h := X.room
    have hU : ((T.setVm s.vm).setFrames (.invoking m args :: below)).localsInUse = s.localsInUse := by
      rw [State.localsInUse_invoking hF (meth := meth) (c := c) X.method X.code, State.localsInUse_invoking X.frames X.method X.code]
    simp only [State.hasRoom, Bool.and_eq_true, decide_eq_true_eq] at h ⊢
    obtain ⟨⟨⟨⟨h1, h2, h3, h4, h5, h6⟩, h7⟩, h8⟩, h9⟩ := h
    rw [X.frames, List.length_cons] at h2 h3
    have q1 := X.heapSize
    have q2 := X.used
    simp only [hF, hU, List.length_cons, State.stackLimits_setFrames, State.stackBytes_setFrames, hl9, hb9]
    refine ⟨⟨⟨⟨by omega, by omega, by omega, by omega, by omega, h6⟩, ?_⟩, ?_⟩, X.book⟩
    · show T.heap.size + R'.cells ≤ e.platform.maxCells
      omega
    · show T.slotsUsed + R'.slots ≤ e.platform.maxSlots
      omega
  · rw [State.stackLimits_setFrames]; rfl
  · rw [State.stackBytes_setFrames]; rfl
  · refine ⟨?_, Nat.le_refl _, Nat.le_refl _, ?_, ?_, fun a c9 h9 => ⟨c9, h9, rfl, rfl, fun _ _ => rfl⟩⟩
    · obtain ⟨t, ht, -⟩ := State.frames_cons hr
      show T.setVm s.vm = { ((T.setVm s.vm).setFrames (.invoking m args :: below)).setFrames (T.setVm s.vm).frames with heap := T.heap, slotsUsed := T.slotsUsed }
      rw [State.setFrames_setFrames, State.setFrames_self ht]
      rfl
    · show T.slotsUsed = T.slotsUsed + ((T.heap.toList.drop T.heap.size).map (·.slots.size)).sum
      rw [List.drop_eq_nil_of_le (Nat.le_of_eq Array.length_toList)]
      rfl
    · show ((T.heap.toList.drop T.heap.size).map (·.slots.size)).sum ≤ 0
      rw [List.drop_eq_nil_of_le (Nat.le_of_eq Array.length_toList)]
      exact Nat.le_refl _
/-- 'throw new E()': new; dup; invokespecial; athrow -/
theorem vx_throw0 {cc : ByteArray} {pc : Nat} (hexec : p.tables.exec = Jvm.exec) (hb : c.code = cc) (hl : l.stackTraces = false) {own cls : String} {names : List String} {ik ic mc ms : Nat} {A : Nat → Prop}
    (hown : s.vm.findClass own = some m.cls) (hcls : Bundle.fit cls = true) (hnames : ∀ n ∈ names, Bundle.fit n = true)
    (hk : (Cond.classLink own ik cls).before args s = true) (hini : (Cond.initialized cls).before args s = true) (hat : ∀ w ∈ vx_at0 own ic cls names, w.before args s = true)
    (hgood : ∀ w ∈ Cond.classLink own ik cls :: Cond.initialized cls :: vx_at0 own ic cls names, vx_ot w = true)
    (hU : vx_Zq Bundle.tN "UNASSIGNED_STACK" Bundle.steD A s s.heap) (hN : vx_Zq Bundle.tN "SUPPRESSED_SENTINEL" Bundle.listD A s s.heap) (hS : va_S A s.heap H locs) (hsize : ls.size = c.maxLocals)
    (d0 : decode cc pc = .ok (.new ik, 3)) (d3 : decode cc (pc + 3) = .ok (.dup, 1)) (d4 : decode cc (pc + 4) = .ok (.invokespecial ic, 3)) (d7 : decode cc (pc + 7) = .ok (.athrow, 1))
    (hout : ∀ x ∈ c.exceptionTable.toList, covers x (pc + 7) = false)
    (hRframes : names.length + 3 < R.frames) (hRlocals : (rest.map fun v => v.category).sum + (13 * (names.length + 1) + 42) ≤ R.locals) (hRcells : cells + 1 ≤ R.cells) (hRslots : slots + 6 ≤ R.slots) (hlocks : meth.locks = false)
    (hx : ∀ t : State, s.vm.Alike t.vm → H.size ≤ t.heap.size → (∀ q : Nat, q < H.size → t.heap[q]? = H[q]?) → XC cls s t)
    (hf : ∀ z ∈ locs, free z.base) (hc : cells + 1 ≤ mc) (hs : slots + 6 ≤ ms) :
    W p l e R s m args below meth c H locs cells slots (vx_MQ below Qc XC args s mc ms free) (F0 m pc ls rest) := by
  intro T hT X
  have htr : e.platform.stackTraces = false := (show e.platform.stackTraces = l.stackTraces by rw [X.admits.platform]).trans hl
  have Y := vx_rebase X (R' := { frames := R.frames, locals := R.locals, cells := 1, slots := 6 }) (Nat.le_refl _) (Nat.le_refl _) hRcells hRslots
  obtain ⟨s', hA⟩ : ∃ z, z = (T.setVm s.vm).setFrames (.invoking m args :: below) := ⟨_, rfl⟩
  rw [← hA] at Y
  have hvm : s'.vm = s.vm := by rw [hA]; rfl
  have hhp : s'.heap = H := by rw [hA]; exact hT
  have hW0 : s.WarmedH s'.vm := by rw [hvm]; exact State.WarmedH.refl s
  have hat' : ∀ w ∈ vx_at0 own ic cls names, w.before args s' = true := fun w hw => vx_ot_at hW0 hvm.symm (hgood w (List.mem_cons_of_mem _ (List.mem_cons_of_mem _ hw))) (hat w hw)
  have hk' : (Cond.classLink own ik cls).before args s' = true := vx_ot_at hW0 hvm.symm (hgood _ List.mem_cons_self) hk
  have hini' : (Cond.initialized cls).before args s' = true := vx_ot_at hW0 hvm.symm (hgood _ (List.mem_cons_of_mem _ List.mem_cons_self)) hini
  have hU' : vx_Zq Bundle.tN "UNASSIGNED_STACK" Bundle.steD A s' s'.heap := by rw [hhp]; exact vx_Zq.moved hW0.alike (hU.kept hS.2.1)
  have hN' : vx_Zq Bundle.tN "SUPPRESSED_SENTINEL" Bundle.listD A s' s'.heap := by rw [hhp]; exact vx_Zq.moved hW0.alike (hN.kept hS.2.1)
  have h : ∀ w ∈ Bundle.ownAtoms0 own ic cls names, w.before args s' = true := vx_own hat' (vx_isRefq hU'.1) (vx_isRefq hN'.1) hU'.2.word hN'.2.word
  have hown' : s'.vm.findClass own = some m.cls := by rw [hvm]; exact hown
  have hins : (Cond.instantiable cls 6).before args s' = true := h _ (by simp [Bundle.ownAtoms0])
  obtain ⟨vm₁, cX, kX, hfX, hkX, -, -, X₁, st1⟩ := Y.newCold hexec (own := own) (C := cls) (index := ik) (n := 6) hown' hk' hins hini'
    (g := F0 m pc ls rest) rfl (by rw [hb]; exact d0) (Nat.le_refl _) (Nat.le_refl _)
  generalize hT1 : (T.setVm vm₁).pushCell { cls := cX, slots := kX.instanceTypes.map defaultValue, vm := .none } = T1 at X₁ st1
  have hcat : (Value.ref T.heap.size).category = 1 := rfl
  have hcellA : T1.heap[T.heap.size]? = some (freshCell cX kX) := by rw [← hT1]; exact State.heap_pushCell_size _ _
  have d3' : decode c.code (pc + 3) = .ok (.dup, 1) := by rw [hb]; exact d3
  obtain ⟨U, hsteps, hrun, hend, hW, hsame, ce, hce, hO⟩ := X₁.ctorThrow0 hexec htr (own := own) (cls := cls) (names := names) (ic := ic) hown' hcls hnames h (fun x hx => nomatch hx) hfX hkX hcellA (by rw [hhp, hT]; exact Nat.le_refl _)
    (g := { method := m, pc := pc + 4, locals := ls, stack := .ref T.heap.size :: .ref T.heap.size :: rest, locked := none }) rfl hsize rfl rfl (rest := rest) rfl
    (by rw [hb]; exact d4) (by rw [hb]; exact d7) hout hRframes (by simp only [List.map_cons, List.sum_cons, hcat]; omega) hlocks
  obtain ⟨f1, f2⟩ := vx_frame hsame
  rw [hhp] at f1 f2
  have hWs : s.WarmedH U.vm := State.WarmedH.trans hW0 hW
  have hcl : s.vm.findClass cls = some ce.cls := by
    have h9 := hO.cls
    rw [hvm] at h9
    exact h9
  have hall : s.sameButNew ({ U with vm := s.vm } : State) locs mc ms := by
    subst hA
    obtain ⟨e1, e2⟩ := hsame
    rw [State.setFrames_setFrames] at e1
    have h2 : (T.setVm s.vm).sameButNew ({ U with vm := s.vm } : State) [] (0 + 1) (0 + 6) := ⟨e1, e2⟩
    have h3 := X.same.trans h2
    rw [List.append_nil] at h3
    exact h3.mono hc hs
  refine ⟨U, ?_, .threw T.heap.size, hrun, hend, Or.inr ⟨T.heap.size, rfl, cls, ce, locs, hx U hWs.alike f1 (fun q hq => f2 q hq (fun z hz => nomatch hz)), hce, hO.vm, hcl, hWs, hall, hf⟩⟩
  refine st1 _ ?_
  show Steps p.tables e below (T1.setTop { method := m, pc := pc + 3, locals := ls, stack := .ref T.heap.size :: rest, locked := none }) _
  jvm_step X₁.here [X₁.here.top, hexec, d3', Value.category]
  exact hsteps
/-- 'throw new E("text")': new; dup; ldc; invokespecial; athrow -/
theorem vx_throwS {cc : ByteArray} {pc : Nat} (hexec : p.tables.exec = Jvm.exec) (hb : c.code = cc) (hl : l.stackTraces = false) {own cls text : String} {names : List String} {ik is ic mc ms sa : Nat} {A : Nat → Prop}
    (hown : s.vm.findClass own = some m.cls) (hcls : Bundle.fit cls = true) (hnames : ∀ n ∈ names, Bundle.fit n = true)
    (hk : (Cond.classLink own ik cls).before args s = true) (hini : (Cond.initialized cls).before args s = true) (hstr : vk_R own is text sa s) (hat : ∀ w ∈ vx_atS own ic cls names, w.before args s = true)
    (hgood : ∀ w ∈ Cond.classLink own ik cls :: Cond.initialized cls :: vx_atS own ic cls names, vx_ot w = true)
    (hU : vx_Zq Bundle.tN "UNASSIGNED_STACK" Bundle.steD A s s.heap) (hN : vx_Zq Bundle.tN "SUPPRESSED_SENTINEL" Bundle.listD A s s.heap) (hS : va_S A s.heap H locs) (hsize : ls.size = c.maxLocals)
    (d0 : decode cc pc = .ok (.new ik, 3)) (d3 : decode cc (pc + 3) = .ok (.dup, 1)) (d4 : decode cc (pc + 4) = .ok (.ldc is, 2)) (d6 : decode cc (pc + 6) = .ok (.invokespecial ic, 3)) (d9 : decode cc (pc + 9) = .ok (.athrow, 1))
    (hout : ∀ x ∈ c.exceptionTable.toList, covers x (pc + 9) = false)
    (hRframes : names.length + 3 < R.frames) (hRlocals : (rest.map fun v => v.category).sum + (13 * (names.length + 1) + 43) ≤ R.locals) (hRcells : cells + 1 ≤ R.cells) (hRslots : slots + 6 ≤ R.slots) (hlocks : meth.locks = false)
    (hx : ∀ t : State, s.vm.Alike t.vm → H.size ≤ t.heap.size → (∀ q : Nat, q < H.size → t.heap[q]? = H[q]?) → XC cls s t)
    (hf : ∀ z ∈ locs, free z.base) (hc : cells + 1 ≤ mc) (hs : slots + 6 ≤ ms) :
    W p l e R s m args below meth c H locs cells slots (vx_MQ below Qc XC args s mc ms free) (F0 m pc ls rest) := by
  intro T hT X
  have htr : e.platform.stackTraces = false := (show e.platform.stackTraces = l.stackTraces by rw [X.admits.platform]).trans hl
  have Y := vx_rebase X (R' := { frames := R.frames, locals := R.locals, cells := 1, slots := 6 }) (Nat.le_refl _) (Nat.le_refl _) hRcells hRslots
  obtain ⟨s', hA⟩ : ∃ z, z = (T.setVm s.vm).setFrames (.invoking m args :: below) := ⟨_, rfl⟩
  rw [← hA] at Y
  have hvm : s'.vm = s.vm := by rw [hA]; rfl
  have hhp : s'.heap = H := by rw [hA]; exact hT
  have hW0 : s.WarmedH s'.vm := by rw [hvm]; exact State.WarmedH.refl s
  have hat' : ∀ w ∈ vx_atS own ic cls names, w.before args s' = true := fun w hw => vx_ot_at hW0 hvm.symm (hgood w (List.mem_cons_of_mem _ (List.mem_cons_of_mem _ hw))) (hat w hw)
  have hk' : (Cond.classLink own ik cls).before args s' = true := vx_ot_at hW0 hvm.symm (hgood _ List.mem_cons_self) hk
  have hini' : (Cond.initialized cls).before args s' = true := vx_ot_at hW0 hvm.symm (hgood _ (List.mem_cons_of_mem _ List.mem_cons_self)) hini
  have hU' : vx_Zq Bundle.tN "UNASSIGNED_STACK" Bundle.steD A s' s'.heap := by rw [hhp]; exact vx_Zq.moved hW0.alike (hU.kept hS.2.1)
  have hN' : vx_Zq Bundle.tN "SUPPRESSED_SENTINEL" Bundle.listD A s' s'.heap := by rw [hhp]; exact vx_Zq.moved hW0.alike (hN.kept hS.2.1)
  have h : ∀ w ∈ Bundle.ownAtoms own ic cls names, w.before args s' = true := vx_own hat' (vx_isRefq hU'.1) (vx_isRefq hN'.1) hU'.2.word hN'.2.word
  have hown' : s'.vm.findClass own = some m.cls := by rw [hvm]; exact hown
  have hins : (Cond.instantiable cls 6).before args s' = true := h _ (by simp [Bundle.ownAtoms])
  obtain ⟨vm₁, cX, kX, hfX, hkX, -, -, X₁, st1⟩ := Y.newCold hexec (own := own) (C := cls) (index := ik) (n := 6) hown' hk' hins hini'
    (g := F0 m pc ls rest) rfl (by rw [hb]; exact d0) (Nat.le_refl _) (Nat.le_refl _)
  generalize hT1 : (T.setVm vm₁).pushCell { cls := cX, slots := kX.instanceTypes.map defaultValue, vm := .none } = T1 at X₁ st1
  have hcat : (Value.ref T.heap.size).category = 1 := rfl
  have hcellA : T1.heap[T.heap.size]? = some (freshCell cX kX) := by rw [← hT1]; exact State.heap_pushCell_size _ _
  have d3' : decode c.code (pc + 3) = .ok (.dup, 1) := by rw [hb]; exact d3
  have d4' : decode c.code (pc + 4) = .ok (.ldc is, 2) := by rw [hb]; exact d4
  have hstr' : vk_R own is text sa s' := vk_R.warm hW0 hstr
  obtain ⟨U, hsteps, hrun, hend, hW, hsame, ce, hce, hO⟩ := X₁.ctorThrowS hexec htr (own := own) (cls := cls) (names := names) (ic := ic) hown' hcls hnames h (fun x hx => nomatch hx) hfX hkX hcellA (by rw [hhp, hT]; exact Nat.le_refl _) (msg := .ref sa) rfl
    (g := { method := m, pc := pc + 6, locals := ls, stack := .ref sa :: .ref T.heap.size :: .ref T.heap.size :: rest, locked := none }) rfl hsize rfl rfl (rest := rest) rfl
    (by rw [hb]; exact d6) (by rw [hb]; exact d9) hout hRframes (by simp only [List.map_cons, List.sum_cons, hcat]; omega) hlocks
  obtain ⟨f1, f2⟩ := vx_frame hsame
  rw [hhp] at f1 f2
  have hWs : s.WarmedH U.vm := State.WarmedH.trans hW0 hW
  have hcl : s.vm.findClass cls = some ce.cls := by
    have h9 := hO.cls
    rw [hvm] at h9
    exact h9
  have hall : s.sameButNew ({ U with vm := s.vm } : State) locs mc ms := by
    subst hA
    obtain ⟨e1, e2⟩ := hsame
    rw [State.setFrames_setFrames] at e1
    have h2 : (T.setVm s.vm).sameButNew ({ U with vm := s.vm } : State) [] (0 + 1) (0 + 6) := ⟨e1, e2⟩
    have h3 := X.same.trans h2
    rw [List.append_nil] at h3
    exact h3.mono hc hs
  refine ⟨U, ?_, .threw T.heap.size, hrun, hend, Or.inr ⟨T.heap.size, rfl, cls, ce, locs, hx U hWs.alike f1 (fun q hq => f2 q hq (fun z hz => nomatch hz)), hce, hO.vm, hcl, hWs, hall, hf⟩⟩
  refine st1 _ ?_
  show Steps p.tables e below (T1.setTop { method := m, pc := pc + 3, locals := ls, stack := .ref T.heap.size :: rest, locked := none }) _
  jvm_step X₁.here [X₁.here.top, hexec, d3', Value.category]
  exact X₁.ldcString hexec (own := own) (text := text) (index := is) (a := sa) hown' hstr'.1 hstr'.2
    (g := { method := m, pc := pc + 4, locals := ls, stack := .ref T.heap.size :: .ref T.heap.size :: rest, locked := none }) rfl d4' _ hsteps
/-- 'throw new E("text")', the text by a wide index -/
theorem vx_throwSW {cc : ByteArray} {pc : Nat} (hexec : p.tables.exec = Jvm.exec) (hb : c.code = cc) (hl : l.stackTraces = false) {own cls text : String} {names : List String} {ik is ic mc ms sa : Nat} {A : Nat → Prop}
    (hown : s.vm.findClass own = some m.cls) (hcls : Bundle.fit cls = true) (hnames : ∀ n ∈ names, Bundle.fit n = true)
    (hk : (Cond.classLink own ik cls).before args s = true) (hini : (Cond.initialized cls).before args s = true) (hstr : vk_R own is text sa s) (hat : ∀ w ∈ vx_atS own ic cls names, w.before args s = true)
    (hgood : ∀ w ∈ Cond.classLink own ik cls :: Cond.initialized cls :: vx_atS own ic cls names, vx_ot w = true)
    (hU : vx_Zq Bundle.tN "UNASSIGNED_STACK" Bundle.steD A s s.heap) (hN : vx_Zq Bundle.tN "SUPPRESSED_SENTINEL" Bundle.listD A s s.heap) (hS : va_S A s.heap H locs) (hsize : ls.size = c.maxLocals)
    (d0 : decode cc pc = .ok (.new ik, 3)) (d3 : decode cc (pc + 3) = .ok (.dup, 1)) (d4 : decode cc (pc + 4) = .ok (.ldc_w is, 3)) (d7 : decode cc (pc + 7) = .ok (.invokespecial ic, 3)) (d10 : decode cc (pc + 10) = .ok (.athrow, 1))
    (hout : ∀ x ∈ c.exceptionTable.toList, covers x (pc + 10) = false)
    (hRframes : names.length + 3 < R.frames) (hRlocals : (rest.map fun v => v.category).sum + (13 * (names.length + 1) + 43) ≤ R.locals) (hRcells : cells + 1 ≤ R.cells) (hRslots : slots + 6 ≤ R.slots) (hlocks : meth.locks = false)
    (hx : ∀ t : State, s.vm.Alike t.vm → H.size ≤ t.heap.size → (∀ q : Nat, q < H.size → t.heap[q]? = H[q]?) → XC cls s t)
    (hf : ∀ z ∈ locs, free z.base) (hc : cells + 1 ≤ mc) (hs : slots + 6 ≤ ms) :
    W p l e R s m args below meth c H locs cells slots (vx_MQ below Qc XC args s mc ms free) (F0 m pc ls rest) := by
  intro T hT X
  have htr : e.platform.stackTraces = false := (show e.platform.stackTraces = l.stackTraces by rw [X.admits.platform]).trans hl
  have Y := vx_rebase X (R' := { frames := R.frames, locals := R.locals, cells := 1, slots := 6 }) (Nat.le_refl _) (Nat.le_refl _) hRcells hRslots
  obtain ⟨s', hA⟩ : ∃ z, z = (T.setVm s.vm).setFrames (.invoking m args :: below) := ⟨_, rfl⟩
  rw [← hA] at Y
  have hvm : s'.vm = s.vm := by rw [hA]; rfl
  have hhp : s'.heap = H := by rw [hA]; exact hT
  have hW0 : s.WarmedH s'.vm := by rw [hvm]; exact State.WarmedH.refl s
  have hat' : ∀ w ∈ vx_atS own ic cls names, w.before args s' = true := fun w hw => vx_ot_at hW0 hvm.symm (hgood w (List.mem_cons_of_mem _ (List.mem_cons_of_mem _ hw))) (hat w hw)
  have hk' : (Cond.classLink own ik cls).before args s' = true := vx_ot_at hW0 hvm.symm (hgood _ List.mem_cons_self) hk
  have hini' : (Cond.initialized cls).before args s' = true := vx_ot_at hW0 hvm.symm (hgood _ (List.mem_cons_of_mem _ List.mem_cons_self)) hini
  have hU' : vx_Zq Bundle.tN "UNASSIGNED_STACK" Bundle.steD A s' s'.heap := by rw [hhp]; exact vx_Zq.moved hW0.alike (hU.kept hS.2.1)
  have hN' : vx_Zq Bundle.tN "SUPPRESSED_SENTINEL" Bundle.listD A s' s'.heap := by rw [hhp]; exact vx_Zq.moved hW0.alike (hN.kept hS.2.1)
  have h : ∀ w ∈ Bundle.ownAtoms own ic cls names, w.before args s' = true := vx_own hat' (vx_isRefq hU'.1) (vx_isRefq hN'.1) hU'.2.word hN'.2.word
  have hown' : s'.vm.findClass own = some m.cls := by rw [hvm]; exact hown
  have hins : (Cond.instantiable cls 6).before args s' = true := h _ (by simp [Bundle.ownAtoms])
  obtain ⟨vm₁, cX, kX, hfX, hkX, -, -, X₁, st1⟩ := Y.newCold hexec (own := own) (C := cls) (index := ik) (n := 6) hown' hk' hins hini'
    (g := F0 m pc ls rest) rfl (by rw [hb]; exact d0) (Nat.le_refl _) (Nat.le_refl _)
  generalize hT1 : (T.setVm vm₁).pushCell { cls := cX, slots := kX.instanceTypes.map defaultValue, vm := .none } = T1 at X₁ st1
  have hcat : (Value.ref T.heap.size).category = 1 := rfl
  have hcellA : T1.heap[T.heap.size]? = some (freshCell cX kX) := by rw [← hT1]; exact State.heap_pushCell_size _ _
  have d3' : decode c.code (pc + 3) = .ok (.dup, 1) := by rw [hb]; exact d3
  have d4' : decode c.code (pc + 4) = .ok (.ldc_w is, 3) := by rw [hb]; exact d4
  have hstr' : vk_R own is text sa s' := vk_R.warm hW0 hstr
  obtain ⟨U, hsteps, hrun, hend, hW, hsame, ce, hce, hO⟩ := X₁.ctorThrowS hexec htr (own := own) (cls := cls) (names := names) (ic := ic) hown' hcls hnames h (fun x hx => nomatch hx) hfX hkX hcellA (by rw [hhp, hT]; exact Nat.le_refl _) (msg := .ref sa) rfl
    (g := { method := m, pc := pc + 7, locals := ls, stack := .ref sa :: .ref T.heap.size :: .ref T.heap.size :: rest, locked := none }) rfl hsize rfl rfl (rest := rest) rfl
    (by rw [hb]; exact d7) (by rw [hb]; exact d10) hout hRframes (by simp only [List.map_cons, List.sum_cons, hcat]; omega) hlocks
  obtain ⟨f1, f2⟩ := vx_frame hsame
  rw [hhp] at f1 f2
  have hWs : s.WarmedH U.vm := State.WarmedH.trans hW0 hW
  have hcl : s.vm.findClass cls = some ce.cls := by
    have h9 := hO.cls
    rw [hvm] at h9
    exact h9
  have hall : s.sameButNew ({ U with vm := s.vm } : State) locs mc ms := by
    subst hA
    obtain ⟨e1, e2⟩ := hsame
    rw [State.setFrames_setFrames] at e1
    have h2 : (T.setVm s.vm).sameButNew ({ U with vm := s.vm } : State) [] (0 + 1) (0 + 6) := ⟨e1, e2⟩
    have h3 := X.same.trans h2
    rw [List.append_nil] at h3
    exact h3.mono hc hs
  refine ⟨U, ?_, .threw T.heap.size, hrun, hend, Or.inr ⟨T.heap.size, rfl, cls, ce, locs, hx U hWs.alike f1 (fun q hq => f2 q hq (fun z hz => nomatch hz)), hce, hO.vm, hcl, hWs, hall, hf⟩⟩
  refine st1 _ ?_
  show Steps p.tables e below (T1.setTop { method := m, pc := pc + 3, locals := ls, stack := .ref T.heap.size :: rest, locked := none }) _
  jvm_step X₁.here [X₁.here.top, hexec, d3', Value.category]
  exact X₁.ldcStringW hexec (own := own) (text := text) (index := is) (a := sa) hown' hstr'.1 hstr'.2
    (g := { method := m, pc := pc + 4, locals := ls, stack := .ref T.heap.size :: .ref T.heap.size :: rest, locked := none }) rfl d4' _ hsteps
end Ends
section Bodies
variable {l : Launch}
theorem vx_ofW {y : MethodName} {ws ws' : List Cond} {rm : Room} {Pc : Array Value → State → Prop} {Qc : Array Value → State → Outcome → State → Prop} {XC : String → State → State → Prop} {mc ms : Nat} {free : Addr → Prop} {cc : ByteArray} {maxL : Nat} {ret : Option FieldType}
    (hy : plainName y.cls = true) (hw : ws = Cond.code y cc maxL ret :: ws')
    (body : ∀ p e s m args below meth c s₁, BodyLoose p l y (headSpec ws rm) cc maxL ret e s m args below meth c s₁ → c.maxLocals = maxL → (∀ x ∈ c.exceptionTable.toList, False) → Pc args s →
      W p l e (headSpec ws rm).room s m args below meth c s.heap [] 0 0 (vx_MQ below Qc XC args s mc ms free) (entryFrame m args maxL)) : vx_Met l y ws rm Pc Qc XC mc ms free := by
  refine MetFree.of_bodyS (code := cc) (maxLocals := maxL) (ret := ret) hy ?_ ?_
  · intro args s m h hn
    obtain ⟨meth, c, h1, h2, h3, h4, h5, h6, -, -⟩ := Cond.code_spec hn (atoms_spec (ws := ws) h _ (by rw [hw]; exact List.mem_cons_self))
    exact ⟨meth, c, h1, h2, h3, h4, h5, h6⟩
  · intro p e s m args below meth c s₁ B hml hP _
    have hh0 : s₁.heap = s.heap := by rw [B.state]; rfl
    have ht : ∀ x ∈ c.exceptionTable.toList, False := by
      obtain ⟨meth9, c9, h1, h2, -, -, -, -, h7, -⟩ := Cond.code_spec B.named (atoms_spec (ws := ws) B.pre _ (by rw [hw]; exact List.mem_cons_self))
      cases Option.some.inj (h1.symm.trans B.method)
      cases Option.some.inj (h2.symm.trans (Stand.of_body B).code)
      intro x hx
      rw [Array.isEmpty_iff.mp h7] at hx
      cases hx
    obtain ⟨t, a1, o, b1, b2, b3⟩ := body p e s m args below meth c s₁ B hml ht hP s₁ hh0 (Stand.of_body B)
    exact ⟨t, o, a1, b1, b2, b3⟩
/-- the table of a body with handlers -/
theorem vx_table {p : Program} {x y : MethodName} {S : Spec} {cc bytes : ByteArray} {maxL maxL' : Nat} {ret ret' : Option FieldType} {e : Env} {s s₁ : State} {m : MethodId} {args : Array Value} {below : List Frame} {meth : Method} {c : Code} {hh : List (Nat × Nat × Nat × Nat)}
    (B : BodyLoose p l y S cc maxL ret e s m args below meth c s₁) (h : (Cond.codeWith y bytes maxL' ret' hh).before args s = true) : c.exceptionTable.toList = tableOf hh := by
  obtain ⟨m9, meth9, c9, hn9, h1, h2, -, -, h6, -⟩ := Cond.codeWith_spec h
  cases Option.some.inj (hn9.symm.trans B.named)
  cases Option.some.inj (h1.symm.trans B.method)
  cases Option.some.inj (h2.symm.trans (Stand.of_body B).code)
  rw [← h6, table_eq]
end Bodies
end VXA
/-! ===== END ===== -/
/-! ===== BEGIN a static call of a method with an exception table ===== -/
section VXS
variable {p : Program} {l : Launch} {e : Env} {R : Room} {s : State} {m : MethodId} {args : Array Value} {below : List Frame} {meth : Method} {c : Code} {T : State} {H : Heap} {locs : List Loc} {cells slots : Nat}
abbrev vx_CSW (R : Room) (s : State) (args : Array Value) (own : String) (index : Nat) (y : MethodName) (bytes : ByteArray) (maxL : Nat) (ret : Option FieldType) (hh : List (Nat × Nat × Nat × Nat)) (ws : List Cond) (rm : Room) (mc ms n : Nat) : Prop :=
  (rm.cells = mc ∧ rm.slots = ms ∧ rm.frames + 1 ≤ R.frames ∧ 8 + (maxL + 11) + rm.locals ≤ R.locals ∧ (∀ w ∈ ws, ∀ (a' : Array Value) (U : State), s.WarmedH U.vm → w.before a' U = true) ∧ Cond.codeWith y bytes maxL ret hh ∈ ws) ∧
  (Cond.codeWith y bytes maxL ret hh).before args s = true ∧ (Cond.initialized y.cls).before args s = true ∧ (y.cls ≠ "java/lang/invoke/MethodHandle" ∧ y.cls ≠ "java/lang/invoke/VarHandle") ∧
  (∀ sig, parseMethodDescriptor y.desc = some sig → n = sig.parameters.length) ∧ (Cond.methodLink own index y).before args s = true ∧ (Cond.static y).before args s = true
theorem vx_cwSW {own : String} {index maxL mc ms : Nat} {y : MethodName} {bytes : ByteArray} {ret : Option FieldType} {hh : List (Nat × Nat × Nat × Nat)} {Ts ws ws' : List Cond} {rm : Room} (n : Nat) (ht : ∀ w ∈ Ts, w.before args s = true) (hT : GoodIn Ts (va_wsS own index y ws)) (hw : ws = Cond.codeWith y bytes maxL ret hh :: ws') (hrc : rm.cells = mc) (hrs : rm.slots = ms)
    (hd : y.cls ≠ "java/lang/invoke/MethodHandle" ∧ y.cls ≠ "java/lang/invoke/VarHandle" ∧ (parseMethodDescriptor y.desc).map (fun d => d.parameters.length) = some n) (hR : rm.frames + 1 ≤ R.frames ∧ 8 + (maxL + 11) + rm.locals ≤ R.locals) :
    vx_CSW R s args own index y bytes maxL ret hh ws rm mc ms n := by
  have ok : ∀ w ∈ va_wsS own index y ws, w.before args s = true := fun w h => ht w (hT w h).1
  have hG : GoodIn Ts ws := fun w h => hT w (by unfold va_wsS; exact List.mem_append_right _ h)
  have hc : Cond.codeWith y bytes maxL ret hh ∈ ws := by rw [hw]; exact List.mem_cons_self
  refine ⟨⟨hrc, hrs, hR.1, hR.2, pay_in ht hG, hc⟩, ht _ (hG _ hc).1, ok _ (by simp [va_wsS]), ⟨hd.1, hd.2.1⟩, fun sig h => ?_, ok _ (by simp [va_wsS]), ok _ (by simp [va_wsS])⟩
  have h2 := hd.2.2
  rw [h] at h2
  exact (Option.some.inj h2).symm
theorem vx_callSW (X : Stand p l e R s m args below meth c T locs cells slots) (hexec : p.tables.exec = Jvm.exec) {own : String} {index : Nat} {y : MethodName} {bytes : ByteArray} {maxL : Nat} {ret : Option FieldType} {hh : List (Nat × Nat × Nat × Nat)}
    (hown : s.vm.findClass own = some m.cls) (hlink : (Cond.methodLink own index y).before args s = true) (hstat : (Cond.static y).before args s = true) (hinit : (Cond.initialized y.cls).before args s = true)
    (hcode : (Cond.codeWith y bytes maxL ret hh).before args s = true) (hy : y.cls ≠ "java/lang/invoke/MethodHandle" ∧ y.cls ≠ "java/lang/invoke/VarHandle")
    {W9 : Nat} {Pre : Pt → Array Value → Prop} {Post : Pt → Array Value → Option Value → Pt → Prop} (hK : Back l R p e below s args y 3 W9 Pre Post)
    {g : JFrame} (hg : g.method = m) (hsize : g.locals.size = c.maxLocals) {argsL rest : List Value} (hlen : ∀ sig, parseMethodDescriptor y.desc = some sig → argsL.length = sig.parameters.length)
    (hstack : g.stack = argsL.reverse ++ rest) (hW : 2 * g.monitorRoom + (rest.map fun v => v.category).sum ≤ W9) (hdg : decode c.code g.pc = .ok (.invokestatic index, 3))
    (hpre : ∀ vm₁, s.WarmedH vm₁ → Pre ⟨T.setVm vm₁, locs, cells, slots⟩ argsL.toArray) :
    ∃ (v : Option Value) (vm₁ : Vm) (B : Pt), s.WarmedH vm₁ ∧ Stand p l e R s m args below meth c B.U B.locs B.cells B.slots ∧ Post ⟨T.setVm vm₁, locs, cells, slots⟩ argsL.toArray v B ∧
      ∀ target, Steps p.tables e below (B.U.setTop { g with pc := g.pc + 3, stack := v.toList ++ rest }) target → Steps p.tables e below (T.setTop g) target := by
  obtain ⟨mk, methM, cM, hnamed, hmethM, -, -, -, -, -, -, hsigM⟩ := Cond.codeWith_spec hcode
  have hstatic : methM.isStatic = true := Cond.static_spec hnamed hmethM hstat
  obtain ⟨kP, hkP, -⟩ := className_of_methodNamed hnamed
  have hinitP : kP.init = .initialized := Cond.initialized_spec (findClass_of_methodNamed hnamed) hkP hinit
  obtain ⟨vm₁, X₁, hstep₁⟩ := X.invokestatic hexec hown hlink hnamed hmethM hstatic hkP hinitP hy (g := g) hg (argsL := argsL) (rest := rest) (hlen _ hsigM) hstack hdg
  obtain ⟨v, B, X', hpost, hsteps⟩ := hK m meth c ⟨T.setVm vm₁, locs, cells, slots⟩ { g with stack := rest } (.invokestatic index) mk argsL.toArray X₁ hg hsize hdg hW (X₁.named hnamed) (hpre vm₁ X₁.warmed)
  exact ⟨v, vm₁, B, X₁.warmed, X', hpost, fun target h => hstep₁ _ fun acts => by rw [doInvoke_state]; exact hsteps.trans h⟩
theorem vx_runSW {y : MethodName} {bytes cc : ByteArray} {maxL nL mc ms n index : Nat} {ret : Option FieldType} {hh : List (Nat × Nat × Nat × Nat)} {ws : List Cond} {rm : Room} {Pc : Array Value → State → Prop} {Qc : Array Value → State → Outcome → State → Prop} {free : Addr → Prop} {Ts : List Cond} {own : String} {As rest : List Value} {g : JFrame}
    (S : CallFix p m c cc nL s args Ts own) (hM : Met l y ws rm Pc Qc mc ms free) (cw : vx_CSW R s args own index y bytes maxL ret hh ws rm mc ms n) (hp : PreS s H Pc As)
    (hg : g.method = m) (hn : As.length = n) (hsize : g.locals.size = nL) (hstack : g.stack = As.reverse ++ rest) (hW : 2 * g.monitorRoom + (rest.map fun v => v.category).sum ≤ 8) (hdg : decode cc g.pc = .ok (.invokestatic index, 3)) (hf : cells + mc ≤ R.cells ∧ slots + ms ≤ R.slots) :
    va_Run p l e R s m args below meth c H locs cells slots mc ms g rest (Qc As.toArray) (free) := by
  obtain ⟨⟨hrc, hrs, hfr, hlo, hws, hcw⟩, hcode, hini, hy, hlen, hl, hstt⟩ := cw
  have hK : Back l R p e below s args y 3 8 (PreOf R mc ms Pc) (PostOf Qc mc ms free) := va_backW (hh := hh) (bytes := bytes) (maxL := maxL) (ret := ret) hM hp.1 hrc hrs hfr hlo hws hcw (fun a' U hW => word_at hW (Or.inl (by first | rfl | simp [Cond.onTables, Cond.keeps, Cond.steady])) hini)
  obtain ⟨hx, hb, hml, ho, -⟩ := S
  intro T hT X
  obtain ⟨v, vm₁, ⟨U', l2, c2, s2⟩, hW₁, X', ⟨g', mk, t, L, e1, e2, hq, h1, hL, h2, h3⟩, st⟩ := vx_callSW X hx (hh := hh) (bytes := bytes) (maxL := maxL) (ret := ret) ho hl hstt hini hcode hy hK hg (hsize.trans hml.symm) (argsL := As) (rest := rest) (fun sig h => hn.trans (hlen sig h)) hstack hW (by rw [hb]; exact hdg)
    (fun vm₁ hW₁ => ⟨hf.1, hf.2, hp.2 (T.setVm vm₁) hT hW₁⟩)
  dsimp only [Pt.U, Pt.locs, Pt.cells, Pt.slots] at X' e1 e2 h1 h2 h3 st
  subst h1; subst h2; subst h3
  exact ⟨v, (T.setVm vm₁).calling g' mk As.toArray, t, U', L, hT, X', hL, e1, e2, hq, st⟩
/-- not caught here, past rows that name other classes: it goes on to the caller -/
theorem vx_outP {p : Program} {l : Launch} {e : Env} {R : Room} {s : State} {m : MethodId} {args : Array Value} {below : List Frame} {meth : Method} {c : Code} {H : Heap} {locs : List Loc} {cells slots : Nat} {free : Addr → Prop} {ls : Array Slot} {rest : List Value} {Qc : Array Value → State → Outcome → State → Prop} {XC : String → State → State → Prop}
    {pc : Nat} {own E : String} {ce : Cell} {q : Addr} {mc ms : Nat} (hown : s.vm.findClass own = some m.cls) (hlocks : meth.locks = false)
    (hpass : ∀ z ∈ c.exceptionTable.toList, covers z pc = false ∨ (z.catchType ≠ 0 ∧ ∃ nm : String, (Cond.classLink own z.catchType nm).before args s = true ∧ va_Nc E nm s)) (hcell : H[q]? = some ce) (hv : ce.vm = .none) (hcl : s.vm.findClass E = some ce.cls)
    (hx : ∀ t : State, t.heap = H → s.vm.Alike t.vm → XC E s t) (hf : ∀ z ∈ locs, free z.base) (hc : cells ≤ mc) (hs : slots ≤ ms) :
    vx_W p l e R s m args below meth c H locs cells slots (vx_MQ below Qc XC args s mc ms free) (F0 m pc ls rest) q := by
  intro T hT X
  have hpl : e.platform.magicAccessors = ({} : Platform).magicAccessors := by rw [X.admits.platform]
  obtain ⟨vm', hW', X', st⟩ := X.outThrough hlocks q (g := F0 m pc ls rest) rfl rfl rfl (cell := ce) (by rw [hT]; exact hcell) (by rw [hv]; rfl)
    (by obtain ⟨k9, h9, -⟩ := Vm.findClass_spec hcl; exact ⟨k9, h9⟩) (fun z hz => by
      rcases hpass z hz with h | ⟨hz0, nm, hl1, hn1⟩
      · exact Or.inl h
      · obtain ⟨c6, hc6, hcl6⟩ := Cond.classLink_spec hown hl1 e.platform hpl
        obtain ⟨a8, b8, h1, h2, h3⟩ := hn1
        cases Option.some.inj (h1.symm.trans hcl)
        cases Option.some.inj (h2.symm.trans hc6)
        exact Or.inr ⟨hz0, _, hcl6, h3⟩)
  obtain ⟨g₀, hfr⟩ := X'.frames_eq
  have hcell9 : ((T.setVm vm').setFrames (.throwing q :: below)).heap[q]? = some ce := by
    show T.heap[q]? = some ce
    rw [hT]; exact hcell
  have hend : Ended ((T.setVm vm').setFrames (.throwing q :: below)) below (.threw q) := State.frames_setFrames _ (State.cur_lt_of_frames hfr)
  refine ⟨(T.setVm vm').setFrames (.throwing q :: below), ?_, .threw q, X'.here.running, hend, Or.inr ⟨q, rfl, E, ce, locs, hx _ hT (X'.ends _).1.alike, hcell9, hv, hcl, (X'.ends _).1, (X'.ends _).2.mono hc hs, hf⟩⟩
  rw [X.pushThrowing_eq]
  exact st
/-- a thing of a world lies in the heap -/
theorem vx_lt {D : va_G} {cl : List vw_C} {ws : va_W} {H1 : Heap} (h : va_P D cl ws H1) {k : Nat} {q : Nat × va_E} (hk : ws[k]? = some q) : q.1 < H1.size := (h k q hk).lt
end VXS
/-! ===== END ===== -/
/-! ===== BEGIN methods with a table of their own: called by a name, returning or throwing ===== -/
section VXH
/-! vx_backW, vx_callVX, vx_callSX, vx_callVW, vx_runVW, vx_runVX, vx_runSX, vx_ofWH follow the same proofs as their sisters above (Free/Laws.lean, Shelf42/LK1.lean); vx_outP calls Shelf42/NT130.lean (outThrough). -/
section
variable {l : Launch} {R : Room} {p : Program} {e : Env} {below : List Frame} {s : State} {sargs : Array Value} {y : MethodName} {len W9 : Nat}
theorem vx_backW {ws : List Cond} {rm : Room} {Pc : Array Value → State → Prop} {Qc : Array Value → State → Outcome → State → Prop} {XC : String → State → State → Prop} {mc ms : Nat} {free : Addr → Prop} {bytes : ByteArray} {maxL : Nat} {ret : Option FieldType} {hh : List (Nat × Nat × Nat × Nat)}
    (hM : vx_Met l y ws rm Pc Qc XC mc ms free) (hblind : FrameBlind Pc) (hrc : rm.cells = mc) (hrs : rm.slots = ms)
    (hframes : rm.frames + 1 ≤ R.frames) (hlocals : W9 + (maxL + 11) + rm.locals ≤ R.locals)
    (hws : ∀ w ∈ ws, ∀ a' U, s.WarmedH U.vm → w.before a' U = true) (hcode : Cond.codeWith y bytes maxL ret hh ∈ ws) (hinit : ∀ a' U, s.WarmedH U.vm → (Cond.initialized y.cls).before a' U = true) :
    vx_Back l R p e below s sargs y len W9 (PreOf R mc ms Pc) (PostOf Qc mc ms free) (vx_Post XC mc ms free) := by
  intro m meth c A g ig mk a X hg hsize hdg hW hn hp
  have h1 : (headSpec ws rm).pre.before a A.U = true := atoms_intro fun w hw => hws w hw _ _ X.warmed
  have h2 : (Cond.codeWith y bytes maxL ret hh).before a A.U = true := hws _ hcode _ _ X.warmed
  have h3 : (Cond.initialized y.cls).before a A.U = true := hinit _ _ X.warmed
  have h4 : A.cells + (headSpec ws rm).room.cells ≤ R.cells := by rw [show (headSpec ws rm).room.cells = mc from hrc]; exact hp.1
  have h5 : A.slots + (headSpec ws rm).room.slots ≤ R.slots := by rw [show (headSpec ws rm).room.slots = ms from hrs]; exact hp.2.1
  have hPc : Pc a (A.U.calling g mk a) := hblind _ _ _ _ hp.2.2
  obtain ⟨U, Ls, c0, s0⟩ := A
  dsimp only [Pt.U, Pt.locs, Pt.cells, Pt.slots] at h1 h2 h3 h4 h5 X hn hPc ⊢
  obtain ⟨m9, methY, cY, hn9, hmY, hcY, -, hlY, -⟩ := Cond.codeWith_spec h2
  cases Option.some.inj (hn9.symm.trans hn)
  obtain ⟨kY, hkY, -⟩ := className_of_methodNamed hn
  have hinitY : kY.init = .initialized := Cond.initialized_spec (findClass_of_methodNamed hn) hkY h3
  have h : At U g.method c below := by rw [hg]; exact X.here
  have hlocals9 : W9 + (maxL + 11) + (headSpec ws rm).room.locals ≤ R.locals := hlocals
  have happ : (headSpec ws rm).appliesLoose y e.platform (U.calling g mk a) = true :=
    Spec.appliesLoose_calling (g := g) h hdg hn hkY hinitY
      (X.room_calling (g := g) (R' := (headSpec ws rm).room) hsize hmY hcY hframes (by rw [hlY]; omega) h4 h5) h1
  obtain ⟨mid, hmid⟩ := h.above
  have hfr : (U.setTop g).frames = (.java g :: mid) ++ below := by rw [State.frames_setTop' g h.top, hmid]; rfl
  obtain ⟨o, s₂, hsteps, -, hend, hq⟩ := Steps.callFree hM p X.admits X.cas X.clock (acts := []) hfr happ hPc trivial
  have hq' : vx_Q Qc XC mc ms free a (U.calling g mk a) o s₂ := hq
  rw [State.frames_setTop' g h.top] at hend
  obtain ⟨g₀, hg0⟩ := Option.isSome_iff_exists.mp h.top
  obtain ⟨r, hr⟩ := State.topJava?_eq_some.mp hg0
  have hr' : (({ U with heap := s₂.heap, slotsUsed := s₂.slotsUsed } : State).setVm s₂.vm).frames = .java g₀ :: r := hr
  rcases hq' with ⟨hqc, L, hfe, hL⟩ | ⟨q, rfl, E, ce, L, hx, hce, hcv, hcl, hW₂, hsm, hL⟩
  · obtain ⟨⟨v, rfl⟩, hW₂, e2, q2, q3, q4, q5, q6⟩ := id hfe
    have e3 : s₂ = ({ (U.calling g mk a).setFrames s₂.frames with heap := s₂.heap, slotsUsed := s₂.slotsUsed } : State).setVm s₂.vm := by
      have : s₂ = ({ s₂ with vm := (U.calling g mk a).vm } : State).setVm s₂.vm := rfl
      rw [e2] at this
      exact this
    obtain ⟨c₂, i₂, len₂, hc₂, hd₂, hf₂⟩ := hend
    have hW' : U.WarmedH s₂.vm := hW₂
    have hcc : c₂ = c := by
      have h1 : s₂.code? g.method = U.code? g.method := by
        rw [State.code?_eq, State.code?_eq, hW'.alike.method?]
      exact Option.some.inj (hc₂.symm.trans (h1.trans h.code))
    subst hcc
    have hlen : len₂ = len := by rw [hdg] at hd₂; cases hd₂; rfl
    subst hlen
    have hs₂ : s₂ = (({ U with heap := s₂.heap, slotsUsed := s₂.slotsUsed } : State).setVm s₂.vm).setTop { g with pc := g.pc + len₂, stack := v.toList ++ g.stack } := by
      refine e3.trans ?_
      rw [hf₂, State.calling_eq h.top, State.setFrames_setFrames, State.setTop_of_frames _ hr', hr]
      rfl
    have hsame : U.sameButNew ({ U with heap := s₂.heap, slotsUsed := s₂.slotsUsed } : State) L mc ms := by
      refine ⟨?_, q2, q3, q4, q5, q6⟩
      obtain ⟨t, ht, -⟩ := State.frames_cons hr
      show ({ U with heap := s₂.heap, slotsUsed := s₂.slotsUsed } : State) = { U.setFrames U.frames with heap := s₂.heap, slotsUsed := s₂.slotsUsed }
      rw [State.setFrames_self ht]
    subst hg
    refine Or.inl ⟨v, ⟨(({ U with heap := s₂.heap, slotsUsed := s₂.slotsUsed } : State).setVm s₂.vm), Ls ++ L, c0 + mc, s0 + ms⟩,
      ⟨X.admits, X.cas, X.clock, X.frames, X.room, X.hears, X.method, X.code, (X.here.setHeapUsed s₂.heap s₂.slotsUsed).setVm hW'.alike, X.tail, State.WarmedH.trans X.warmed hW', X.limits, X.bytes, X.same.trans (hsame.setVm s.vm)⟩,
      ⟨g, mk, s₂, L, rfl, rfl, hqc, rfl, hL, rfl, rfl⟩, ?_⟩
    show Steps p.tables e below _ ((({ U with heap := s₂.heap, slotsUsed := s₂.slotsUsed } : State).setVm s₂.vm).setTop { g with pc := g.pc + len₂, stack := v.toList ++ g.stack })
    rw [← hs₂]
    exact hsteps
  · obtain ⟨e2, q2, q3, q4, q5, q6⟩ := id hsm
    have e3 : s₂ = ({ (U.calling g mk a).setFrames s₂.frames with heap := s₂.heap, slotsUsed := s₂.slotsUsed } : State).setVm s₂.vm := by
      have : s₂ = ({ s₂ with vm := (U.calling g mk a).vm } : State).setVm s₂.vm := rfl
      rw [e2] at this
      exact this
    have hf₂ : s₂.frames = .throwing q :: .java g :: U.frames.tail := hend
    have hW' : U.WarmedH s₂.vm := hW₂
    have hs₂ : s₂ = ((({ U with heap := s₂.heap, slotsUsed := s₂.slotsUsed } : State).setVm s₂.vm).setTop g).pushFrame (.throwing q) := by
      refine e3.trans ?_
      rw [hf₂, State.calling_eq h.top, State.setFrames_setFrames, State.pushFrame, State.frames_setTop _ hr', State.setTop_of_frames _ hr', State.setFrames_setFrames, hr]
      rfl
    have hsame : U.sameButNew ({ U with heap := s₂.heap, slotsUsed := s₂.slotsUsed } : State) L mc ms := by
      refine ⟨?_, q2, q3, q4, q5, q6⟩
      obtain ⟨t, ht, -⟩ := State.frames_cons hr
      show ({ U with heap := s₂.heap, slotsUsed := s₂.slotsUsed } : State) = { U.setFrames U.frames with heap := s₂.heap, slotsUsed := s₂.slotsUsed }
      rw [State.setFrames_self ht]
    subst hg
    refine Or.inr ⟨q, ⟨(({ U with heap := s₂.heap, slotsUsed := s₂.slotsUsed } : State).setVm s₂.vm), Ls ++ L, c0 + mc, s0 + ms⟩,
      ⟨X.admits, X.cas, X.clock, X.frames, X.room, X.hears, X.method, X.code, (X.here.setHeapUsed s₂.heap s₂.slotsUsed).setVm hW'.alike, X.tail, State.WarmedH.trans X.warmed hW', X.limits, X.bytes, X.same.trans (hsame.setVm s.vm)⟩,
      ⟨g, mk, s₂, L, E, ce, rfl, rfl, hx, hce, hcv, hcl, rfl, hL, rfl, rfl⟩, ?_⟩
    show Steps p.tables e below _ (((({ U with heap := s₂.heap, slotsUsed := s₂.slotsUsed } : State).setVm s₂.vm).setTop g).pushFrame (.throwing q))
    rw [← hs₂]
    exact hsteps
end
variable {p : Program} {l : Launch} {e : Env} {R : Room} {s : State} {m : MethodId} {args : Array Value} {below : List Frame} {meth : Method} {c : Code} {T : State} {H : Heap} {locs : List Loc} {cells slots : Nat}
theorem vx_callVX (X : Stand p l e R s m args below meth c T locs cells slots) (hexec : p.tables.exec = Jvm.exec) {own C : String} {index : Nat} {y : MethodName} {bytes : ByteArray} {maxL : Nat} {ret : Option FieldType} {hh : List (Nat × Nat × Nat × Nat)}
    (hown : s.vm.findClass own = some m.cls) (hlink : (Cond.methodLink own index y).before args s = true) (hinst : (Cond.instanceMethod y).before args s = true) (hsel : (Cond.selects C y y).before args s = true)
    (hcode : (Cond.codeWith y bytes maxL ret hh).before args s = true) (hy : y.cls ≠ "java/lang/invoke/MethodHandle" ∧ y.cls ≠ "java/lang/invoke/VarHandle")
    {W9 : Nat} {Pre : Pt → Array Value → Prop} {Post : Pt → Array Value → Option Value → Pt → Prop} {PostX : Pt → Array Value → Addr → Pt → Prop} (hK : vx_Back l R p e below s args y 3 W9 Pre Post PostX)
    {b : Addr} {cellB : Cell} (hcell : T.heap[b]? = some cellB) (hobj : cellB.vm.isStatics = false) (hcls : s.vm.findClass C = some cellB.cls)
    {g : JFrame} (hg : g.method = m) (hsize : g.locals.size = c.maxLocals) {argsL rest : List Value} (hlen : ∀ sig, parseMethodDescriptor y.desc = some sig → argsL.length = sig.parameters.length)
    (hstack : g.stack = argsL.reverse ++ .ref b :: rest) (hW : 2 * g.monitorRoom + (rest.map fun v => v.category).sum ≤ W9) (hdg : decode c.code g.pc = .ok (.invokevirtual index, 3))
    (hpre : ∀ vm₁, s.WarmedH vm₁ → Pre ⟨T.setVm vm₁, locs, cells, slots⟩ (Value.ref b :: argsL).toArray) :
    (∃ (v : Option Value) (vm₁ : Vm) (B : Pt), s.WarmedH vm₁ ∧ Stand p l e R s m args below meth c B.U B.locs B.cells B.slots ∧ Post ⟨T.setVm vm₁, locs, cells, slots⟩ (Value.ref b :: argsL).toArray v B ∧
      ∀ target, Steps p.tables e below (B.U.setTop { g with pc := g.pc + 3, stack := v.toList ++ rest }) target → Steps p.tables e below (T.setTop g) target) ∨
    (∃ (q : Addr) (vm₁ : Vm) (B : Pt), s.WarmedH vm₁ ∧ Stand p l e R s m args below meth c B.U B.locs B.cells B.slots ∧ PostX ⟨T.setVm vm₁, locs, cells, slots⟩ (Value.ref b :: argsL).toArray q B ∧
      Steps p.tables e below (T.setTop g) ((B.U.setTop { g with stack := rest }).pushFrame (.throwing q))) := by
  obtain ⟨mk, methM, hnamed, hmethM, hstM, habM⟩ := Cond.instanceMethod_spec hinst
  obtain ⟨m8, methM', cM, hn8, hmethM', -, -, -, -, -, -, hsigM⟩ := Cond.codeWith_spec hcode
  cases Option.some.inj (hn8.symm.trans hnamed)
  cases hmethM.symm.trans hmethM'
  obtain ⟨c2, r2, m2, q1, q2, q3, q4, kP, hkP, hkPi⟩ := Cond.selects_spec hsel
  cases hcls.symm.trans q1
  cases (State.methodFound?_of_named hnamed hy).symm.trans q2
  cases hnamed.symm.trans q3
  have hselP : selectMethod e.platform s.vm cellB.cls mk = .method mk := by rw [Launch.admits_selectMethod X.admits]; exact q4
  obtain ⟨vm₁, X₁, hstep₁⟩ := X.invokevirtual hexec hown hlink hnamed hmethM hstM hkP hkPi hy (a := b) (cell := cellB) hcell
    (fun z h => by rw [h] at hobj; cases hobj) hselP hmethM habM hkP hkPi (g := g) hg (argsL := argsL) (rest := rest) (hlen _ hsigM) hstack hdg
  rcases hK m meth c ⟨T.setVm vm₁, locs, cells, slots⟩ { g with stack := rest } (.invokevirtual index) mk (Value.ref b :: argsL).toArray X₁ hg hsize hdg hW (X₁.named hnamed) (hpre vm₁ X₁.warmed) with ⟨v, B, X', hpost, hsteps⟩ | ⟨q, B, X', hpost, hsteps⟩
  · exact Or.inl ⟨v, vm₁, B, X₁.warmed, X', hpost, fun target h => hstep₁ _ fun acts => by rw [doInvoke_state]; exact hsteps.trans h⟩
  · exact Or.inr ⟨q, vm₁, B, X₁.warmed, X', hpost, hstep₁ _ fun acts => by rw [doInvoke_state]; exact hsteps⟩
theorem vx_callSX (X : Stand p l e R s m args below meth c T locs cells slots) (hexec : p.tables.exec = Jvm.exec) {own : String} {index : Nat} {y : MethodName} {bytes : ByteArray} {maxL : Nat} {ret : Option FieldType} {hh : List (Nat × Nat × Nat × Nat)}
    (hown : s.vm.findClass own = some m.cls) (hlink : (Cond.methodLink own index y).before args s = true) (hstat : (Cond.static y).before args s = true) (hinit : (Cond.initialized y.cls).before args s = true)
    (hcode : (Cond.codeWith y bytes maxL ret hh).before args s = true) (hy : y.cls ≠ "java/lang/invoke/MethodHandle" ∧ y.cls ≠ "java/lang/invoke/VarHandle")
    {W9 : Nat} {Pre : Pt → Array Value → Prop} {Post : Pt → Array Value → Option Value → Pt → Prop} {PostX : Pt → Array Value → Addr → Pt → Prop} (hK : vx_Back l R p e below s args y 3 W9 Pre Post PostX)
    {g : JFrame} (hg : g.method = m) (hsize : g.locals.size = c.maxLocals) {argsL rest : List Value} (hlen : ∀ sig, parseMethodDescriptor y.desc = some sig → argsL.length = sig.parameters.length)
    (hstack : g.stack = argsL.reverse ++ rest) (hW : 2 * g.monitorRoom + (rest.map fun v => v.category).sum ≤ W9) (hdg : decode c.code g.pc = .ok (.invokestatic index, 3))
    (hpre : ∀ vm₁, s.WarmedH vm₁ → Pre ⟨T.setVm vm₁, locs, cells, slots⟩ argsL.toArray) :
    (∃ (v : Option Value) (vm₁ : Vm) (B : Pt), s.WarmedH vm₁ ∧ Stand p l e R s m args below meth c B.U B.locs B.cells B.slots ∧ Post ⟨T.setVm vm₁, locs, cells, slots⟩ argsL.toArray v B ∧
      ∀ target, Steps p.tables e below (B.U.setTop { g with pc := g.pc + 3, stack := v.toList ++ rest }) target → Steps p.tables e below (T.setTop g) target) ∨
    (∃ (q : Addr) (vm₁ : Vm) (B : Pt), s.WarmedH vm₁ ∧ Stand p l e R s m args below meth c B.U B.locs B.cells B.slots ∧ PostX ⟨T.setVm vm₁, locs, cells, slots⟩ argsL.toArray q B ∧
      Steps p.tables e below (T.setTop g) ((B.U.setTop { g with stack := rest }).pushFrame (.throwing q))) := by
  obtain ⟨mk, methM, cM, hnamed, hmethM, -, -, -, -, -, -, hsigM⟩ := Cond.codeWith_spec hcode
  have hstatic : methM.isStatic = true := Cond.static_spec hnamed hmethM hstat
  obtain ⟨kP, hkP, -⟩ := className_of_methodNamed hnamed
  have hinitP : kP.init = .initialized := Cond.initialized_spec (findClass_of_methodNamed hnamed) hkP hinit
  obtain ⟨vm₁, X₁, hstep₁⟩ := X.invokestatic hexec hown hlink hnamed hmethM hstatic hkP hinitP hy (g := g) hg (argsL := argsL) (rest := rest) (hlen _ hsigM) hstack hdg
  rcases hK m meth c ⟨T.setVm vm₁, locs, cells, slots⟩ { g with stack := rest } (.invokestatic index) mk argsL.toArray X₁ hg hsize hdg hW (X₁.named hnamed) (hpre vm₁ X₁.warmed) with ⟨v, B, X', hpost, hsteps⟩ | ⟨q, B, X', hpost, hsteps⟩
  · exact Or.inl ⟨v, vm₁, B, X₁.warmed, X', hpost, fun target h => hstep₁ _ fun acts => by rw [doInvoke_state]; exact hsteps.trans h⟩
  · exact Or.inr ⟨q, vm₁, B, X₁.warmed, X', hpost, hstep₁ _ fun acts => by rw [doInvoke_state]; exact hsteps⟩
theorem vx_callVW (X : Stand p l e R s m args below meth c T locs cells slots) (hexec : p.tables.exec = Jvm.exec) {own C : String} {index : Nat} {y : MethodName} {bytes : ByteArray} {maxL : Nat} {ret : Option FieldType} {hh : List (Nat × Nat × Nat × Nat)}
    (hown : s.vm.findClass own = some m.cls) (hlink : (Cond.methodLink own index y).before args s = true) (hinst : (Cond.instanceMethod y).before args s = true) (hsel : (Cond.selects C y y).before args s = true)
    (hcode : (Cond.codeWith y bytes maxL ret hh).before args s = true) (hy : y.cls ≠ "java/lang/invoke/MethodHandle" ∧ y.cls ≠ "java/lang/invoke/VarHandle")
    {W9 : Nat} {Pre : Pt → Array Value → Prop} {Post : Pt → Array Value → Option Value → Pt → Prop} (hK : Back l R p e below s args y 3 W9 Pre Post)
    {b : Addr} {cellB : Cell} (hcell : T.heap[b]? = some cellB) (hobj : cellB.vm.isStatics = false) (hcls : s.vm.findClass C = some cellB.cls)
    {g : JFrame} (hg : g.method = m) (hsize : g.locals.size = c.maxLocals) {argsL rest : List Value} (hlen : ∀ sig, parseMethodDescriptor y.desc = some sig → argsL.length = sig.parameters.length)
    (hstack : g.stack = argsL.reverse ++ .ref b :: rest) (hW : 2 * g.monitorRoom + (rest.map fun v => v.category).sum ≤ W9) (hdg : decode c.code g.pc = .ok (.invokevirtual index, 3))
    (hpre : ∀ vm₁, s.WarmedH vm₁ → Pre ⟨T.setVm vm₁, locs, cells, slots⟩ (Value.ref b :: argsL).toArray) :
    ∃ (v : Option Value) (vm₁ : Vm) (B : Pt), s.WarmedH vm₁ ∧ Stand p l e R s m args below meth c B.U B.locs B.cells B.slots ∧ Post ⟨T.setVm vm₁, locs, cells, slots⟩ (Value.ref b :: argsL).toArray v B ∧
      ∀ target, Steps p.tables e below (B.U.setTop { g with pc := g.pc + 3, stack := v.toList ++ rest }) target → Steps p.tables e below (T.setTop g) target := by
  obtain ⟨mk, methM, hnamed, hmethM, hstM, habM⟩ := Cond.instanceMethod_spec hinst
  obtain ⟨m8, methM', cM, hn8, hmethM', -, -, -, -, -, -, hsigM⟩ := Cond.codeWith_spec hcode
  cases Option.some.inj (hn8.symm.trans hnamed)
  cases hmethM.symm.trans hmethM'
  obtain ⟨c2, r2, m2, q1, q2, q3, q4, kP, hkP, hkPi⟩ := Cond.selects_spec hsel
  cases hcls.symm.trans q1
  cases (State.methodFound?_of_named hnamed hy).symm.trans q2
  cases hnamed.symm.trans q3
  have hselP : selectMethod e.platform s.vm cellB.cls mk = .method mk := by rw [Launch.admits_selectMethod X.admits]; exact q4
  obtain ⟨vm₁, X₁, hstep₁⟩ := X.invokevirtual hexec hown hlink hnamed hmethM hstM hkP hkPi hy (a := b) (cell := cellB) hcell
    (fun z h => by rw [h] at hobj; cases hobj) hselP hmethM habM hkP hkPi (g := g) hg (argsL := argsL) (rest := rest) (hlen _ hsigM) hstack hdg
  obtain ⟨v, B, X', hpost, hsteps⟩ := hK m meth c ⟨T.setVm vm₁, locs, cells, slots⟩ { g with stack := rest } (.invokevirtual index) mk (Value.ref b :: argsL).toArray X₁ hg hsize hdg hW (X₁.named hnamed) (hpre vm₁ X₁.warmed)
  exact ⟨v, vm₁, B, X₁.warmed, X', hpost, fun target h => hstep₁ _ fun acts => by rw [doInvoke_state]; exact hsteps.trans h⟩
abbrev vx_CVW (R : Room) (s : State) (args : Array Value) (own C : String) (index : Nat) (y : MethodName) (bytes : ByteArray) (maxL : Nat) (ret : Option FieldType) (hh : List (Nat × Nat × Nat × Nat)) (ws : List Cond) (rm : Room) (mc ms n : Nat) : Prop :=
  (rm.cells = mc ∧ rm.slots = ms ∧ rm.frames + 1 ≤ R.frames ∧ 8 + (maxL + 11) + rm.locals ≤ R.locals ∧ (∀ w ∈ ws, ∀ (a' : Array Value) (U : State), s.WarmedH U.vm → w.before a' U = true) ∧ Cond.codeWith y bytes maxL ret hh ∈ ws) ∧
  (Cond.codeWith y bytes maxL ret hh).before args s = true ∧ (Cond.initialized y.cls).before args s = true ∧ (y.cls ≠ "java/lang/invoke/MethodHandle" ∧ y.cls ≠ "java/lang/invoke/VarHandle") ∧
  (∀ sig, parseMethodDescriptor y.desc = some sig → n = sig.parameters.length) ∧ (Cond.methodLink own index y).before args s = true ∧ (Cond.instanceMethod y).before args s = true ∧ (Cond.selects C y y).before args s = true
theorem vx_cwVW {own C : String} {index maxL mc ms : Nat} {y : MethodName} {bytes : ByteArray} {ret : Option FieldType} {hh : List (Nat × Nat × Nat × Nat)} {Ts ws ws' : List Cond} {rm : Room} (n : Nat) (ht : ∀ w ∈ Ts, w.before args s = true) (hT : GoodIn Ts (wsV own index C y ws)) (hw : ws = Cond.codeWith y bytes maxL ret hh :: ws') (hrc : rm.cells = mc) (hrs : rm.slots = ms)
    (hd : y.cls = C ∧ y.cls ≠ "java/lang/invoke/MethodHandle" ∧ y.cls ≠ "java/lang/invoke/VarHandle" ∧ (parseMethodDescriptor y.desc).map (fun d => d.parameters.length) = some n) (hR : rm.frames + 1 ≤ R.frames ∧ 8 + (maxL + 11) + rm.locals ≤ R.locals) :
    vx_CVW R s args own C index y bytes maxL ret hh ws rm mc ms n := by
  obtain ⟨hC, hd⟩ := hd
  subst hC
  have ok : ∀ w ∈ wsV own index y.cls y ws, w.before args s = true := fun w h => ht w (hT w h).1
  have hG : GoodIn Ts ws := fun w h => hT w (by unfold wsV; exact List.mem_append_right _ h)
  have hc : Cond.codeWith y bytes maxL ret hh ∈ ws := by rw [hw]; exact List.mem_cons_self
  refine ⟨⟨hrc, hrs, hR.1, hR.2, pay_in ht hG, hc⟩, ht _ (hG _ hc).1, ok _ (by simp [wsV]), ⟨hd.1, hd.2.1⟩, fun sig h => ?_, ok _ (by simp [wsV]), ok _ (by simp [wsV]), ok _ (by simp [wsV])⟩
  have h2 := hd.2.2
  rw [h] at h2
  exact (Option.some.inj h2).symm
theorem vx_runVW {y : MethodName} {bytes cc : ByteArray} {maxL nL mc ms n index : Nat} {ret : Option FieldType} {hh : List (Nat × Nat × Nat × Nat)} {ws : List Cond} {rm : Room} {Pc : Array Value → State → Prop} {Qc : Array Value → State → Outcome → State → Prop} {free : Addr → Prop} {Ts : List Cond} {own C : String} {b : Addr} {As rest : List Value} {g : JFrame}
    (S : CallFix p m c cc nL s args Ts own) (hM : Met l y ws rm Pc Qc mc ms free) (cw : vx_CVW R s args own C index y bytes maxL ret hh ws rm mc ms n) (hp : PreV s H C b Pc As)
    (hg : g.method = m) (hn : As.length = n) (hsize : g.locals.size = nL) (hstack : g.stack = As.reverse ++ .ref b :: rest) (hW : 2 * g.monitorRoom + (rest.map fun v => v.category).sum ≤ 8) (hdg : decode cc g.pc = .ok (.invokevirtual index, 3)) (hf : cells + mc ≤ R.cells ∧ slots + ms ≤ R.slots) :
    va_Run p l e R s m args below meth c H locs cells slots mc ms g rest (Qc (Value.ref b :: As).toArray) free := by
  obtain ⟨⟨hrc, hrs, hfr, hlo, hws, hcw⟩, hcode, hini, hy, hlen, hl, hin, hse⟩ := cw
  have hK : Back l R p e below s args y 3 8 (PreOf R mc ms Pc) (PostOf Qc mc ms free) := va_backW (hh := hh) (bytes := bytes) (maxL := maxL) (ret := ret) hM hp.1 hrc hrs hfr hlo hws hcw (fun a' U hW => word_at hW (Or.inl (by first | rfl | simp [Cond.onTables, Cond.keeps, Cond.steady])) hini)
  obtain ⟨hx, hb, hml, ho, -⟩ := S
  obtain ⟨-, ⟨cellB, hcB, hoB, hclB⟩, hPc⟩ := hp
  intro T hT X
  obtain ⟨v, vm₁, ⟨U', l2, c2, s2⟩, hW₁, X', ⟨g', mk, t, L, e1, e2, hq, h1, hL, h2, h3⟩, st⟩ := vx_callVW X hx (C := C) (hh := hh) (bytes := bytes) (maxL := maxL) (ret := ret) ho hl hin hse hcode hy hK (by rw [hT]; exact hcB) hoB hclB hg (hsize.trans hml.symm) (argsL := As) (rest := rest) (fun sig h => hn.trans (hlen sig h)) hstack hW (by rw [hb]; exact hdg)
    (fun vm₁ hW₁ => ⟨hf.1, hf.2, hPc (T.setVm vm₁) hT hW₁⟩)
  dsimp only [Pt.U, Pt.locs, Pt.cells, Pt.slots] at X' e1 e2 h1 h2 h3 st
  subst h1; subst h2; subst h3
  exact ⟨v, (T.setVm vm₁).calling g' mk (Value.ref b :: As).toArray, t, U', L, hT, X', hL, e1, e2, hq, st⟩
section
variable {y : MethodName} {bytes cc : ByteArray} {maxL nL mc ms n index : Nat} {ret : Option FieldType} {ws : List Cond} {rm : Room} {Pc : Array Value → State → Prop} {Qc : Array Value → State → Outcome → State → Prop} {XC : String → State → State → Prop} {free : Addr → Prop} {Ts : List Cond} {own C : String} {b : Addr} {As rest : List Value} {g : JFrame}
theorem vx_runVX {hh : List (Nat × Nat × Nat × Nat)} (S : CallFix p m c cc nL s args Ts own) (hM : vx_Met l y ws rm Pc Qc XC mc ms free) (cw : vx_CVW R s args own C index y bytes maxL ret hh ws rm mc ms n) (hp : PreV s H C b Pc As)
    (hg : g.method = m) (hn : As.length = n) (hsize : g.locals.size = nL) (hstack : g.stack = As.reverse ++ .ref b :: rest) (hW : 2 * g.monitorRoom + (rest.map fun v => v.category).sum ≤ 8) (hdg : decode cc g.pc = .ok (.invokevirtual index, 3)) (hf : cells + mc ≤ R.cells ∧ slots + ms ≤ R.slots) :
    vx_Run p l e R s m args below meth c H locs cells slots mc ms g rest (Qc (Value.ref b :: As).toArray) XC free := by
  obtain ⟨⟨hrc, hrs, hfr, hlo, hws, hcw⟩, hcode, hini, hy, hlen, hl, hin, hse⟩ := cw
  have hK : vx_Back l R p e below s args y 3 8 (PreOf R mc ms Pc) (PostOf Qc mc ms free) (vx_Post XC mc ms free) := vx_backW (hh := hh) (bytes := bytes) (maxL := maxL) (ret := ret) hM hp.1 hrc hrs hfr hlo hws hcw (fun a' U hW => word_at hW (Or.inl (by first | rfl | simp [Cond.onTables, Cond.keeps, Cond.steady])) hini)
  obtain ⟨hx, hb, hml, ho, -⟩ := S
  obtain ⟨-, ⟨cellB, hcB, hoB, hclB⟩, hPc⟩ := hp
  intro T hT X
  rcases vx_callVX X hx (C := C) (hh := hh) (bytes := bytes) (maxL := maxL) (ret := ret) ho hl hin hse hcode hy hK (by rw [hT]; exact hcB) hoB hclB hg (hsize.trans hml.symm) (argsL := As) (rest := rest) (fun sig h => hn.trans (hlen sig h)) hstack hW (by rw [hb]; exact hdg)
    (fun vm₁ hW₁ => ⟨hf.1, hf.2, hPc (T.setVm vm₁) hT hW₁⟩) with ⟨v, vm₁, ⟨U', l2, c2, s2⟩, hW₁, X', ⟨g', mk, t, L, e1, e2, hq, h1, hL, h2, h3⟩, st⟩ | ⟨q, vm₁, ⟨U', l2, c2, s2⟩, hW₁, X', ⟨g', mk, t, L, E, ce, e1, e2, hq, hce, hcv, hcl, h1, hL, h2, h3⟩, st⟩
  · dsimp only [Pt.U, Pt.locs, Pt.cells, Pt.slots] at X' e1 e2 h1 h2 h3 st
    subst h1; subst h2; subst h3
    exact Or.inl ⟨v, (T.setVm vm₁).calling g' mk (Value.ref b :: As).toArray, t, U', L, hT, X', hL, e1, e2, hq, st⟩
  · dsimp only [Pt.U, Pt.locs, Pt.cells, Pt.slots] at X' e1 e2 h1 h2 h3 st hcl
    subst h1; subst h2; subst h3
    exact Or.inr ⟨q, (T.setVm vm₁).calling g' mk (Value.ref b :: As).toArray, t, U', L, E, ce, hT, X', hL, e1, e2, hq, hce, hcv, vx_cls hW₁ hcl, st⟩
theorem vx_runSX {hh : List (Nat × Nat × Nat × Nat)} (S : CallFix p m c cc nL s args Ts own) (hM : vx_Met l y ws rm Pc Qc XC mc ms free) (cw : vx_CSW R s args own index y bytes maxL ret hh ws rm mc ms n) (hp : PreS s H Pc As)
    (hg : g.method = m) (hn : As.length = n) (hsize : g.locals.size = nL) (hstack : g.stack = As.reverse ++ rest) (hW : 2 * g.monitorRoom + (rest.map fun v => v.category).sum ≤ 8) (hdg : decode cc g.pc = .ok (.invokestatic index, 3)) (hf : cells + mc ≤ R.cells ∧ slots + ms ≤ R.slots) :
    vx_Run p l e R s m args below meth c H locs cells slots mc ms g rest (Qc As.toArray) XC free := by
  obtain ⟨⟨hrc, hrs, hfr, hlo, hws, hcw⟩, hcode, hini, hy, hlen, hl, hstt⟩ := cw
  have hK : vx_Back l R p e below s args y 3 8 (PreOf R mc ms Pc) (PostOf Qc mc ms free) (vx_Post XC mc ms free) := vx_backW (hh := hh) (bytes := bytes) (maxL := maxL) (ret := ret) hM hp.1 hrc hrs hfr hlo hws hcw (fun a' U hW => word_at hW (Or.inl (by first | rfl | simp [Cond.onTables, Cond.keeps, Cond.steady])) hini)
  obtain ⟨hx, hb, hml, ho, -⟩ := S
  intro T hT X
  rcases vx_callSX X hx (hh := hh) (bytes := bytes) (maxL := maxL) (ret := ret) ho hl hstt hini hcode hy hK hg (hsize.trans hml.symm) (argsL := As) (rest := rest) (fun sig h => hn.trans (hlen sig h)) hstack hW (by rw [hb]; exact hdg)
    (fun vm₁ hW₁ => ⟨hf.1, hf.2, hp.2 (T.setVm vm₁) hT hW₁⟩) with ⟨v, vm₁, ⟨U', l2, c2, s2⟩, hW₁, X', ⟨g', mk, t, L, e1, e2, hq, h1, hL, h2, h3⟩, st⟩ | ⟨q, vm₁, ⟨U', l2, c2, s2⟩, hW₁, X', ⟨g', mk, t, L, E, ce, e1, e2, hq, hce, hcv, hcl, h1, hL, h2, h3⟩, st⟩
  · dsimp only [Pt.U, Pt.locs, Pt.cells, Pt.slots] at X' e1 e2 h1 h2 h3 st
    subst h1; subst h2; subst h3
    exact Or.inl ⟨v, (T.setVm vm₁).calling g' mk As.toArray, t, U', L, hT, X', hL, e1, e2, hq, st⟩
  · dsimp only [Pt.U, Pt.locs, Pt.cells, Pt.slots] at X' e1 e2 h1 h2 h3 st hcl
    subst h1; subst h2; subst h3
    exact Or.inr ⟨q, (T.setVm vm₁).calling g' mk As.toArray, t, U', L, E, ce, hT, X', hL, e1, e2, hq, hce, hcv, vx_cls hW₁ hcl, st⟩
end
end VXH
theorem vx_ofWH {l : Launch} {y : MethodName} {ws ws' : List Cond} {rm : Room} {Pc : Array Value → State → Prop} {Qc : Array Value → State → Outcome → State → Prop} {XC : String → State → State → Prop} {mc ms : Nat} {free : Addr → Prop} {cc : ByteArray} {maxL : Nat} {ret : Option FieldType} {hh : List (Nat × Nat × Nat × Nat)}
    (hy : plainName y.cls = true) (hw : ws = Cond.codeWith y cc maxL ret hh :: ws')
    (body : ∀ p e s m args below meth c s₁, BodyLoose p l y (headSpec ws rm) cc maxL ret e s m args below meth c s₁ → c.maxLocals = maxL → Pc args s →
      W p l e (headSpec ws rm).room s m args below meth c s.heap [] 0 0 (vx_MQ below Qc XC args s mc ms free) (entryFrame m args maxL)) : vx_Met l y ws rm Pc Qc XC mc ms free := by
  refine MetFree.of_bodyS (code := cc) (maxLocals := maxL) (ret := ret) hy ?_ ?_
  · intro args s m h hn
    obtain ⟨m9, meth, c, hn9, h1, h2, h3, h4, -, h5, h6, -⟩ := Cond.codeWith_spec (atoms_spec (ws := ws) h _ (by rw [hw]; exact List.mem_cons_self))
    cases hn.symm.trans hn9
    exact ⟨meth, c, h1, h2, h3, h4, h5, h6⟩
  · intro p e s m args below meth c s₁ B hml hP _
    have hh0 : s₁.heap = s.heap := by rw [B.state]; rfl
    obtain ⟨t, a1, o, b1, b2, b3⟩ := body p e s m args below meth c s₁ B hml hP s₁ hh0 (Stand.of_body B)
    exact ⟨t, o, a1, b1, b2, b3⟩
/-! ===== END ===== -/

/-! ===== BEGIN printed: names, fields, word lists, decode rows ===== -/
def RX0 : String := "GaugeBlocks$Finder"
def TX0 : u_T := fun k => match k with
  | _ => ("", "", "", false)
def tyX0 : Nat → FieldType := fun k => match k with
  | _ => .int
abbrev wsX00 : List Cond := u_ws RX0 TX0 0
theorem nmX0 : ∀ a, a < 0 → ∀ b, b < 0 → a ≠ b → (TX0 a).2.1 ≠ (TX0 b).2.1 := by decide +kernel
theorem tyX0_ok : ∀ k, k < 0 → parseFieldDescriptor (TX0 k).2.2.1 = some (tyX0 k) := by decide +kernel
abbrev cX0_fewestFor : ByteArray := prog_2_method_2_code
def yX0_fewestFor : MethodName := ⟨RX0, "fewestFor", "(LGaugeBlocks$State;I)I"⟩
abbrev cX0_leastSet : ByteArray := prog_2_method_3_code
def yX0_leastSet : MethodName := ⟨RX0, "leastSet", "([IIIII)I"⟩
abbrev cX0_takenByOldWay : ByteArray := prog_2_method_4_code
def yX0_takenByOldWay : MethodName := ⟨RX0, "takenByOldWay", "(LGaugeBlocks$State;I)I"⟩
abbrev cX0_nextOfOldWay : ByteArray := prog_2_method_5_code
def yX0_nextOfOldWay : MethodName := ⟨RX0, "nextOfOldWay", "(LGaugeBlocks$State;II)I"⟩
abbrev cX0_zerosAtEnd : ByteArray := prog_2_method_6_code
def yX0_zerosAtEnd : MethodName := ⟨RX0, "zerosAtEnd", "(I)I"⟩
abbrev cX0_nearestTo : ByteArray := prog_2_method_7_code
def yX0_nearestTo : MethodName := ⟨RX0, "nearestTo", "(LGaugeBlocks$State;I)I"⟩
abbrev cX0_nearer : ByteArray := prog_2_method_8_code
def yX0_nearer : MethodName := ⟨RX0, "nearer", "(III)I"⟩
abbrev cX0_blockOfRank : ByteArray := prog_2_method_9_code
def yX0_blockOfRank : MethodName := ⟨RX0, "blockOfRank", "(LGaugeBlocks$State;II)I"⟩
abbrev cX0_manyBefore : ByteArray := prog_2_method_10_code
def yX0_manyBefore : MethodName := ⟨RX0, "manyBefore", "(LGaugeBlocks$State;II)I"⟩
abbrev cX0_sortKey : ByteArray := prog_2_method_11_code
def yX0_sortKey : MethodName := ⟨RX0, "sortKey", "(LGaugeBlocks$State;II)I"⟩
abbrev cX0_differentLengths : ByteArray := prog_2_method_12_code
def yX0_differentLengths : MethodName := ⟨RX0, "differentLengths", "(LGaugeBlocks$State;)I"⟩
abbrev cX0_lengthOfRank : ByteArray := prog_2_method_13_code
def yX0_lengthOfRank : MethodName := ⟨RX0, "lengthOfRank", "(LGaugeBlocks$State;I)I"⟩
abbrev cX0_shortestAbove : ByteArray := prog_2_method_14_code
def yX0_shortestAbove : MethodName := ⟨RX0, "shortestAbove", "(LGaugeBlocks$State;I)I"⟩
def RX1 : String := "GaugeBlocks$OrderText"
def TX1 : u_T := fun k => match k with
  | 0 => ("GaugeBlocks$OrderText", "signs", "[I", true)
  | 1 => ("GaugeBlocks$OrderText", "length", "I", false)
  | 2 => ("GaugeBlocks$OrderText", "at", "I", false)
  | 3 => ("GaugeBlocks$OrderText", "letter", "I", false)
  | 4 => ("GaugeBlocks$OrderText", "first", "I", false)
  | _ => ("GaugeBlocks$OrderText", "second", "I", false)
def tyX1 : Nat → FieldType := fun k => match k with
  | 0 => .array .int
  | 1 => .int
  | 2 => .int
  | 3 => .int
  | 4 => .int
  | _ => .int
abbrev wsX10 : List Cond := u_ws RX1 TX1 6
theorem nmX1 : ∀ a, a < 6 → ∀ b, b < 6 → a ≠ b → (TX1 a).2.1 ≠ (TX1 b).2.1 := by decide +kernel
theorem tyX1_ok : ∀ k, k < 6 → parseFieldDescriptor (TX1 k).2.2.1 = some (tyX1 k) := by decide +kernel
abbrev cX1_init : ByteArray := prog_3_method_1_code
def yX1_init : MethodName := ⟨RX1, "<init>", "()V"⟩
def RX2 : String := "GaugeBlocks$SavedStates"
def TX2 : u_T := fun k => match k with
  | 0 => ("GaugeBlocks$SavedStates", "states", "[LGaugeBlocks$State;", true)
  | _ => ("GaugeBlocks$SavedStates", "many", "I", false)
def tyX2 : Nat → FieldType := fun k => match k with
  | 0 => .array (.object "GaugeBlocks$State")
  | _ => .int
abbrev wsX20 : List Cond := u_ws RX2 TX2 2
theorem nmX2 : ∀ a, a < 2 → ∀ b, b < 2 → a ≠ b → (TX2 a).2.1 ≠ (TX2 b).2.1 := by decide +kernel
theorem tyX2_ok : ∀ k, k < 2 → parseFieldDescriptor (TX2 k).2.2.1 = some (tyX2 k) := by decide +kernel
abbrev cX2_init : ByteArray := prog_4_method_1_code
def yX2_init : MethodName := ⟨RX2, "<init>", "()V"⟩
abbrev cX2_push : ByteArray := prog_4_method_2_code
def yX2_push : MethodName := ⟨RX2, "push", "(LGaugeBlocks$State;)V"⟩
abbrev cX2_dropOldest : ByteArray := prog_4_method_3_code
def yX2_dropOldest : MethodName := ⟨RX2, "dropOldest", "()V"⟩
def RX3 : String := "GaugeBlocks$State"
def TX3 : u_T := fun k => match k with
  | 0 => ("GaugeBlocks$State", "nominal", "[I", true)
  | 1 => ("GaugeBlocks$State", "deviation", "[I", true)
  | 2 => ("GaugeBlocks$State", "wear", "[I", true)
  | 3 => ("GaugeBlocks$State", "warmth", "[I", true)
  | 4 => ("GaugeBlocks$State", "stack", "[I", true)
  | 5 => ("GaugeBlocks$State", "place", "[I", true)
  | 6 => ("GaugeBlocks$State", "timesWrung", "[I", true)
  | 7 => ("GaugeBlocks$State", "settings", "[I", true)
  | 8 => ("GaugeBlocks$State", "blocks", "I", false)
  | 9 => ("GaugeBlocks$State", "minutes", "I", false)
  | 10 => ("GaugeBlocks$State", "wrings", "I", false)
  | 11 => ("GaugeBlocks$State", "takeOffs", "I", false)
  | _ => ("GaugeBlocks$State", "refusals", "I", false)
def tyX3 : Nat → FieldType := fun k => match k with
  | 0 => .array .int
  | 1 => .array .int
  | 2 => .array .int
  | 3 => .array .int
  | 4 => .array .int
  | 5 => .array .int
  | 6 => .array .int
  | 7 => .array .int
  | 8 => .int
  | 9 => .int
  | 10 => .int
  | 11 => .int
  | _ => .int
abbrev wsX30 : List Cond := u_ws RX3 TX3 13
theorem nmX3 : ∀ a, a < 13 → ∀ b, b < 13 → a ≠ b → (TX3 a).2.1 ≠ (TX3 b).2.1 := by decide +kernel
theorem tyX3_ok : ∀ k, k < 13 → parseFieldDescriptor (TX3 k).2.2.1 = some (tyX3 k) := by decide +kernel
abbrev cX3_init : ByteArray := prog_5_method_1_code
def yX3_init : MethodName := ⟨RX3, "<init>", "()V"⟩
abbrev cX3_copyFrom : ByteArray := prog_5_method_2_code
def yX3_copyFrom : MethodName := ⟨RX3, "copyFrom", "(LGaugeBlocks$State;)V"⟩
abbrev cX3_isFull : ByteArray := prog_5_method_3_code
def yX3_isFull : MethodName := ⟨RX3, "isFull", "()Z"⟩
abbrev cX3_hasBlock : ByteArray := prog_5_method_4_code
def yX3_hasBlock : MethodName := ⟨RX3, "hasBlock", "(I)Z"⟩
abbrev cX3_isFree : ByteArray := prog_5_method_5_code
def yX3_isFree : MethodName := ⟨RX3, "isFree", "(I)Z"⟩
abbrev cX3_addBlock : ByteArray := prog_5_method_6_code
def yX3_addBlock : MethodName := ⟨RX3, "addBlock", "(II)I"⟩
abbrev cX3_removeBlock : ByteArray := prog_5_method_7_code
def yX3_removeBlock : MethodName := ⟨RX3, "removeBlock", "(I)V"⟩
abbrev cX3_closeGap : ByteArray := prog_5_method_8_code
def yX3_closeGap : MethodName := ⟨RX3, "closeGap", "([II)V"⟩
abbrev cX3_errorOf : ByteArray := prog_5_method_9_code
def yX3_errorOf : MethodName := ⟨RX3, "errorOf", "(I)I"⟩
abbrev cX3_sizeOfError : ByteArray := prog_5_method_10_code
def yX3_sizeOfError : MethodName := ⟨RX3, "sizeOfError", "(I)I"⟩
abbrev cX3_sizesOfErrors : ByteArray := prog_5_method_11_code
def yX3_sizesOfErrors : MethodName := ⟨RX3, "sizesOfErrors", "()I"⟩
abbrev cX3_gradeOf : ByteArray := prog_5_method_12_code
def yX3_gradeOf : MethodName := ⟨RX3, "gradeOf", "(I)I"⟩
abbrev cX3_turnWearIntoDeviation : ByteArray := prog_5_method_13_code
def yX3_turnWearIntoDeviation : MethodName := ⟨RX3, "turnWearIntoDeviation", "(I)V"⟩
abbrev cX3_wearOfAll : ByteArray := prog_5_method_14_code
def yX3_wearOfAll : MethodName := ⟨RX3, "wearOfAll", "()I"⟩
abbrev cX3_warm : ByteArray := prog_5_method_15_code
def yX3_warm : MethodName := ⟨RX3, "warm", "(II)V"⟩
abbrev cX3_letPass : ByteArray := prog_5_method_16_code
def yX3_letPass : MethodName := ⟨RX3, "letPass", "(I)V"⟩
abbrev cX3_cooled : ByteArray := prog_5_method_17_code
def yX3_cooled : MethodName := ⟨RX3, "cooled", "(II)I"⟩
abbrev cX3_minutesUntilCool : ByteArray := prog_5_method_18_code
def yX3_minutesUntilCool : MethodName := ⟨RX3, "minutesUntilCool", "(I)I"⟩
abbrev cX3_greatestWarmth : ByteArray := prog_5_method_19_code
def yX3_greatestWarmth : MethodName := ⟨RX3, "greatestWarmth", "()I"⟩
abbrev cX3_reasonToRefuse : ByteArray := prog_5_method_20_code
def yX3_reasonToRefuse : MethodName := ⟨RX3, "reasonToRefuse", "(II)I"⟩
abbrev cX3_tryToWring : ByteArray := prog_5_method_21_code
def yX3_tryToWring : MethodName := ⟨RX3, "tryToWring", "(II)I"⟩
abbrev cX3_wringSet : ByteArray := prog_5_method_22_code
def yX3_wringSet : MethodName := ⟨RX3, "wringSet", "(II)I"⟩
abbrev cX3_putOnTop : ByteArray := prog_5_method_23_code
def yX3_putOnTop : MethodName := ⟨RX3, "putOnTop", "(II)V"⟩
abbrev cX3_takeTopOff : ByteArray := prog_5_method_24_code
def yX3_takeTopOff : MethodName := ⟨RX3, "takeTopOff", "(I)I"⟩
abbrev cX3_slide : ByteArray := prog_5_method_25_code
def yX3_slide : MethodName := ⟨RX3, "slide", "(II)V"⟩
abbrev cX3_blockAt : ByteArray := prog_5_method_26_code
def yX3_blockAt : MethodName := ⟨RX3, "blockAt", "(II)I"⟩
abbrev cX3_blocksIn : ByteArray := prog_5_method_27_code
def yX3_blocksIn : MethodName := ⟨RX3, "blocksIn", "(I)I"⟩
abbrev cX3_blocksOfGrade : ByteArray := prog_5_method_28_code
def yX3_blocksOfGrade : MethodName := ⟨RX3, "blocksOfGrade", "(I)I"⟩
abbrev cX3_heightOf : ByteArray := prog_5_method_29_code
def yX3_heightOf : MethodName := ⟨RX3, "heightOf", "(I)I"⟩
abbrev cX3_nominalOfSet : ByteArray := prog_5_method_30_code
def yX3_nominalOfSet : MethodName := ⟨RX3, "nominalOfSet", "(I)I"⟩
abbrev cX3_trueLengthOf : ByteArray := prog_5_method_31_code
def yX3_trueLengthOf : MethodName := ⟨RX3, "trueLengthOf", "(II)I"⟩
abbrev cX3_trueLengthOfStack : ByteArray := prog_5_method_32_code
def yX3_trueLengthOfStack : MethodName := ⟨RX3, "trueLengthOfStack", "(II)I"⟩
abbrev cX3_sizeOfDifference : ByteArray := prog_5_method_33_code
def yX3_sizeOfDifference : MethodName := ⟨RX3, "sizeOfDifference", "(I)I"⟩
abbrev cX3_greatestGradeIn : ByteArray := prog_5_method_34_code
def yX3_greatestGradeIn : MethodName := ⟨RX3, "greatestGradeIn", "(I)I"⟩
def RX4 : String := "GaugeBlocks"
def TX4 : u_T := fun k => match k with
  | 0 => ("GaugeBlocks", "state", "LGaugeBlocks$State;", true)
  | 1 => ("GaugeBlocks", "saved", "LGaugeBlocks$SavedStates;", true)
  | 2 => ("GaugeBlocks", "snapshots", "[LGaugeBlocks$State;", true)
  | _ => ("GaugeBlocks", "text", "LGaugeBlocks$OrderText;", true)
def tyX4 : Nat → FieldType := fun k => match k with
  | 0 => .object "GaugeBlocks$State"
  | 1 => .object "GaugeBlocks$SavedStates"
  | 2 => .array (.object "GaugeBlocks$State")
  | _ => .object "GaugeBlocks$OrderText"
abbrev wsX40 : List Cond := u_ws RX4 TX4 4
theorem nmX4 : ∀ a, a < 4 → ∀ b, b < 4 → a ≠ b → (TX4 a).2.1 ≠ (TX4 b).2.1 := by decide +kernel
theorem tyX4_ok : ∀ k, k < 4 → parseFieldDescriptor (TX4 k).2.2.1 = some (tyX4 k) := by decide +kernel
abbrev cX4_init : ByteArray := prog_1_method_1_code
def yX4_init : MethodName := ⟨RX4, "<init>", "()V"⟩
abbrev cX4_block : ByteArray := prog_1_method_2_code
def yX4_block : MethodName := ⟨RX4, "block", "(II)I"⟩
abbrev cX4_discard : ByteArray := prog_1_method_3_code
def yX4_discard : MethodName := ⟨RX4, "discard", "(I)I"⟩
abbrev cX4_calibrate : ByteArray := prog_1_method_4_code
def yX4_calibrate : MethodName := ⟨RX4, "calibrate", "(I)I"⟩
abbrev cX4_hold : ByteArray := prog_1_method_5_code
def yX4_hold : MethodName := ⟨RX4, "hold", "(II)I"⟩
abbrev cX4_rest : ByteArray := prog_1_method_6_code
def yX4_rest : MethodName := ⟨RX4, "rest", "(I)I"⟩
abbrev cX4_set : ByteArray := prog_1_method_7_code
def yX4_set : MethodName := ⟨RX4, "set", "(II)I"⟩
abbrev cX4_wring : ByteArray := prog_1_method_8_code
def yX4_wring : MethodName := ⟨RX4, "wring", "(II)I"⟩
abbrev cX4_takeOff : ByteArray := prog_1_method_9_code
def yX4_takeOff : MethodName := ⟨RX4, "takeOff", "(I)I"⟩
abbrev cX4_make : ByteArray := prog_1_method_10_code
def yX4_make : MethodName := ⟨RX4, "make", "(II)I"⟩
abbrev cX4_blockOf : ByteArray := prog_1_method_19_code
def yX4_blockOf : MethodName := ⟨RX4, "blockOf", "(II)I"⟩
abbrev cX4_stackOf : ByteArray := prog_1_method_20_code
def yX4_stackOf : MethodName := ⟨RX4, "stackOf", "(II)I"⟩
abbrev cX4_ranked : ByteArray := prog_1_method_21_code
def yX4_ranked : MethodName := ⟨RX4, "ranked", "(II)I"⟩
abbrev cX4_lengths : ByteArray := prog_1_method_22_code
def yX4_lengths : MethodName := ⟨RX4, "lengths", "(I)I"⟩
abbrev cX4_count : ByteArray := prog_1_method_23_code
def yX4_count : MethodName := ⟨RX4, "count", "(I)I"⟩
abbrev cX4_setting : ByteArray := prog_1_method_24_code
def yX4_setting : MethodName := ⟨RX4, "setting", "(I)I"⟩
abbrev cX4_refusal : ByteArray := prog_1_method_25_code
def yX4_refusal : MethodName := ⟨RX4, "refusal", "(II)I"⟩
abbrev cX4_fewest : ByteArray := prog_1_method_26_code
def yX4_fewest : MethodName := ⟨RX4, "fewest", "(II)I"⟩
abbrev cX4_oldWay : ByteArray := prog_1_method_27_code
def yX4_oldWay : MethodName := ⟨RX4, "oldWay", "(II)I"⟩
abbrev cX4_nearest : ByteArray := prog_1_method_28_code
def yX4_nearest : MethodName := ⟨RX4, "nearest", "(I)I"⟩
abbrev cX4_coolIn : ByteArray := prog_1_method_29_code
def yX4_coolIn : MethodName := ⟨RX4, "coolIn", "(I)I"⟩
abbrev cX4_lengthIn : ByteArray := prog_1_method_30_code
def yX4_lengthIn : MethodName := ⟨RX4, "lengthIn", "(II)I"⟩
abbrev cX4_meanError : ByteArray := prog_1_method_31_code
def yX4_meanError : MethodName := ⟨RX4, "meanError", "()D"⟩
abbrev cX4_checkRange : ByteArray := prog_1_method_32_code
def yX4_checkRange : MethodName := ⟨RX4, "checkRange", "(III)V"⟩
abbrev cX4_checkLeast : ByteArray := prog_1_method_33_code
def yX4_checkLeast : MethodName := ⟨RX4, "checkLeast", "(II)V"⟩
abbrev cX4_checkLength : ByteArray := prog_1_method_34_code
def yX4_checkLength : MethodName := ⟨RX4, "checkLength", "(I)V"⟩
abbrev cX4_checkStack : ByteArray := prog_1_method_35_code
def yX4_checkStack : MethodName := ⟨RX4, "checkStack", "(I)V"⟩
abbrev cX4_checkSetting : ByteArray := prog_1_method_36_code
def yX4_checkSetting : MethodName := ⟨RX4, "checkSetting", "(I)V"⟩
abbrev cX4_checkBlock : ByteArray := prog_1_method_37_code
def yX4_checkBlock : MethodName := ⟨RX4, "checkBlock", "(I)V"⟩
abbrev cX4_checkFree : ByteArray := prog_1_method_38_code
def yX4_checkFree : MethodName := ⟨RX4, "checkFree", "(I)V"⟩
def RX5 : String := "GaugeBlocksModel"
def TX5 : u_T := fun k => match k with
  | _ => ("", "", "", false)
def tyX5 : Nat → FieldType := fun k => match k with
  | _ => .int
abbrev wsX50 : List Cond := u_ws RX5 TX5 0
theorem nmX5 : ∀ a, a < 0 → ∀ b, b < 0 → a ≠ b → (TX5 a).2.1 ≠ (TX5 b).2.1 := by decide +kernel
theorem tyX5_ok : ∀ k, k < 0 → parseFieldDescriptor (TX5 k).2.2.1 = some (tyX5 k) := by decide +kernel
def RJx8e188 : String := "java/lang/Cloneable"
def TJx8e188 : u_T := fun k => match k with
  | _ => ("", "", "", false)
def tyJx8e188 : Nat → FieldType := fun k => match k with
  | _ => .int
abbrev wsJx8e1880 : List Cond := u_ws RJx8e188 TJx8e188 0
theorem nmJx8e188 : ∀ a, a < 0 → ∀ b, b < 0 → a ≠ b → (TJx8e188 a).2.1 ≠ (TJx8e188 b).2.1 := by decide +kernel
theorem tyJx8e188_ok : ∀ k, k < 0 → parseFieldDescriptor (TJx8e188 k).2.2.1 = some (tyJx8e188 k) := by decide +kernel
def RJ6 : String := "java/lang/Integer"
def TJ6 : u_T := fun k => match k with
  | _ => ("", "", "", false)
def tyJ6 : Nat → FieldType := fun k => match k with
  | _ => .int
abbrev wsJ60 : List Cond := u_ws RJ6 TJ6 0
theorem nmJ6 : ∀ a, a < 0 → ∀ b, b < 0 → a ≠ b → (TJ6 a).2.1 ≠ (TJ6 b).2.1 := by decide +kernel
theorem tyJ6_ok : ∀ k, k < 0 → parseFieldDescriptor (TJ6 k).2.2.1 = some (tyJ6 k) := by decide +kernel
abbrev cJ6_bitCount_0f7a4 : ByteArray := prog_13_method_49_code
def yJ6_bitCount_0f7a4 : MethodName := ⟨RJ6, "bitCount", "(I)I"⟩
def RJ9 : String := "java/lang/Math"
def TJ9 : u_T := fun k => match k with
  | _ => ("", "", "", false)
def tyJ9 : Nat → FieldType := fun k => match k with
  | _ => .int
abbrev wsJ90 : List Cond := u_ws RJ9 TJ9 0
theorem nmJ9 : ∀ a, a < 0 → ∀ b, b < 0 → a ≠ b → (TJ9 a).2.1 ≠ (TJ9 b).2.1 := by decide +kernel
theorem tyJ9_ok : ∀ k, k < 0 → parseFieldDescriptor (TJ9 k).2.2.1 = some (tyJ9 k) := by decide +kernel
abbrev cJ9_abs_0f7a4 : ByteArray := prog_14_method_59_code
def yJ9_abs_0f7a4 : MethodName := ⟨RJ9, "abs", "(I)I"⟩
abbrev cJ9_max_7cf53 : ByteArray := prog_14_method_65_code
def yJ9_max_7cf53 : MethodName := ⟨RJ9, "max", "(II)I"⟩
abbrev cJ9_min_7cf53 : ByteArray := prog_14_method_69_code
def yJ9_min_7cf53 : MethodName := ⟨RJ9, "min", "(II)I"⟩
def RJ0 : String := "java/lang/String"
def TJ0 : u_T := fun k => match k with
  | _ => ("", "", "", false)
def tyJ0 : Nat → FieldType := fun k => match k with
  | _ => .int
abbrev wsJ00 : List Cond := u_ws RJ0 TJ0 0
theorem nmJ0 : ∀ a, a < 0 → ∀ b, b < 0 → a ≠ b → (TJ0 a).2.1 ≠ (TJ0 b).2.1 := by decide +kernel
theorem tyJ0_ok : ∀ k, k < 0 → parseFieldDescriptor (TJ0 k).2.2.1 = some (tyJ0 k) := by decide +kernel
def RJ10 : String := "java/lang/System"
def TJ10 : u_T := fun k => match k with
  | _ => ("", "", "", false)
def tyJ10 : Nat → FieldType := fun k => match k with
  | _ => .int
abbrev wsJ100 : List Cond := u_ws RJ10 TJ10 0
theorem nmJ10 : ∀ a, a < 0 → ∀ b, b < 0 → a ≠ b → (TJ10 a).2.1 ≠ (TJ10 b).2.1 := by decide +kernel
theorem tyJ10_ok : ∀ k, k < 0 → parseFieldDescriptor (TJ10 k).2.2.1 = some (tyJ10 k) := by decide +kernel
def RL : String := "GaugeBlocksLaw"
abbrev cL_cell : ByteArray := method_2_code
def yL_cell : MethodName := ⟨RL, "cell", "([II)I"⟩
abbrev cL_low : ByteArray := method_3_code
def yL_low : MethodName := ⟨RL, "low", "(II)I"⟩
abbrev cL_size : ByteArray := method_4_code
def yL_size : MethodName := ⟨RL, "size", "(I)I"⟩
abbrev cL_grade : ByteArray := method_5_code
def yL_grade : MethodName := ⟨RL, "grade", "([I[II)I"⟩
abbrev cL_length : ByteArray := method_6_code
def yL_length : MethodName := ⟨RL, "length", "([I[I[III)I"⟩
abbrev cL_where : ByteArray := method_7_code
def yL_where : MethodName := ⟨RL, "where", "([II)I"⟩
abbrev cL_cool : ByteArray := method_8_code
def yL_cool : MethodName := ⟨RL, "cool", "(II)I"⟩
abbrev cL_reason : ByteArray := method_9_code
def yL_reason : MethodName := ⟨RL, "reason", "([I[I[I[I[III)I"⟩
abbrev cL_rubs : ByteArray := method_10_code
def yL_rubs : MethodName := ⟨RL, "rubs", "([I[I[I[II)V"⟩
abbrev cL_wrings : ByteArray := method_11_code
def yL_wrings : MethodName := ⟨RL, "wrings", "([I[I[I[I[I[III)I"⟩
abbrev cL_sum : ByteArray := method_12_code
def yL_sum : MethodName := ⟨RL, "sum", "([II)I"⟩
abbrev cL_ones : ByteArray := method_13_code
def yL_ones : MethodName := ⟨RL, "ones", "(I)I"⟩
abbrev cL_free : ByteArray := method_14_code
def yL_free : MethodName := ⟨RL, "free", "([I[I)I"⟩
abbrev cL_fewest : ByteArray := method_15_code
def yL_fewest : MethodName := ⟨RL, "fewest", "([III)I"⟩
abbrev cL_isOld : ByteArray := method_16_code
def yL_isOld : MethodName := ⟨RL, "isOld", "(LGaugeBlocks;[III)Z"⟩
abbrev cL_nearest : ByteArray := method_17_code
def yL_nearest : MethodName := ⟨RL, "nearest", "([III)I"⟩
abbrev cL_areBlocks : ByteArray := method_18_code
def yL_areBlocks : MethodName := ⟨RL, "areBlocks", "(LGaugeBlocks;[I[I[I[I[I[I[I)Z"⟩
abbrev cL_areStacks : ByteArray := method_19_code
def yL_areStacks : MethodName := ⟨RL, "areStacks", "(LGaugeBlocks;[I[I[I[I[I[II)Z"⟩
abbrev cL_key : ByteArray := method_20_code
def yL_key : MethodName := ⟨RL, "key", "([I[I[I[III)I"⟩
abbrev cL_areRanked : ByteArray := method_21_code
def yL_areRanked : MethodName := ⟨RL, "areRanked", "(LGaugeBlocks;[I[I[I[I[I[II)Z"⟩
abbrev cL_adds : ByteArray := method_22_code
def yL_adds : MethodName := ⟨RL, "adds", "(LGaugeBlocks;[I[I[I[I[I[II)Z"⟩
abbrev cL_moves : ByteArray := method_23_code
def yL_moves : MethodName := ⟨RL, "moves", "([II)V"⟩
abbrev cL_discards : ByteArray := method_24_code
def yL_discards : MethodName := ⟨RL, "discards", "(LGaugeBlocks;[I[I[I[I[I[I[II)Z"⟩
abbrev cL_makes : ByteArray := method_25_code
def yL_makes : MethodName := ⟨RL, "makes", "(LGaugeBlocks;[I[I[I[I[I[I[III)Z"⟩
abbrev cL_acts : ByteArray := method_26_code
def yL_acts : MethodName := ⟨RL, "acts", "(LGaugeBlocks;[I[I[I[I[I[I[III)Z"⟩
abbrev cL_law : ByteArray := code
def yL_law : MethodName := ⟨RL, "law", "([I)Z"⟩
def wsX3_blocksIn : List Cond := .code yX3_blocksIn cX3_blocksIn 4 (some .int) :: ([.fieldLink RX3 50 "GaugeBlocks$State" "blocks" "I", .fieldLink RX3 24 "GaugeBlocks$State" "stack" "[I"] ++ wsX30)
def wsX0_leastSet : List Cond := .code yX0_leastSet cX0_leastSet 8 (some .int) :: ([.constant RX0 25 (100000), .methodLink RX0 19 yX0_leastSet, .static yX0_leastSet, .initialized RX0])
def wsX0_fewestFor : List Cond := .code yX0_fewestFor cX0_fewestFor 5 (some .int) :: ([.fieldLink RX0 15 "GaugeBlocks$State" "nominal" "[I", .methodLink RX0 9 yX3_blocksIn, .instanceMethod yX3_blocksIn, .selects RX3 yX3_blocksIn yX3_blocksIn, .initialized RX3, .code yX3_blocksIn cX3_blocksIn 4 (some .int), .fieldLink RX3 50 "GaugeBlocks$State" "blocks" "I", .fieldLink RX3 24 "GaugeBlocks$State" "stack" "[I", .methodLink RX0 19 yX0_leastSet, .static yX0_leastSet, .initialized RX0, .code yX0_leastSet cX0_leastSet 8 (some .int), .constant RX0 25 (100000)] ++ wsX30)
def wsX0_zerosAtEnd : List Cond := .code yX0_zerosAtEnd cX0_zerosAtEnd 3 (some .int) :: ([])
def wsX3_isFree : List Cond := .code yX3_isFree cX3_isFree 2 (some .boolean) :: ([.fieldLink RX3 24 "GaugeBlocks$State" "stack" "[I"] ++ wsX30)
def wsX0_nextOfOldWay : List Cond := .code yX0_nextOfOldWay cX0_nextOfOldWay 9 (some .int) :: ([.fieldLink RX0 33 "GaugeBlocks$State" "blocks" "I", .fieldLink RX0 15 "GaugeBlocks$State" "nominal" "[I", .methodLink RX0 30 yX0_zerosAtEnd, .static yX0_zerosAtEnd, .initialized RX0, .code yX0_zerosAtEnd cX0_zerosAtEnd 3 (some .int), .methodLink RX0 37 yX3_isFree, .instanceMethod yX3_isFree, .selects RX3 yX3_isFree yX3_isFree, .initialized RX3, .code yX3_isFree cX3_isFree 2 (some .boolean), .fieldLink RX3 24 "GaugeBlocks$State" "stack" "[I"] ++ wsX30)
def wsX0_takenByOldWay : List Cond := .code yX0_takenByOldWay cX0_takenByOldWay 6 (some .int) :: ([.fieldLink RX0 15 "GaugeBlocks$State" "nominal" "[I", .methodLink RX0 26 yX0_nextOfOldWay, .static yX0_nextOfOldWay, .initialized RX0, .code yX0_nextOfOldWay cX0_nextOfOldWay 9 (some .int), .fieldLink RX0 33 "GaugeBlocks$State" "blocks" "I", .methodLink RX0 30 yX0_zerosAtEnd, .static yX0_zerosAtEnd, .code yX0_zerosAtEnd cX0_zerosAtEnd 3 (some .int), .methodLink RX0 37 yX3_isFree, .instanceMethod yX3_isFree, .selects RX3 yX3_isFree yX3_isFree, .initialized RX3, .code yX3_isFree cX3_isFree 2 (some .boolean), .fieldLink RX3 24 "GaugeBlocks$State" "stack" "[I"] ++ wsX30)
def wsX0_nearer : List Cond := .code yX0_nearer cX0_nearer 4 (some .int) :: ([.methodLink RX0 45 Lib.Math.abs.name, .static Lib.Math.abs.name, .initialized "java/lang/Math", .code Lib.Math.abs.name Lib.Math.abs.code 1 (some .int), .methodLink RX0 50 Lib.Math.min.name, .static Lib.Math.min.name, .code Lib.Math.min.name Lib.Math.min.code 2 (some .int)])
def wsX0_nearestTo : List Cond := .code yX0_nearestTo cX0_nearestTo 5 (some .int) :: ([.fieldLink RX0 33 "GaugeBlocks$State" "blocks" "I", .fieldLink RX0 15 "GaugeBlocks$State" "nominal" "[I", .methodLink RX0 37 yX3_isFree, .instanceMethod yX3_isFree, .selects RX3 yX3_isFree yX3_isFree, .initialized RX3, .code yX3_isFree cX3_isFree 2 (some .boolean), .fieldLink RX3 24 "GaugeBlocks$State" "stack" "[I", .methodLink RX0 41 yX0_nearer, .static yX0_nearer, .initialized RX0, .code yX0_nearer cX0_nearer 4 (some .int), .methodLink RX0 45 Lib.Math.abs.name, .static Lib.Math.abs.name, .initialized "java/lang/Math", .code Lib.Math.abs.name Lib.Math.abs.code 1 (some .int), .methodLink RX0 50 Lib.Math.min.name, .static Lib.Math.min.name, .code Lib.Math.min.name Lib.Math.min.code 2 (some .int)] ++ wsX30)
def wsX3_errorOf : List Cond := .code yX3_errorOf cX3_errorOf 2 (some .int) :: ([.fieldLink RX3 15 "GaugeBlocks$State" "deviation" "[I", .fieldLink RX3 18 "GaugeBlocks$State" "wear" "[I"] ++ wsX30)
def wsX3_sizeOfError : List Cond := .code yX3_sizeOfError cX3_sizeOfError 2 (some .int) :: ([.methodLink RX3 78 Lib.Math.abs.name, .static Lib.Math.abs.name, .initialized "java/lang/Math", .code Lib.Math.abs.name Lib.Math.abs.code 1 (some .int), .methodLink RX3 74 yX3_errorOf, .instanceMethod yX3_errorOf, .selects RX3 yX3_errorOf yX3_errorOf, .initialized RX3, .code yX3_errorOf cX3_errorOf 2 (some .int), .fieldLink RX3 15 "GaugeBlocks$State" "deviation" "[I", .fieldLink RX3 18 "GaugeBlocks$State" "wear" "[I"] ++ wsX30)
def wsX0_sortKey : List Cond := .code yX0_sortKey cX0_sortKey 3 (some .int) :: ([.fieldLink RX0 60 "GaugeBlocks$State" "warmth" "[I", .fieldLink RX0 15 "GaugeBlocks$State" "nominal" "[I", .methodLink RX0 63 yX3_sizeOfError, .instanceMethod yX3_sizeOfError, .selects RX3 yX3_sizeOfError yX3_sizeOfError, .initialized RX3, .code yX3_sizeOfError cX3_sizeOfError 2 (some .int), .methodLink RX3 78 Lib.Math.abs.name, .static Lib.Math.abs.name, .initialized "java/lang/Math", .code Lib.Math.abs.name Lib.Math.abs.code 1 (some .int), .methodLink RX3 74 yX3_errorOf, .instanceMethod yX3_errorOf, .selects RX3 yX3_errorOf yX3_errorOf, .code yX3_errorOf cX3_errorOf 2 (some .int), .fieldLink RX3 15 "GaugeBlocks$State" "deviation" "[I", .fieldLink RX3 18 "GaugeBlocks$State" "wear" "[I"] ++ wsX30)
def wsX0_manyBefore : List Cond := .code yX0_manyBefore cX0_manyBefore 6 (some .int) :: ([.fieldLink RX0 33 "GaugeBlocks$State" "blocks" "I", .methodLink RX0 57 yX0_sortKey, .static yX0_sortKey, .initialized RX0, .code yX0_sortKey cX0_sortKey 3 (some .int), .fieldLink RX0 60 "GaugeBlocks$State" "warmth" "[I", .fieldLink RX0 15 "GaugeBlocks$State" "nominal" "[I", .methodLink RX0 63 yX3_sizeOfError, .instanceMethod yX3_sizeOfError, .selects RX3 yX3_sizeOfError yX3_sizeOfError, .initialized RX3, .code yX3_sizeOfError cX3_sizeOfError 2 (some .int), .methodLink RX3 78 Lib.Math.abs.name, .static Lib.Math.abs.name, .initialized "java/lang/Math", .code Lib.Math.abs.name Lib.Math.abs.code 1 (some .int), .methodLink RX3 74 yX3_errorOf, .instanceMethod yX3_errorOf, .selects RX3 yX3_errorOf yX3_errorOf, .code yX3_errorOf cX3_errorOf 2 (some .int), .fieldLink RX3 15 "GaugeBlocks$State" "deviation" "[I", .fieldLink RX3 18 "GaugeBlocks$State" "wear" "[I"] ++ wsX30)
def wsX0_blockOfRank_r1 : List Cond := [Cond.fieldLink RX0 33 "GaugeBlocks$State" "blocks" "I", Cond.methodLink RX0 54 yX0_manyBefore, Cond.static yX0_manyBefore, Cond.initialized RX0, Cond.code yX0_manyBefore cX0_manyBefore 6 (some .int), Cond.methodLink RX0 57 yX0_sortKey, Cond.static yX0_sortKey, Cond.code yX0_sortKey cX0_sortKey 3 (some .int), Cond.fieldLink RX0 60 "GaugeBlocks$State" "warmth" "[I", Cond.fieldLink RX0 15 "GaugeBlocks$State" "nominal" "[I", Cond.methodLink RX0 63 yX3_sizeOfError, Cond.instanceMethod yX3_sizeOfError, Cond.selects RX3 yX3_sizeOfError yX3_sizeOfError, Cond.initialized RX3, Cond.code yX3_sizeOfError cX3_sizeOfError 2 (some .int), Cond.methodLink RX3 78 Lib.Math.abs.name, Cond.static Lib.Math.abs.name, Cond.initialized "java/lang/Math", Cond.code Lib.Math.abs.name Lib.Math.abs.code 1 (some .int), Cond.methodLink RX3 74 yX3_errorOf, Cond.instanceMethod yX3_errorOf, Cond.selects RX3 yX3_errorOf yX3_errorOf, Cond.code yX3_errorOf cX3_errorOf 2 (some .int), Cond.fieldLink RX3 15 "GaugeBlocks$State" "deviation" "[I"]
def wsX0_blockOfRank_r2 : List Cond := [Cond.fieldLink RX3 18 "GaugeBlocks$State" "wear" "[I"]
def wsX0_blockOfRank : List Cond := .code yX0_blockOfRank cX0_blockOfRank 4 (some .int) :: ((wsX0_blockOfRank_r1 ++ wsX0_blockOfRank_r2) ++ wsX30)
def wsX0_shortestAbove : List Cond := .code yX0_shortestAbove cX0_shortestAbove 5 (some .int) :: ([.fieldLink RX0 33 "GaugeBlocks$State" "blocks" "I", .fieldLink RX0 15 "GaugeBlocks$State" "nominal" "[I", .methodLink RX0 37 yX3_isFree, .instanceMethod yX3_isFree, .selects RX3 yX3_isFree yX3_isFree, .initialized RX3, .code yX3_isFree cX3_isFree 2 (some .boolean), .fieldLink RX3 24 "GaugeBlocks$State" "stack" "[I"] ++ wsX30)
def wsX0_lengthOfRank : List Cond := .code yX0_lengthOfRank cX0_lengthOfRank 4 (some .int) :: ([.methodLink RX0 70 yX0_shortestAbove, .static yX0_shortestAbove, .initialized RX0, .code yX0_shortestAbove cX0_shortestAbove 5 (some .int), .fieldLink RX0 33 "GaugeBlocks$State" "blocks" "I", .fieldLink RX0 15 "GaugeBlocks$State" "nominal" "[I", .methodLink RX0 37 yX3_isFree, .instanceMethod yX3_isFree, .selects RX3 yX3_isFree yX3_isFree, .initialized RX3, .code yX3_isFree cX3_isFree 2 (some .boolean), .fieldLink RX3 24 "GaugeBlocks$State" "stack" "[I"] ++ wsX30)
def wsX0_differentLengths : List Cond := .code yX0_differentLengths cX0_differentLengths 2 (some .int) :: ([.methodLink RX0 66 yX0_lengthOfRank, .static yX0_lengthOfRank, .initialized RX0, .code yX0_lengthOfRank cX0_lengthOfRank 4 (some .int), .methodLink RX0 70 yX0_shortestAbove, .static yX0_shortestAbove, .code yX0_shortestAbove cX0_shortestAbove 5 (some .int), .fieldLink RX0 33 "GaugeBlocks$State" "blocks" "I", .fieldLink RX0 15 "GaugeBlocks$State" "nominal" "[I", .methodLink RX0 37 yX3_isFree, .instanceMethod yX3_isFree, .selects RX3 yX3_isFree yX3_isFree, .initialized RX3, .code yX3_isFree cX3_isFree 2 (some .boolean), .fieldLink RX3 24 "GaugeBlocks$State" "stack" "[I"] ++ wsX30)
def wsX1_init : List Cond := .code yX1_init cX1_init 1 none :: ([.methodLink RX1 3 objectInit, .instanceMethod objectInit, .code objectInit ⟨#[0xb1]⟩ 1 none, .arrayClass .int, .fieldLink RX1 9 "GaugeBlocks$OrderText" "signs" "[I"] ++ wsX10)
def wsX3_init : List Cond := .code yX3_init cX3_init 1 none :: ([.methodLink RX3 3 objectInit, .instanceMethod objectInit, .code objectInit ⟨#[0xb1]⟩ 1 none, .arrayClass .int, .fieldLink RX3 9 "GaugeBlocks$State" "nominal" "[I", .fieldLink RX3 15 "GaugeBlocks$State" "deviation" "[I", .fieldLink RX3 18 "GaugeBlocks$State" "wear" "[I", .fieldLink RX3 21 "GaugeBlocks$State" "warmth" "[I", .fieldLink RX3 24 "GaugeBlocks$State" "stack" "[I", .fieldLink RX3 27 "GaugeBlocks$State" "place" "[I", .fieldLink RX3 30 "GaugeBlocks$State" "timesWrung" "[I", .methodLink RX3 36 ⟨"[I", "clone", "()Ljava/lang/Object;"⟩, .sameMethod "[I" "java/lang/Object" "clone" "()Ljava/lang/Object;", .native ⟨"java/lang/Object", "clone", "()Ljava/lang/Object;"⟩, .instanceMethod ⟨"java/lang/Object", "clone", "()Ljava/lang/Object;"⟩, .selects "[I" ⟨"[I", "clone", "()Ljava/lang/Object;"⟩ ⟨"java/lang/Object", "clone", "()Ljava/lang/Object;"⟩, .classLink RX3 37 "[I", .fieldLink RX3 41 "GaugeBlocks$State" "settings" "[I"] ++ wsX30)
def wsX2_init_r1 : List Cond := [Cond.methodLink RX2 3 objectInit, Cond.instanceMethod objectInit, Cond.code objectInit ⟨#[0xb1]⟩ 1 none, Cond.classLink RX2 9 RX3, Cond.fieldLink RX2 11 "GaugeBlocks$SavedStates" "states" "[LGaugeBlocks$State;", Cond.instantiable RX3 13, Cond.initialized RX3, Cond.instanceMethod yX3_init, Cond.code yX3_init cX3_init 1 none, Cond.methodLink RX3 3 objectInit, Cond.arrayClass .int, Cond.fieldLink RX3 9 "GaugeBlocks$State" "nominal" "[I", Cond.fieldLink RX3 15 "GaugeBlocks$State" "deviation" "[I", Cond.fieldLink RX3 18 "GaugeBlocks$State" "wear" "[I", Cond.fieldLink RX3 21 "GaugeBlocks$State" "warmth" "[I", Cond.fieldLink RX3 24 "GaugeBlocks$State" "stack" "[I", Cond.fieldLink RX3 27 "GaugeBlocks$State" "place" "[I", Cond.fieldLink RX3 30 "GaugeBlocks$State" "timesWrung" "[I", Cond.methodLink RX3 36 ⟨"[I", "clone", "()Ljava/lang/Object;"⟩, Cond.sameMethod "[I" "java/lang/Object" "clone" "()Ljava/lang/Object;", Cond.native ⟨"java/lang/Object", "clone", "()Ljava/lang/Object;"⟩, Cond.instanceMethod ⟨"java/lang/Object", "clone", "()Ljava/lang/Object;"⟩, Cond.selects "[I" ⟨"[I", "clone", "()Ljava/lang/Object;"⟩ ⟨"java/lang/Object", "clone", "()Ljava/lang/Object;"⟩, Cond.classLink RX3 37 "[I"]
def wsX2_init_r2 : List Cond := [Cond.fieldLink RX3 41 "GaugeBlocks$State" "settings" "[I"]
def wsX2_init : List Cond := .code yX2_init cX2_init 2 none :: ((wsX2_init_r1 ++ wsX2_init_r2) ++ wsX20 ++ wsX30)
def wsX2_dropOldest : List Cond := .code yX2_dropOldest cX2_dropOldest 3 none :: ([.fieldLink RX2 11 "GaugeBlocks$SavedStates" "states" "[LGaugeBlocks$State;", .fieldLink RX2 18 "GaugeBlocks$SavedStates" "many" "I"] ++ wsX20)
def wsX3_copyFrom : List Cond := .code yX3_copyFrom cX3_copyFrom 2 none :: ([.fieldLink RX3 9 "GaugeBlocks$State" "nominal" "[I", .methodLink RX3 44 arraycopyName, .native arraycopyName, .static arraycopyName, .initialized "java/lang/System", .fieldLink RX3 15 "GaugeBlocks$State" "deviation" "[I", .fieldLink RX3 18 "GaugeBlocks$State" "wear" "[I", .fieldLink RX3 21 "GaugeBlocks$State" "warmth" "[I", .fieldLink RX3 24 "GaugeBlocks$State" "stack" "[I", .fieldLink RX3 27 "GaugeBlocks$State" "place" "[I", .fieldLink RX3 30 "GaugeBlocks$State" "timesWrung" "[I", .fieldLink RX3 41 "GaugeBlocks$State" "settings" "[I", .fieldLink RX3 50 "GaugeBlocks$State" "blocks" "I", .fieldLink RX3 54 "GaugeBlocks$State" "minutes" "I", .fieldLink RX3 57 "GaugeBlocks$State" "wrings" "I", .fieldLink RX3 60 "GaugeBlocks$State" "takeOffs" "I", .fieldLink RX3 63 "GaugeBlocks$State" "refusals" "I"] ++ wsX30)
def wsX2_push_r1 : List Cond := [Cond.fieldLink RX2 18 "GaugeBlocks$SavedStates" "many" "I", Cond.fieldLink RX2 11 "GaugeBlocks$SavedStates" "states" "[LGaugeBlocks$State;", Cond.methodLink RX2 22 yX2_dropOldest, Cond.instanceMethod yX2_dropOldest, Cond.selects RX2 yX2_dropOldest yX2_dropOldest, Cond.initialized RX2, Cond.code yX2_dropOldest cX2_dropOldest 3 none, Cond.methodLink RX2 25 yX3_copyFrom, Cond.instanceMethod yX3_copyFrom, Cond.selects RX3 yX3_copyFrom yX3_copyFrom, Cond.initialized RX3, Cond.code yX3_copyFrom cX3_copyFrom 2 none, Cond.fieldLink RX3 9 "GaugeBlocks$State" "nominal" "[I", Cond.methodLink RX3 44 arraycopyName, Cond.native arraycopyName, Cond.static arraycopyName, Cond.initialized "java/lang/System", Cond.fieldLink RX3 15 "GaugeBlocks$State" "deviation" "[I", Cond.fieldLink RX3 18 "GaugeBlocks$State" "wear" "[I", Cond.fieldLink RX3 21 "GaugeBlocks$State" "warmth" "[I", Cond.fieldLink RX3 24 "GaugeBlocks$State" "stack" "[I", Cond.fieldLink RX3 27 "GaugeBlocks$State" "place" "[I", Cond.fieldLink RX3 30 "GaugeBlocks$State" "timesWrung" "[I", Cond.fieldLink RX3 41 "GaugeBlocks$State" "settings" "[I"]
def wsX2_push_r2 : List Cond := [Cond.fieldLink RX3 50 "GaugeBlocks$State" "blocks" "I", Cond.fieldLink RX3 54 "GaugeBlocks$State" "minutes" "I", Cond.fieldLink RX3 57 "GaugeBlocks$State" "wrings" "I", Cond.fieldLink RX3 60 "GaugeBlocks$State" "takeOffs" "I", Cond.fieldLink RX3 63 "GaugeBlocks$State" "refusals" "I"]
def wsX2_push : List Cond := .code yX2_push cX2_push 2 none :: ((wsX2_push_r1 ++ wsX2_push_r2) ++ wsX20 ++ wsX30)
def wsX3_isFull : List Cond := .code yX3_isFull cX3_isFull 1 (some .boolean) :: ([.fieldLink RX3 50 "GaugeBlocks$State" "blocks" "I"] ++ wsX30)
def wsX3_hasBlock : List Cond := .code yX3_hasBlock cX3_hasBlock 2 (some .boolean) :: ([.fieldLink RX3 50 "GaugeBlocks$State" "blocks" "I"] ++ wsX30)
def wsX3_addBlock : List Cond := .code yX3_addBlock cX3_addBlock 4 (some .int) :: ([.fieldLink RX3 50 "GaugeBlocks$State" "blocks" "I", .fieldLink RX3 9 "GaugeBlocks$State" "nominal" "[I", .fieldLink RX3 15 "GaugeBlocks$State" "deviation" "[I", .fieldLink RX3 18 "GaugeBlocks$State" "wear" "[I", .fieldLink RX3 21 "GaugeBlocks$State" "warmth" "[I", .fieldLink RX3 24 "GaugeBlocks$State" "stack" "[I", .fieldLink RX3 27 "GaugeBlocks$State" "place" "[I", .fieldLink RX3 30 "GaugeBlocks$State" "timesWrung" "[I", .methodLink RX3 66 yX3_isFull, .instanceMethod yX3_isFull, .selects RX3 yX3_isFull yX3_isFull, .initialized RX3, .code yX3_isFull cX3_isFull 1 (some .boolean)] ++ wsX30)
def wsX3_closeGap : List Cond := .code yX3_closeGap cX3_closeGap 4 none :: ([.fieldLink RX3 50 "GaugeBlocks$State" "blocks" "I"] ++ wsX30)
def wsX3_removeBlock : List Cond := .code yX3_removeBlock cX3_removeBlock 2 none :: ([.fieldLink RX3 9 "GaugeBlocks$State" "nominal" "[I", .fieldLink RX3 15 "GaugeBlocks$State" "deviation" "[I", .fieldLink RX3 18 "GaugeBlocks$State" "wear" "[I", .fieldLink RX3 21 "GaugeBlocks$State" "warmth" "[I", .fieldLink RX3 24 "GaugeBlocks$State" "stack" "[I", .fieldLink RX3 27 "GaugeBlocks$State" "place" "[I", .fieldLink RX3 30 "GaugeBlocks$State" "timesWrung" "[I", .fieldLink RX3 50 "GaugeBlocks$State" "blocks" "I", .methodLink RX3 70 yX3_closeGap, .instanceMethod yX3_closeGap, .selects RX3 yX3_closeGap yX3_closeGap, .initialized RX3, .code yX3_closeGap cX3_closeGap 4 none] ++ wsX30)
def wsX3_sizesOfErrors : List Cond := .code yX3_sizesOfErrors cX3_sizesOfErrors 3 (some .int) :: ([.fieldLink RX3 50 "GaugeBlocks$State" "blocks" "I", .methodLink RX3 83 yX3_sizeOfError, .instanceMethod yX3_sizeOfError, .selects RX3 yX3_sizeOfError yX3_sizeOfError, .initialized RX3, .code yX3_sizeOfError cX3_sizeOfError 2 (some .int), .methodLink RX3 78 Lib.Math.abs.name, .static Lib.Math.abs.name, .initialized "java/lang/Math", .code Lib.Math.abs.name Lib.Math.abs.code 1 (some .int), .methodLink RX3 74 yX3_errorOf, .instanceMethod yX3_errorOf, .selects RX3 yX3_errorOf yX3_errorOf, .code yX3_errorOf cX3_errorOf 2 (some .int), .fieldLink RX3 15 "GaugeBlocks$State" "deviation" "[I", .fieldLink RX3 18 "GaugeBlocks$State" "wear" "[I"] ++ wsX30)
def wsX3_gradeOf : List Cond := .code yX3_gradeOf cX3_gradeOf 3 (some .int) :: ([.methodLink RX3 83 yX3_sizeOfError, .instanceMethod yX3_sizeOfError, .selects RX3 yX3_sizeOfError yX3_sizeOfError, .initialized RX3, .code yX3_sizeOfError cX3_sizeOfError 2 (some .int), .methodLink RX3 78 Lib.Math.abs.name, .static Lib.Math.abs.name, .initialized "java/lang/Math", .code Lib.Math.abs.name Lib.Math.abs.code 1 (some .int), .methodLink RX3 74 yX3_errorOf, .instanceMethod yX3_errorOf, .selects RX3 yX3_errorOf yX3_errorOf, .code yX3_errorOf cX3_errorOf 2 (some .int), .fieldLink RX3 15 "GaugeBlocks$State" "deviation" "[I", .fieldLink RX3 18 "GaugeBlocks$State" "wear" "[I"] ++ wsX30)
def wsX3_turnWearIntoDeviation : List Cond := .code yX3_turnWearIntoDeviation cX3_turnWearIntoDeviation 2 none :: ([.fieldLink RX3 15 "GaugeBlocks$State" "deviation" "[I", .methodLink RX3 86 Lib.Math.max.name, .static Lib.Math.max.name, .initialized "java/lang/Math", .code Lib.Math.max.name Lib.Math.max.code 2 (some .int), .fieldLink RX3 18 "GaugeBlocks$State" "wear" "[I", .methodLink RX3 74 yX3_errorOf, .instanceMethod yX3_errorOf, .selects RX3 yX3_errorOf yX3_errorOf, .initialized RX3, .code yX3_errorOf cX3_errorOf 2 (some .int)] ++ wsX30)
def wsX3_wearOfAll : List Cond := .code yX3_wearOfAll cX3_wearOfAll 3 (some .int) :: ([.fieldLink RX3 50 "GaugeBlocks$State" "blocks" "I", .fieldLink RX3 18 "GaugeBlocks$State" "wear" "[I"] ++ wsX30)
def wsX3_warm : List Cond := .code yX3_warm cX3_warm 3 none :: ([.fieldLink RX3 21 "GaugeBlocks$State" "warmth" "[I", .methodLink RX3 90 Lib.Math.min.name, .static Lib.Math.min.name, .initialized "java/lang/Math", .code Lib.Math.min.name Lib.Math.min.code 2 (some .int)] ++ wsX30)
def wsX3_cooled : List Cond := .code yX3_cooled cX3_cooled 4 (some .int) :: ([])
def wsX3_letPass : List Cond := .code yX3_letPass cX3_letPass 3 none :: ([.fieldLink RX3 50 "GaugeBlocks$State" "blocks" "I", .fieldLink RX3 21 "GaugeBlocks$State" "warmth" "[I", .fieldLink RX3 54 "GaugeBlocks$State" "minutes" "I", .methodLink RX3 93 yX3_cooled, .static yX3_cooled, .initialized RX3, .code yX3_cooled cX3_cooled 4 (some .int)] ++ wsX30)
def wsX3_minutesUntilCool : List Cond := .code yX3_minutesUntilCool cX3_minutesUntilCool 4 (some .int) :: ([.fieldLink RX3 21 "GaugeBlocks$State" "warmth" "[I", .fieldLink RX3 41 "GaugeBlocks$State" "settings" "[I", .methodLink RX3 93 yX3_cooled, .static yX3_cooled, .initialized RX3, .code yX3_cooled cX3_cooled 4 (some .int)] ++ wsX30)
def wsX3_greatestWarmth : List Cond := .code yX3_greatestWarmth cX3_greatestWarmth 3 (some .int) :: ([.fieldLink RX3 50 "GaugeBlocks$State" "blocks" "I", .fieldLink RX3 21 "GaugeBlocks$State" "warmth" "[I", .methodLink RX3 86 Lib.Math.max.name, .static Lib.Math.max.name, .initialized "java/lang/Math", .code Lib.Math.max.name Lib.Math.max.code 2 (some .int)] ++ wsX30)
def wsJ6_bitCount_0f7a4 : List Cond := .code yJ6_bitCount_0f7a4 cJ6_bitCount_0f7a4 1 (some .int) :: ([.constant RJ6 265 (1431655765), .constant RJ6 266 (858993459), .constant RJ6 267 (252645135)])
def wsX3_heightOf : List Cond := .code yX3_heightOf cX3_heightOf 2 (some .int) :: ([.methodLink RX3 125 yX3_blocksIn, .instanceMethod yX3_blocksIn, .selects RX3 yX3_blocksIn yX3_blocksIn, .initialized RX3, .code yX3_blocksIn cX3_blocksIn 4 (some .int), .fieldLink RX3 50 "GaugeBlocks$State" "blocks" "I", .fieldLink RX3 24 "GaugeBlocks$State" "stack" "[I", .methodLink RX3 128 yJ6_bitCount_0f7a4, .static yJ6_bitCount_0f7a4, .initialized RJ6, .code yJ6_bitCount_0f7a4 cJ6_bitCount_0f7a4 1 (some .int), .constant RJ6 265 (1431655765), .constant RJ6 266 (858993459), .constant RJ6 267 (252645135)] ++ wsX30)
def wsX3_reasonToRefuse_r1 : List Cond := [Cond.fieldLink RX3 21 "GaugeBlocks$State" "warmth" "[I", Cond.fieldLink RX3 41 "GaugeBlocks$State" "settings" "[I", Cond.methodLink RX3 96 yX3_isFree, Cond.instanceMethod yX3_isFree, Cond.selects RX3 yX3_isFree yX3_isFree, Cond.initialized RX3, Cond.code yX3_isFree cX3_isFree 2 (some .boolean), Cond.fieldLink RX3 24 "GaugeBlocks$State" "stack" "[I", Cond.methodLink RX3 100 yX3_heightOf, Cond.instanceMethod yX3_heightOf, Cond.selects RX3 yX3_heightOf yX3_heightOf, Cond.code yX3_heightOf cX3_heightOf 2 (some .int), Cond.methodLink RX3 125 yX3_blocksIn, Cond.instanceMethod yX3_blocksIn, Cond.selects RX3 yX3_blocksIn yX3_blocksIn, Cond.code yX3_blocksIn cX3_blocksIn 4 (some .int), Cond.fieldLink RX3 50 "GaugeBlocks$State" "blocks" "I", Cond.methodLink RX3 128 yJ6_bitCount_0f7a4, Cond.static yJ6_bitCount_0f7a4, Cond.initialized RJ6, Cond.code yJ6_bitCount_0f7a4 cJ6_bitCount_0f7a4 1 (some .int), Cond.constant RJ6 265 (1431655765), Cond.constant RJ6 266 (858993459), Cond.constant RJ6 267 (252645135)]
def wsX3_reasonToRefuse_r2 : List Cond := [Cond.methodLink RX3 103 yX3_gradeOf, Cond.instanceMethod yX3_gradeOf, Cond.selects RX3 yX3_gradeOf yX3_gradeOf, Cond.code yX3_gradeOf cX3_gradeOf 3 (some .int), Cond.methodLink RX3 83 yX3_sizeOfError, Cond.instanceMethod yX3_sizeOfError, Cond.selects RX3 yX3_sizeOfError yX3_sizeOfError, Cond.code yX3_sizeOfError cX3_sizeOfError 2 (some .int), Cond.methodLink RX3 78 Lib.Math.abs.name, Cond.static Lib.Math.abs.name, Cond.initialized "java/lang/Math", Cond.code Lib.Math.abs.name Lib.Math.abs.code 1 (some .int), Cond.methodLink RX3 74 yX3_errorOf, Cond.instanceMethod yX3_errorOf, Cond.selects RX3 yX3_errorOf yX3_errorOf, Cond.code yX3_errorOf cX3_errorOf 2 (some .int), Cond.fieldLink RX3 15 "GaugeBlocks$State" "deviation" "[I", Cond.fieldLink RX3 18 "GaugeBlocks$State" "wear" "[I"]
def wsX3_reasonToRefuse : List Cond := .code yX3_reasonToRefuse cX3_reasonToRefuse 3 (some .int) :: ((wsX3_reasonToRefuse_r1 ++ wsX3_reasonToRefuse_r2) ++ wsX30)
def wsX3_blockAt : List Cond := .code yX3_blockAt cX3_blockAt 4 (some .int) :: ([.fieldLink RX3 50 "GaugeBlocks$State" "blocks" "I", .fieldLink RX3 24 "GaugeBlocks$State" "stack" "[I", .fieldLink RX3 27 "GaugeBlocks$State" "place" "[I"] ++ wsX30)
def wsX3_slide : List Cond := .code yX3_slide cX3_slide 3 none :: ([.fieldLink RX3 41 "GaugeBlocks$State" "settings" "[I", .fieldLink RX3 18 "GaugeBlocks$State" "wear" "[I", .methodLink RX3 122 yX3_warm, .instanceMethod yX3_warm, .selects RX3 yX3_warm yX3_warm, .initialized RX3, .code yX3_warm cX3_warm 3 none, .fieldLink RX3 21 "GaugeBlocks$State" "warmth" "[I", .methodLink RX3 90 Lib.Math.min.name, .static Lib.Math.min.name, .initialized "java/lang/Math", .code Lib.Math.min.name Lib.Math.min.code 2 (some .int)] ++ wsX30)
def wsX3_putOnTop_r1 : List Cond := [Cond.fieldLink RX3 24 "GaugeBlocks$State" "stack" "[I", Cond.fieldLink RX3 27 "GaugeBlocks$State" "place" "[I", Cond.fieldLink RX3 30 "GaugeBlocks$State" "timesWrung" "[I", Cond.fieldLink RX3 57 "GaugeBlocks$State" "wrings" "I", Cond.methodLink RX3 100 yX3_heightOf, Cond.instanceMethod yX3_heightOf, Cond.selects RX3 yX3_heightOf yX3_heightOf, Cond.initialized RX3, Cond.code yX3_heightOf cX3_heightOf 2 (some .int), Cond.methodLink RX3 125 yX3_blocksIn, Cond.instanceMethod yX3_blocksIn, Cond.selects RX3 yX3_blocksIn yX3_blocksIn, Cond.code yX3_blocksIn cX3_blocksIn 4 (some .int), Cond.fieldLink RX3 50 "GaugeBlocks$State" "blocks" "I", Cond.methodLink RX3 128 yJ6_bitCount_0f7a4, Cond.static yJ6_bitCount_0f7a4, Cond.initialized RJ6, Cond.code yJ6_bitCount_0f7a4 cJ6_bitCount_0f7a4 1 (some .int), Cond.constant RJ6 265 (1431655765), Cond.constant RJ6 266 (858993459), Cond.constant RJ6 267 (252645135), Cond.methodLink RX3 116 yX3_blockAt, Cond.instanceMethod yX3_blockAt, Cond.selects RX3 yX3_blockAt yX3_blockAt]
def wsX3_putOnTop_r2 : List Cond := [Cond.code yX3_blockAt cX3_blockAt 4 (some .int), Cond.methodLink RX3 119 yX3_slide, Cond.instanceMethod yX3_slide, Cond.selects RX3 yX3_slide yX3_slide, Cond.code yX3_slide cX3_slide 3 none, Cond.fieldLink RX3 41 "GaugeBlocks$State" "settings" "[I", Cond.fieldLink RX3 18 "GaugeBlocks$State" "wear" "[I", Cond.methodLink RX3 122 yX3_warm, Cond.instanceMethod yX3_warm, Cond.selects RX3 yX3_warm yX3_warm, Cond.code yX3_warm cX3_warm 3 none, Cond.fieldLink RX3 21 "GaugeBlocks$State" "warmth" "[I", Cond.methodLink RX3 90 Lib.Math.min.name, Cond.static Lib.Math.min.name, Cond.initialized "java/lang/Math", Cond.code Lib.Math.min.name Lib.Math.min.code 2 (some .int)]
def wsX3_putOnTop : List Cond := .code yX3_putOnTop cX3_putOnTop 4 none :: ((wsX3_putOnTop_r1 ++ wsX3_putOnTop_r2) ++ wsX30)
def wsX3_tryToWring_r1 : List Cond := [Cond.fieldLink RX3 63 "GaugeBlocks$State" "refusals" "I", Cond.methodLink RX3 106 yX3_reasonToRefuse, Cond.instanceMethod yX3_reasonToRefuse, Cond.selects RX3 yX3_reasonToRefuse yX3_reasonToRefuse, Cond.initialized RX3, Cond.code yX3_reasonToRefuse cX3_reasonToRefuse 3 (some .int), Cond.fieldLink RX3 21 "GaugeBlocks$State" "warmth" "[I", Cond.fieldLink RX3 41 "GaugeBlocks$State" "settings" "[I", Cond.methodLink RX3 96 yX3_isFree, Cond.instanceMethod yX3_isFree, Cond.selects RX3 yX3_isFree yX3_isFree, Cond.code yX3_isFree cX3_isFree 2 (some .boolean), Cond.fieldLink RX3 24 "GaugeBlocks$State" "stack" "[I", Cond.methodLink RX3 100 yX3_heightOf, Cond.instanceMethod yX3_heightOf, Cond.selects RX3 yX3_heightOf yX3_heightOf, Cond.code yX3_heightOf cX3_heightOf 2 (some .int), Cond.methodLink RX3 125 yX3_blocksIn, Cond.instanceMethod yX3_blocksIn, Cond.selects RX3 yX3_blocksIn yX3_blocksIn, Cond.code yX3_blocksIn cX3_blocksIn 4 (some .int), Cond.fieldLink RX3 50 "GaugeBlocks$State" "blocks" "I", Cond.methodLink RX3 128 yJ6_bitCount_0f7a4, Cond.static yJ6_bitCount_0f7a4]
def wsX3_tryToWring_r2 : List Cond := [Cond.initialized RJ6, Cond.code yJ6_bitCount_0f7a4 cJ6_bitCount_0f7a4 1 (some .int), Cond.constant RJ6 265 (1431655765), Cond.constant RJ6 266 (858993459), Cond.constant RJ6 267 (252645135), Cond.methodLink RX3 103 yX3_gradeOf, Cond.instanceMethod yX3_gradeOf, Cond.selects RX3 yX3_gradeOf yX3_gradeOf, Cond.code yX3_gradeOf cX3_gradeOf 3 (some .int), Cond.methodLink RX3 83 yX3_sizeOfError, Cond.instanceMethod yX3_sizeOfError, Cond.selects RX3 yX3_sizeOfError yX3_sizeOfError, Cond.code yX3_sizeOfError cX3_sizeOfError 2 (some .int), Cond.methodLink RX3 78 Lib.Math.abs.name, Cond.static Lib.Math.abs.name, Cond.initialized "java/lang/Math", Cond.code Lib.Math.abs.name Lib.Math.abs.code 1 (some .int), Cond.methodLink RX3 74 yX3_errorOf, Cond.instanceMethod yX3_errorOf, Cond.selects RX3 yX3_errorOf yX3_errorOf, Cond.code yX3_errorOf cX3_errorOf 2 (some .int), Cond.fieldLink RX3 15 "GaugeBlocks$State" "deviation" "[I", Cond.fieldLink RX3 18 "GaugeBlocks$State" "wear" "[I", Cond.methodLink RX3 109 yX3_putOnTop]
def wsX3_tryToWring_r3 : List Cond := [Cond.instanceMethod yX3_putOnTop, Cond.selects RX3 yX3_putOnTop yX3_putOnTop, Cond.code yX3_putOnTop cX3_putOnTop 4 none, Cond.fieldLink RX3 27 "GaugeBlocks$State" "place" "[I", Cond.fieldLink RX3 30 "GaugeBlocks$State" "timesWrung" "[I", Cond.fieldLink RX3 57 "GaugeBlocks$State" "wrings" "I", Cond.methodLink RX3 116 yX3_blockAt, Cond.instanceMethod yX3_blockAt, Cond.selects RX3 yX3_blockAt yX3_blockAt, Cond.code yX3_blockAt cX3_blockAt 4 (some .int), Cond.methodLink RX3 119 yX3_slide, Cond.instanceMethod yX3_slide, Cond.selects RX3 yX3_slide yX3_slide, Cond.code yX3_slide cX3_slide 3 none, Cond.methodLink RX3 122 yX3_warm, Cond.instanceMethod yX3_warm, Cond.selects RX3 yX3_warm yX3_warm, Cond.code yX3_warm cX3_warm 3 none, Cond.methodLink RX3 90 Lib.Math.min.name, Cond.static Lib.Math.min.name, Cond.code Lib.Math.min.name Lib.Math.min.code 2 (some .int)]
def wsX3_tryToWring : List Cond := .code yX3_tryToWring cX3_tryToWring 4 (some .int) :: ((wsX3_tryToWring_r1 ++ (wsX3_tryToWring_r2 ++ wsX3_tryToWring_r3)) ++ wsX30)
def wsX3_wringSet_r1 : List Cond := [Cond.fieldLink RX3 50 "GaugeBlocks$State" "blocks" "I", Cond.methodLink RX3 113 yX3_tryToWring, Cond.instanceMethod yX3_tryToWring, Cond.selects RX3 yX3_tryToWring yX3_tryToWring, Cond.initialized RX3, Cond.code yX3_tryToWring cX3_tryToWring 4 (some .int), Cond.fieldLink RX3 63 "GaugeBlocks$State" "refusals" "I", Cond.methodLink RX3 106 yX3_reasonToRefuse, Cond.instanceMethod yX3_reasonToRefuse, Cond.selects RX3 yX3_reasonToRefuse yX3_reasonToRefuse, Cond.code yX3_reasonToRefuse cX3_reasonToRefuse 3 (some .int), Cond.fieldLink RX3 21 "GaugeBlocks$State" "warmth" "[I", Cond.fieldLink RX3 41 "GaugeBlocks$State" "settings" "[I", Cond.methodLink RX3 96 yX3_isFree, Cond.instanceMethod yX3_isFree, Cond.selects RX3 yX3_isFree yX3_isFree, Cond.code yX3_isFree cX3_isFree 2 (some .boolean), Cond.fieldLink RX3 24 "GaugeBlocks$State" "stack" "[I", Cond.methodLink RX3 100 yX3_heightOf, Cond.instanceMethod yX3_heightOf, Cond.selects RX3 yX3_heightOf yX3_heightOf, Cond.code yX3_heightOf cX3_heightOf 2 (some .int), Cond.methodLink RX3 125 yX3_blocksIn, Cond.instanceMethod yX3_blocksIn]
def wsX3_wringSet_r2 : List Cond := [Cond.selects RX3 yX3_blocksIn yX3_blocksIn, Cond.code yX3_blocksIn cX3_blocksIn 4 (some .int), Cond.methodLink RX3 128 yJ6_bitCount_0f7a4, Cond.static yJ6_bitCount_0f7a4, Cond.initialized RJ6, Cond.code yJ6_bitCount_0f7a4 cJ6_bitCount_0f7a4 1 (some .int), Cond.constant RJ6 265 (1431655765), Cond.constant RJ6 266 (858993459), Cond.constant RJ6 267 (252645135), Cond.methodLink RX3 103 yX3_gradeOf, Cond.instanceMethod yX3_gradeOf, Cond.selects RX3 yX3_gradeOf yX3_gradeOf, Cond.code yX3_gradeOf cX3_gradeOf 3 (some .int), Cond.methodLink RX3 83 yX3_sizeOfError, Cond.instanceMethod yX3_sizeOfError, Cond.selects RX3 yX3_sizeOfError yX3_sizeOfError, Cond.code yX3_sizeOfError cX3_sizeOfError 2 (some .int), Cond.methodLink RX3 78 Lib.Math.abs.name, Cond.static Lib.Math.abs.name, Cond.initialized "java/lang/Math", Cond.code Lib.Math.abs.name Lib.Math.abs.code 1 (some .int), Cond.methodLink RX3 74 yX3_errorOf, Cond.instanceMethod yX3_errorOf, Cond.selects RX3 yX3_errorOf yX3_errorOf]
def wsX3_wringSet_r3 : List Cond := [Cond.code yX3_errorOf cX3_errorOf 2 (some .int), Cond.fieldLink RX3 15 "GaugeBlocks$State" "deviation" "[I", Cond.fieldLink RX3 18 "GaugeBlocks$State" "wear" "[I", Cond.methodLink RX3 109 yX3_putOnTop, Cond.instanceMethod yX3_putOnTop, Cond.selects RX3 yX3_putOnTop yX3_putOnTop, Cond.code yX3_putOnTop cX3_putOnTop 4 none, Cond.fieldLink RX3 27 "GaugeBlocks$State" "place" "[I", Cond.fieldLink RX3 30 "GaugeBlocks$State" "timesWrung" "[I", Cond.fieldLink RX3 57 "GaugeBlocks$State" "wrings" "I", Cond.methodLink RX3 116 yX3_blockAt, Cond.instanceMethod yX3_blockAt, Cond.selects RX3 yX3_blockAt yX3_blockAt, Cond.code yX3_blockAt cX3_blockAt 4 (some .int), Cond.methodLink RX3 119 yX3_slide, Cond.instanceMethod yX3_slide, Cond.selects RX3 yX3_slide yX3_slide, Cond.code yX3_slide cX3_slide 3 none, Cond.methodLink RX3 122 yX3_warm, Cond.instanceMethod yX3_warm, Cond.selects RX3 yX3_warm yX3_warm, Cond.code yX3_warm cX3_warm 3 none, Cond.methodLink RX3 90 Lib.Math.min.name, Cond.static Lib.Math.min.name]
def wsX3_wringSet_r4 : List Cond := [Cond.code Lib.Math.min.name Lib.Math.min.code 2 (some .int)]
def wsX3_wringSet : List Cond := .code yX3_wringSet cX3_wringSet 5 (some .int) :: ((wsX3_wringSet_r1 ++ (wsX3_wringSet_r2 ++ (wsX3_wringSet_r3 ++ wsX3_wringSet_r4))) ++ wsX30)
def wsX3_takeTopOff_r1 : List Cond := [Cond.fieldLink RX3 24 "GaugeBlocks$State" "stack" "[I", Cond.fieldLink RX3 27 "GaugeBlocks$State" "place" "[I", Cond.fieldLink RX3 60 "GaugeBlocks$State" "takeOffs" "I", Cond.methodLink RX3 100 yX3_heightOf, Cond.instanceMethod yX3_heightOf, Cond.selects RX3 yX3_heightOf yX3_heightOf, Cond.initialized RX3, Cond.code yX3_heightOf cX3_heightOf 2 (some .int), Cond.methodLink RX3 125 yX3_blocksIn, Cond.instanceMethod yX3_blocksIn, Cond.selects RX3 yX3_blocksIn yX3_blocksIn, Cond.code yX3_blocksIn cX3_blocksIn 4 (some .int), Cond.fieldLink RX3 50 "GaugeBlocks$State" "blocks" "I", Cond.methodLink RX3 128 yJ6_bitCount_0f7a4, Cond.static yJ6_bitCount_0f7a4, Cond.initialized RJ6, Cond.code yJ6_bitCount_0f7a4 cJ6_bitCount_0f7a4 1 (some .int), Cond.constant RJ6 265 (1431655765), Cond.constant RJ6 266 (858993459), Cond.constant RJ6 267 (252645135), Cond.methodLink RX3 116 yX3_blockAt, Cond.instanceMethod yX3_blockAt, Cond.selects RX3 yX3_blockAt yX3_blockAt, Cond.code yX3_blockAt cX3_blockAt 4 (some .int)]
def wsX3_takeTopOff_r2 : List Cond := [Cond.methodLink RX3 119 yX3_slide, Cond.instanceMethod yX3_slide, Cond.selects RX3 yX3_slide yX3_slide, Cond.code yX3_slide cX3_slide 3 none, Cond.fieldLink RX3 41 "GaugeBlocks$State" "settings" "[I", Cond.fieldLink RX3 18 "GaugeBlocks$State" "wear" "[I", Cond.methodLink RX3 122 yX3_warm, Cond.instanceMethod yX3_warm, Cond.selects RX3 yX3_warm yX3_warm, Cond.code yX3_warm cX3_warm 3 none, Cond.fieldLink RX3 21 "GaugeBlocks$State" "warmth" "[I", Cond.methodLink RX3 90 Lib.Math.min.name, Cond.static Lib.Math.min.name, Cond.initialized "java/lang/Math", Cond.code Lib.Math.min.name Lib.Math.min.code 2 (some .int)]
def wsX3_takeTopOff : List Cond := .code yX3_takeTopOff cX3_takeTopOff 4 (some .int) :: ((wsX3_takeTopOff_r1 ++ wsX3_takeTopOff_r2) ++ wsX30)
def wsX3_blocksOfGrade : List Cond := .code yX3_blocksOfGrade cX3_blocksOfGrade 4 (some .int) :: ([.fieldLink RX3 50 "GaugeBlocks$State" "blocks" "I", .methodLink RX3 103 yX3_gradeOf, .instanceMethod yX3_gradeOf, .selects RX3 yX3_gradeOf yX3_gradeOf, .initialized RX3, .code yX3_gradeOf cX3_gradeOf 3 (some .int), .methodLink RX3 83 yX3_sizeOfError, .instanceMethod yX3_sizeOfError, .selects RX3 yX3_sizeOfError yX3_sizeOfError, .code yX3_sizeOfError cX3_sizeOfError 2 (some .int), .methodLink RX3 78 Lib.Math.abs.name, .static Lib.Math.abs.name, .initialized "java/lang/Math", .code Lib.Math.abs.name Lib.Math.abs.code 1 (some .int), .methodLink RX3 74 yX3_errorOf, .instanceMethod yX3_errorOf, .selects RX3 yX3_errorOf yX3_errorOf, .code yX3_errorOf cX3_errorOf 2 (some .int), .fieldLink RX3 15 "GaugeBlocks$State" "deviation" "[I", .fieldLink RX3 18 "GaugeBlocks$State" "wear" "[I"] ++ wsX30)
def wsX3_nominalOfSet : List Cond := .code yX3_nominalOfSet cX3_nominalOfSet 4 (some .int) :: ([.fieldLink RX3 50 "GaugeBlocks$State" "blocks" "I", .fieldLink RX3 9 "GaugeBlocks$State" "nominal" "[I"] ++ wsX30)
def wsX3_trueLengthOf : List Cond := .code yX3_trueLengthOf cX3_trueLengthOf 4 (some .int) :: ([.fieldLink RX3 21 "GaugeBlocks$State" "warmth" "[I", .fieldLink RX3 9 "GaugeBlocks$State" "nominal" "[I", .fieldLink RX3 15 "GaugeBlocks$State" "deviation" "[I", .fieldLink RX3 18 "GaugeBlocks$State" "wear" "[I", .methodLink RX3 93 yX3_cooled, .static yX3_cooled, .initialized RX3, .code yX3_cooled cX3_cooled 4 (some .int)] ++ wsX30)
def wsX3_trueLengthOfStack : List Cond := .code yX3_trueLengthOfStack cX3_trueLengthOfStack 6 (some .int) :: ([.fieldLink RX3 50 "GaugeBlocks$State" "blocks" "I", .fieldLink RX3 24 "GaugeBlocks$State" "stack" "[I", .fieldLink RX3 41 "GaugeBlocks$State" "settings" "[I", .methodLink RX3 133 yX3_trueLengthOf, .instanceMethod yX3_trueLengthOf, .selects RX3 yX3_trueLengthOf yX3_trueLengthOf, .initialized RX3, .code yX3_trueLengthOf cX3_trueLengthOf 4 (some .int), .fieldLink RX3 21 "GaugeBlocks$State" "warmth" "[I", .fieldLink RX3 9 "GaugeBlocks$State" "nominal" "[I", .fieldLink RX3 15 "GaugeBlocks$State" "deviation" "[I", .fieldLink RX3 18 "GaugeBlocks$State" "wear" "[I", .methodLink RX3 93 yX3_cooled, .static yX3_cooled, .code yX3_cooled cX3_cooled 4 (some .int)] ++ wsX30)
def wsX3_sizeOfDifference_r1 : List Cond := [Cond.methodLink RX3 78 Lib.Math.abs.name, Cond.static Lib.Math.abs.name, Cond.initialized "java/lang/Math", Cond.code Lib.Math.abs.name Lib.Math.abs.code 1 (some .int), Cond.methodLink RX3 136 yX3_trueLengthOfStack, Cond.instanceMethod yX3_trueLengthOfStack, Cond.selects RX3 yX3_trueLengthOfStack yX3_trueLengthOfStack, Cond.initialized RX3, Cond.code yX3_trueLengthOfStack cX3_trueLengthOfStack 6 (some .int), Cond.fieldLink RX3 50 "GaugeBlocks$State" "blocks" "I", Cond.fieldLink RX3 24 "GaugeBlocks$State" "stack" "[I", Cond.fieldLink RX3 41 "GaugeBlocks$State" "settings" "[I", Cond.methodLink RX3 133 yX3_trueLengthOf, Cond.instanceMethod yX3_trueLengthOf, Cond.selects RX3 yX3_trueLengthOf yX3_trueLengthOf, Cond.code yX3_trueLengthOf cX3_trueLengthOf 4 (some .int), Cond.fieldLink RX3 21 "GaugeBlocks$State" "warmth" "[I", Cond.fieldLink RX3 9 "GaugeBlocks$State" "nominal" "[I", Cond.fieldLink RX3 15 "GaugeBlocks$State" "deviation" "[I", Cond.fieldLink RX3 18 "GaugeBlocks$State" "wear" "[I", Cond.methodLink RX3 93 yX3_cooled, Cond.static yX3_cooled, Cond.code yX3_cooled cX3_cooled 4 (some .int), Cond.methodLink RX3 125 yX3_blocksIn]
def wsX3_sizeOfDifference_r2 : List Cond := [Cond.instanceMethod yX3_blocksIn, Cond.selects RX3 yX3_blocksIn yX3_blocksIn, Cond.code yX3_blocksIn cX3_blocksIn 4 (some .int), Cond.methodLink RX3 139 yX3_nominalOfSet, Cond.instanceMethod yX3_nominalOfSet, Cond.selects RX3 yX3_nominalOfSet yX3_nominalOfSet, Cond.code yX3_nominalOfSet cX3_nominalOfSet 4 (some .int)]
def wsX3_sizeOfDifference : List Cond := .code yX3_sizeOfDifference cX3_sizeOfDifference 2 (some .int) :: ((wsX3_sizeOfDifference_r1 ++ wsX3_sizeOfDifference_r2) ++ wsX30)
def wsX3_greatestGradeIn : List Cond := .code yX3_greatestGradeIn cX3_greatestGradeIn 4 (some .int) :: ([.fieldLink RX3 50 "GaugeBlocks$State" "blocks" "I", .fieldLink RX3 24 "GaugeBlocks$State" "stack" "[I", .methodLink RX3 86 Lib.Math.max.name, .static Lib.Math.max.name, .initialized "java/lang/Math", .code Lib.Math.max.name Lib.Math.max.code 2 (some .int), .methodLink RX3 103 yX3_gradeOf, .instanceMethod yX3_gradeOf, .selects RX3 yX3_gradeOf yX3_gradeOf, .initialized RX3, .code yX3_gradeOf cX3_gradeOf 3 (some .int), .methodLink RX3 83 yX3_sizeOfError, .instanceMethod yX3_sizeOfError, .selects RX3 yX3_sizeOfError yX3_sizeOfError, .code yX3_sizeOfError cX3_sizeOfError 2 (some .int), .methodLink RX3 78 Lib.Math.abs.name, .static Lib.Math.abs.name, .code Lib.Math.abs.name Lib.Math.abs.code 1 (some .int), .methodLink RX3 74 yX3_errorOf, .instanceMethod yX3_errorOf, .selects RX3 yX3_errorOf yX3_errorOf, .code yX3_errorOf cX3_errorOf 2 (some .int), .fieldLink RX3 15 "GaugeBlocks$State" "deviation" "[I", .fieldLink RX3 18 "GaugeBlocks$State" "wear" "[I"] ++ wsX30)
def wsX4_init_r1 : List Cond := [Cond.methodLink RX4 3 objectInit, Cond.instanceMethod objectInit, Cond.code objectInit ⟨#[0xb1]⟩ 1 none, Cond.classLink RX4 9 RX3, Cond.instantiable RX3 13, Cond.initialized RX3, Cond.fieldLink RX4 12 "GaugeBlocks" "state" "LGaugeBlocks$State;", Cond.classLink RX4 16 RX2, Cond.instantiable RX2 2, Cond.initialized RX2, Cond.fieldLink RX4 19 "GaugeBlocks" "saved" "LGaugeBlocks$SavedStates;", Cond.fieldLink RX4 23 "GaugeBlocks" "snapshots" "[LGaugeBlocks$State;", Cond.classLink RX4 27 RX1, Cond.instantiable RX1 6, Cond.initialized RX1, Cond.fieldLink RX4 30 "GaugeBlocks" "text" "LGaugeBlocks$OrderText;", Cond.instanceMethod yX3_init, Cond.code yX3_init cX3_init 1 none, Cond.methodLink RX3 3 objectInit, Cond.arrayClass .int, Cond.fieldLink RX3 9 "GaugeBlocks$State" "nominal" "[I", Cond.fieldLink RX3 15 "GaugeBlocks$State" "deviation" "[I", Cond.fieldLink RX3 18 "GaugeBlocks$State" "wear" "[I", Cond.fieldLink RX3 21 "GaugeBlocks$State" "warmth" "[I"]
def wsX4_init_r2 : List Cond := [Cond.fieldLink RX3 24 "GaugeBlocks$State" "stack" "[I", Cond.fieldLink RX3 27 "GaugeBlocks$State" "place" "[I", Cond.fieldLink RX3 30 "GaugeBlocks$State" "timesWrung" "[I", Cond.methodLink RX3 36 ⟨"[I", "clone", "()Ljava/lang/Object;"⟩, Cond.sameMethod "[I" "java/lang/Object" "clone" "()Ljava/lang/Object;", Cond.native ⟨"java/lang/Object", "clone", "()Ljava/lang/Object;"⟩, Cond.instanceMethod ⟨"java/lang/Object", "clone", "()Ljava/lang/Object;"⟩, Cond.selects "[I" ⟨"[I", "clone", "()Ljava/lang/Object;"⟩ ⟨"java/lang/Object", "clone", "()Ljava/lang/Object;"⟩, Cond.classLink RX3 37 "[I", Cond.fieldLink RX3 41 "GaugeBlocks$State" "settings" "[I", Cond.methodLink RX4 18 yX2_init, Cond.instanceMethod yX2_init, Cond.code yX2_init cX2_init 2 none, Cond.methodLink RX2 3 objectInit, Cond.classLink RX2 9 RX3, Cond.fieldLink RX2 11 "GaugeBlocks$SavedStates" "states" "[LGaugeBlocks$State;", Cond.instanceMethod yX1_init, Cond.code yX1_init cX1_init 1 none, Cond.methodLink RX1 3 objectInit, Cond.fieldLink RX1 9 "GaugeBlocks$OrderText" "signs" "[I"]
def wsX4_init : List Cond := .code yX4_init cX4_init 1 none :: ((wsX4_init_r1 ++ wsX4_init_r2) ++ wsX30 ++ wsX40 ++ wsX20 ++ wsX10)
def wsX4_checkRange : List Cond := .code yX4_checkRange cX4_checkRange 3 none :: ([.classLink RX4 145 "java/lang/IllegalArgumentException", .initialized "java/lang/IllegalArgumentException"] ++ (vx_atS RX4 149 "java/lang/IllegalArgumentException" ["java/lang/RuntimeException", "java/lang/Exception"]).filter goodWord)
def wsX4_block_r1 : List Cond := [Cond.classLink RX4 43 "java/lang/IllegalStateException", Cond.initialized "java/lang/IllegalStateException", Cond.constant RX4 34 (100000), Cond.fieldLink RX4 12 "GaugeBlocks" "state" "LGaugeBlocks$State;", Cond.fieldLink RX4 19 "GaugeBlocks" "saved" "LGaugeBlocks$SavedStates;", Cond.methodLink RX4 35 yX4_checkRange, Cond.static yX4_checkRange, Cond.initialized RX4, Cond.code yX4_checkRange cX4_checkRange 3 none, Cond.classLink RX4 145 "java/lang/IllegalArgumentException", Cond.initialized "java/lang/IllegalArgumentException", Cond.methodLink RX4 39 yX3_isFull, Cond.instanceMethod yX3_isFull, Cond.selects RX3 yX3_isFull yX3_isFull, Cond.initialized RX3, Cond.code yX3_isFull cX3_isFull 1 (some .boolean), Cond.fieldLink RX3 50 "GaugeBlocks$State" "blocks" "I", Cond.methodLink RX4 50 yX2_push, Cond.instanceMethod yX2_push, Cond.selects RX2 yX2_push yX2_push, Cond.initialized RX2, Cond.code yX2_push cX2_push 2 none, Cond.fieldLink RX2 18 "GaugeBlocks$SavedStates" "many" "I", Cond.fieldLink RX2 11 "GaugeBlocks$SavedStates" "states" "[LGaugeBlocks$State;"]
def wsX4_block_r2 : List Cond := [Cond.methodLink RX2 22 yX2_dropOldest, Cond.instanceMethod yX2_dropOldest, Cond.selects RX2 yX2_dropOldest yX2_dropOldest, Cond.code yX2_dropOldest cX2_dropOldest 3 none, Cond.methodLink RX2 25 yX3_copyFrom, Cond.instanceMethod yX3_copyFrom, Cond.selects RX3 yX3_copyFrom yX3_copyFrom, Cond.code yX3_copyFrom cX3_copyFrom 2 none, Cond.fieldLink RX3 9 "GaugeBlocks$State" "nominal" "[I", Cond.methodLink RX3 44 arraycopyName, Cond.native arraycopyName, Cond.static arraycopyName, Cond.initialized "java/lang/System", Cond.fieldLink RX3 15 "GaugeBlocks$State" "deviation" "[I", Cond.fieldLink RX3 18 "GaugeBlocks$State" "wear" "[I", Cond.fieldLink RX3 21 "GaugeBlocks$State" "warmth" "[I", Cond.fieldLink RX3 24 "GaugeBlocks$State" "stack" "[I", Cond.fieldLink RX3 27 "GaugeBlocks$State" "place" "[I", Cond.fieldLink RX3 30 "GaugeBlocks$State" "timesWrung" "[I", Cond.fieldLink RX3 41 "GaugeBlocks$State" "settings" "[I", Cond.fieldLink RX3 54 "GaugeBlocks$State" "minutes" "I", Cond.fieldLink RX3 57 "GaugeBlocks$State" "wrings" "I", Cond.fieldLink RX3 60 "GaugeBlocks$State" "takeOffs" "I", Cond.fieldLink RX3 63 "GaugeBlocks$State" "refusals" "I"]
def wsX4_block_r3 : List Cond := [Cond.methodLink RX4 54 yX3_addBlock, Cond.instanceMethod yX3_addBlock, Cond.selects RX3 yX3_addBlock yX3_addBlock, Cond.code yX3_addBlock cX3_addBlock 4 (some .int), Cond.methodLink RX3 66 yX3_isFull]
def wsX4_block : List Cond := .code yX4_block cX4_block 3 (some .int) :: ((wsX4_block_r1 ++ (wsX4_block_r2 ++ wsX4_block_r3)) ++ wsX40 ++ wsX30 ++ wsX20 ++ (vx_atS RX4 47 "java/lang/IllegalStateException" ["java/lang/RuntimeException", "java/lang/Exception"]).filter goodWord ++ (vx_atS RX4 149 "java/lang/IllegalArgumentException" ["java/lang/RuntimeException", "java/lang/Exception"]).filter goodWord)
def wsX4_checkBlock : List Cond := .code yX4_checkBlock cX4_checkBlock 2 none :: ([.classLink RX4 288 "java/lang/IndexOutOfBoundsException", .initialized "java/lang/IndexOutOfBoundsException", .fieldLink RX4 12 "GaugeBlocks" "state" "LGaugeBlocks$State;", .methodLink RX4 170 yX3_hasBlock, .instanceMethod yX3_hasBlock, .selects RX3 yX3_hasBlock yX3_hasBlock, .initialized RX3, .code yX3_hasBlock cX3_hasBlock 2 (some .boolean), .fieldLink RX3 50 "GaugeBlocks$State" "blocks" "I"] ++ wsX40 ++ wsX30 ++ (vx_atS RX4 292 "java/lang/IndexOutOfBoundsException" ["java/lang/RuntimeException", "java/lang/Exception"]).filter goodWord)
def wsX4_checkFree : List Cond := .code yX4_checkFree cX4_checkFree 2 none :: ([.classLink RX4 43 "java/lang/IllegalStateException", .initialized "java/lang/IllegalStateException", .fieldLink RX4 12 "GaugeBlocks" "state" "LGaugeBlocks$State;", .methodLink RX4 297 yX3_isFree, .instanceMethod yX3_isFree, .selects RX3 yX3_isFree yX3_isFree, .initialized RX3, .code yX3_isFree cX3_isFree 2 (some .boolean), .fieldLink RX3 24 "GaugeBlocks$State" "stack" "[I"] ++ wsX40 ++ wsX30 ++ (vx_atS RX4 47 "java/lang/IllegalStateException" ["java/lang/RuntimeException", "java/lang/Exception"]).filter goodWord)
def wsX4_discard_r1 : List Cond := [Cond.fieldLink RX4 19 "GaugeBlocks" "saved" "LGaugeBlocks$SavedStates;", Cond.fieldLink RX4 12 "GaugeBlocks" "state" "LGaugeBlocks$State;", Cond.fieldLink RX4 68 "GaugeBlocks$State" "blocks" "I", Cond.methodLink RX4 58 yX4_checkBlock, Cond.instanceMethod yX4_checkBlock, Cond.selects RX4 yX4_checkBlock yX4_checkBlock, Cond.initialized RX4, Cond.code yX4_checkBlock cX4_checkBlock 2 none, Cond.classLink RX4 288 "java/lang/IndexOutOfBoundsException", Cond.initialized "java/lang/IndexOutOfBoundsException", Cond.methodLink RX4 170 yX3_hasBlock, Cond.instanceMethod yX3_hasBlock, Cond.selects RX3 yX3_hasBlock yX3_hasBlock, Cond.initialized RX3, Cond.code yX3_hasBlock cX3_hasBlock 2 (some .boolean), Cond.fieldLink RX3 50 "GaugeBlocks$State" "blocks" "I", Cond.methodLink RX4 62 yX4_checkFree, Cond.instanceMethod yX4_checkFree, Cond.selects RX4 yX4_checkFree yX4_checkFree, Cond.code yX4_checkFree cX4_checkFree 2 none, Cond.classLink RX4 43 "java/lang/IllegalStateException", Cond.initialized "java/lang/IllegalStateException", Cond.methodLink RX4 297 yX3_isFree, Cond.instanceMethod yX3_isFree]
def wsX4_discard_r2 : List Cond := [Cond.selects RX3 yX3_isFree yX3_isFree, Cond.code yX3_isFree cX3_isFree 2 (some .boolean), Cond.fieldLink RX3 24 "GaugeBlocks$State" "stack" "[I", Cond.methodLink RX4 50 yX2_push, Cond.instanceMethod yX2_push, Cond.selects RX2 yX2_push yX2_push, Cond.initialized RX2, Cond.code yX2_push cX2_push 2 none, Cond.fieldLink RX2 18 "GaugeBlocks$SavedStates" "many" "I", Cond.fieldLink RX2 11 "GaugeBlocks$SavedStates" "states" "[LGaugeBlocks$State;", Cond.methodLink RX2 22 yX2_dropOldest, Cond.instanceMethod yX2_dropOldest, Cond.selects RX2 yX2_dropOldest yX2_dropOldest, Cond.code yX2_dropOldest cX2_dropOldest 3 none, Cond.methodLink RX2 25 yX3_copyFrom, Cond.instanceMethod yX3_copyFrom, Cond.selects RX3 yX3_copyFrom yX3_copyFrom, Cond.code yX3_copyFrom cX3_copyFrom 2 none, Cond.fieldLink RX3 9 "GaugeBlocks$State" "nominal" "[I", Cond.methodLink RX3 44 arraycopyName, Cond.native arraycopyName, Cond.static arraycopyName, Cond.initialized "java/lang/System", Cond.fieldLink RX3 15 "GaugeBlocks$State" "deviation" "[I"]
def wsX4_discard_r3 : List Cond := [Cond.fieldLink RX3 18 "GaugeBlocks$State" "wear" "[I", Cond.fieldLink RX3 21 "GaugeBlocks$State" "warmth" "[I", Cond.fieldLink RX3 27 "GaugeBlocks$State" "place" "[I", Cond.fieldLink RX3 30 "GaugeBlocks$State" "timesWrung" "[I", Cond.fieldLink RX3 41 "GaugeBlocks$State" "settings" "[I", Cond.fieldLink RX3 54 "GaugeBlocks$State" "minutes" "I", Cond.fieldLink RX3 57 "GaugeBlocks$State" "wrings" "I", Cond.fieldLink RX3 60 "GaugeBlocks$State" "takeOffs" "I", Cond.fieldLink RX3 63 "GaugeBlocks$State" "refusals" "I", Cond.methodLink RX4 65 yX3_removeBlock, Cond.instanceMethod yX3_removeBlock, Cond.selects RX3 yX3_removeBlock yX3_removeBlock, Cond.code yX3_removeBlock cX3_removeBlock 2 none, Cond.methodLink RX3 70 yX3_closeGap, Cond.instanceMethod yX3_closeGap, Cond.selects RX3 yX3_closeGap yX3_closeGap, Cond.code yX3_closeGap cX3_closeGap 4 none]
def wsX4_discard : List Cond := .code yX4_discard cX4_discard 2 (some .int) :: ((wsX4_discard_r1 ++ (wsX4_discard_r2 ++ wsX4_discard_r3)) ++ wsX40 ++ wsX30 ++ wsX20 ++ (vx_atS RX4 292 "java/lang/IndexOutOfBoundsException" ["java/lang/RuntimeException", "java/lang/Exception"]).filter goodWord ++ (vx_atS RX4 47 "java/lang/IllegalStateException" ["java/lang/RuntimeException", "java/lang/Exception"]).filter goodWord)
def wsX4_calibrate_r1 : List Cond := [Cond.fieldLink RX4 19 "GaugeBlocks" "saved" "LGaugeBlocks$SavedStates;", Cond.fieldLink RX4 12 "GaugeBlocks" "state" "LGaugeBlocks$State;", Cond.methodLink RX4 58 yX4_checkBlock, Cond.instanceMethod yX4_checkBlock, Cond.selects RX4 yX4_checkBlock yX4_checkBlock, Cond.initialized RX4, Cond.code yX4_checkBlock cX4_checkBlock 2 none, Cond.classLink RX4 288 "java/lang/IndexOutOfBoundsException", Cond.initialized "java/lang/IndexOutOfBoundsException", Cond.methodLink RX4 170 yX3_hasBlock, Cond.instanceMethod yX3_hasBlock, Cond.selects RX3 yX3_hasBlock yX3_hasBlock, Cond.initialized RX3, Cond.code yX3_hasBlock cX3_hasBlock 2 (some .boolean), Cond.fieldLink RX3 50 "GaugeBlocks$State" "blocks" "I", Cond.methodLink RX4 62 yX4_checkFree, Cond.instanceMethod yX4_checkFree, Cond.selects RX4 yX4_checkFree yX4_checkFree, Cond.code yX4_checkFree cX4_checkFree 2 none, Cond.classLink RX4 43 "java/lang/IllegalStateException", Cond.initialized "java/lang/IllegalStateException", Cond.methodLink RX4 297 yX3_isFree, Cond.instanceMethod yX3_isFree, Cond.selects RX3 yX3_isFree yX3_isFree]
def wsX4_calibrate_r2 : List Cond := [Cond.code yX3_isFree cX3_isFree 2 (some .boolean), Cond.fieldLink RX3 24 "GaugeBlocks$State" "stack" "[I", Cond.methodLink RX4 50 yX2_push, Cond.instanceMethod yX2_push, Cond.selects RX2 yX2_push yX2_push, Cond.initialized RX2, Cond.code yX2_push cX2_push 2 none, Cond.fieldLink RX2 18 "GaugeBlocks$SavedStates" "many" "I", Cond.fieldLink RX2 11 "GaugeBlocks$SavedStates" "states" "[LGaugeBlocks$State;", Cond.methodLink RX2 22 yX2_dropOldest, Cond.instanceMethod yX2_dropOldest, Cond.selects RX2 yX2_dropOldest yX2_dropOldest, Cond.code yX2_dropOldest cX2_dropOldest 3 none, Cond.methodLink RX2 25 yX3_copyFrom, Cond.instanceMethod yX3_copyFrom, Cond.selects RX3 yX3_copyFrom yX3_copyFrom, Cond.code yX3_copyFrom cX3_copyFrom 2 none, Cond.fieldLink RX3 9 "GaugeBlocks$State" "nominal" "[I", Cond.methodLink RX3 44 arraycopyName, Cond.native arraycopyName, Cond.static arraycopyName, Cond.initialized "java/lang/System", Cond.fieldLink RX3 15 "GaugeBlocks$State" "deviation" "[I", Cond.fieldLink RX3 18 "GaugeBlocks$State" "wear" "[I"]
def wsX4_calibrate_r3 : List Cond := [Cond.fieldLink RX3 21 "GaugeBlocks$State" "warmth" "[I", Cond.fieldLink RX3 27 "GaugeBlocks$State" "place" "[I", Cond.fieldLink RX3 30 "GaugeBlocks$State" "timesWrung" "[I", Cond.fieldLink RX3 41 "GaugeBlocks$State" "settings" "[I", Cond.fieldLink RX3 54 "GaugeBlocks$State" "minutes" "I", Cond.fieldLink RX3 57 "GaugeBlocks$State" "wrings" "I", Cond.fieldLink RX3 60 "GaugeBlocks$State" "takeOffs" "I", Cond.fieldLink RX3 63 "GaugeBlocks$State" "refusals" "I", Cond.methodLink RX4 72 yX3_turnWearIntoDeviation, Cond.instanceMethod yX3_turnWearIntoDeviation, Cond.selects RX3 yX3_turnWearIntoDeviation yX3_turnWearIntoDeviation, Cond.code yX3_turnWearIntoDeviation cX3_turnWearIntoDeviation 2 none, Cond.methodLink RX3 86 Lib.Math.max.name, Cond.static Lib.Math.max.name, Cond.initialized "java/lang/Math", Cond.code Lib.Math.max.name Lib.Math.max.code 2 (some .int), Cond.methodLink RX3 74 yX3_errorOf, Cond.instanceMethod yX3_errorOf, Cond.selects RX3 yX3_errorOf yX3_errorOf, Cond.code yX3_errorOf cX3_errorOf 2 (some .int), Cond.methodLink RX4 75 yX3_gradeOf, Cond.instanceMethod yX3_gradeOf, Cond.selects RX3 yX3_gradeOf yX3_gradeOf, Cond.code yX3_gradeOf cX3_gradeOf 3 (some .int)]
def wsX4_calibrate_r4 : List Cond := [Cond.methodLink RX3 83 yX3_sizeOfError, Cond.instanceMethod yX3_sizeOfError, Cond.selects RX3 yX3_sizeOfError yX3_sizeOfError, Cond.code yX3_sizeOfError cX3_sizeOfError 2 (some .int), Cond.methodLink RX3 78 Lib.Math.abs.name, Cond.static Lib.Math.abs.name, Cond.code Lib.Math.abs.name Lib.Math.abs.code 1 (some .int)]
def wsX4_calibrate : List Cond := .code yX4_calibrate cX4_calibrate 2 (some .int) :: ((wsX4_calibrate_r1 ++ (wsX4_calibrate_r2 ++ (wsX4_calibrate_r3 ++ wsX4_calibrate_r4))) ++ wsX40 ++ wsX30 ++ wsX20 ++ (vx_atS RX4 292 "java/lang/IndexOutOfBoundsException" ["java/lang/RuntimeException", "java/lang/Exception"]).filter goodWord ++ (vx_atS RX4 47 "java/lang/IllegalStateException" ["java/lang/RuntimeException", "java/lang/Exception"]).filter goodWord)
def wsX4_hold_r1 : List Cond := [Cond.fieldLink RX4 19 "GaugeBlocks" "saved" "LGaugeBlocks$SavedStates;", Cond.fieldLink RX4 12 "GaugeBlocks" "state" "LGaugeBlocks$State;", Cond.fieldLink RX4 83 "GaugeBlocks$State" "warmth" "[I", Cond.methodLink RX4 58 yX4_checkBlock, Cond.instanceMethod yX4_checkBlock, Cond.selects RX4 yX4_checkBlock yX4_checkBlock, Cond.initialized RX4, Cond.code yX4_checkBlock cX4_checkBlock 2 none, Cond.classLink RX4 288 "java/lang/IndexOutOfBoundsException", Cond.initialized "java/lang/IndexOutOfBoundsException", Cond.methodLink RX4 170 yX3_hasBlock, Cond.instanceMethod yX3_hasBlock, Cond.selects RX3 yX3_hasBlock yX3_hasBlock, Cond.initialized RX3, Cond.code yX3_hasBlock cX3_hasBlock 2 (some .boolean), Cond.fieldLink RX3 50 "GaugeBlocks$State" "blocks" "I", Cond.methodLink RX4 35 yX4_checkRange, Cond.static yX4_checkRange, Cond.code yX4_checkRange cX4_checkRange 3 none, Cond.classLink RX4 145 "java/lang/IllegalArgumentException", Cond.initialized "java/lang/IllegalArgumentException", Cond.methodLink RX4 50 yX2_push, Cond.instanceMethod yX2_push, Cond.selects RX2 yX2_push yX2_push]
def wsX4_hold_r2 : List Cond := [Cond.initialized RX2, Cond.code yX2_push cX2_push 2 none, Cond.fieldLink RX2 18 "GaugeBlocks$SavedStates" "many" "I", Cond.fieldLink RX2 11 "GaugeBlocks$SavedStates" "states" "[LGaugeBlocks$State;", Cond.methodLink RX2 22 yX2_dropOldest, Cond.instanceMethod yX2_dropOldest, Cond.selects RX2 yX2_dropOldest yX2_dropOldest, Cond.code yX2_dropOldest cX2_dropOldest 3 none, Cond.methodLink RX2 25 yX3_copyFrom, Cond.instanceMethod yX3_copyFrom, Cond.selects RX3 yX3_copyFrom yX3_copyFrom, Cond.code yX3_copyFrom cX3_copyFrom 2 none, Cond.fieldLink RX3 9 "GaugeBlocks$State" "nominal" "[I", Cond.methodLink RX3 44 arraycopyName, Cond.native arraycopyName, Cond.static arraycopyName, Cond.initialized "java/lang/System", Cond.fieldLink RX3 15 "GaugeBlocks$State" "deviation" "[I", Cond.fieldLink RX3 18 "GaugeBlocks$State" "wear" "[I", Cond.fieldLink RX3 21 "GaugeBlocks$State" "warmth" "[I", Cond.fieldLink RX3 24 "GaugeBlocks$State" "stack" "[I", Cond.fieldLink RX3 27 "GaugeBlocks$State" "place" "[I", Cond.fieldLink RX3 30 "GaugeBlocks$State" "timesWrung" "[I", Cond.fieldLink RX3 41 "GaugeBlocks$State" "settings" "[I"]
def wsX4_hold_r3 : List Cond := [Cond.fieldLink RX3 54 "GaugeBlocks$State" "minutes" "I", Cond.fieldLink RX3 57 "GaugeBlocks$State" "wrings" "I", Cond.fieldLink RX3 60 "GaugeBlocks$State" "takeOffs" "I", Cond.fieldLink RX3 63 "GaugeBlocks$State" "refusals" "I", Cond.methodLink RX4 79 yX3_warm, Cond.instanceMethod yX3_warm, Cond.selects RX3 yX3_warm yX3_warm, Cond.code yX3_warm cX3_warm 3 none, Cond.methodLink RX3 90 Lib.Math.min.name, Cond.static Lib.Math.min.name, Cond.initialized "java/lang/Math", Cond.code Lib.Math.min.name Lib.Math.min.code 2 (some .int)]
def wsX4_hold : List Cond := .code yX4_hold cX4_hold 3 (some .int) :: ((wsX4_hold_r1 ++ (wsX4_hold_r2 ++ wsX4_hold_r3)) ++ wsX40 ++ wsX30 ++ wsX20 ++ (vx_atS RX4 292 "java/lang/IndexOutOfBoundsException" ["java/lang/RuntimeException", "java/lang/Exception"]).filter goodWord ++ (vx_atS RX4 149 "java/lang/IllegalArgumentException" ["java/lang/RuntimeException", "java/lang/Exception"]).filter goodWord)
def wsX4_rest_r1 : List Cond := [Cond.fieldLink RX4 19 "GaugeBlocks" "saved" "LGaugeBlocks$SavedStates;", Cond.fieldLink RX4 12 "GaugeBlocks" "state" "LGaugeBlocks$State;", Cond.methodLink RX4 35 yX4_checkRange, Cond.static yX4_checkRange, Cond.initialized RX4, Cond.code yX4_checkRange cX4_checkRange 3 none, Cond.classLink RX4 145 "java/lang/IllegalArgumentException", Cond.initialized "java/lang/IllegalArgumentException", Cond.methodLink RX4 50 yX2_push, Cond.instanceMethod yX2_push, Cond.selects RX2 yX2_push yX2_push, Cond.initialized RX2, Cond.code yX2_push cX2_push 2 none, Cond.fieldLink RX2 18 "GaugeBlocks$SavedStates" "many" "I", Cond.fieldLink RX2 11 "GaugeBlocks$SavedStates" "states" "[LGaugeBlocks$State;", Cond.methodLink RX2 22 yX2_dropOldest, Cond.instanceMethod yX2_dropOldest, Cond.selects RX2 yX2_dropOldest yX2_dropOldest, Cond.code yX2_dropOldest cX2_dropOldest 3 none, Cond.methodLink RX2 25 yX3_copyFrom, Cond.instanceMethod yX3_copyFrom, Cond.selects RX3 yX3_copyFrom yX3_copyFrom, Cond.initialized RX3, Cond.code yX3_copyFrom cX3_copyFrom 2 none]
def wsX4_rest_r2 : List Cond := [Cond.fieldLink RX3 9 "GaugeBlocks$State" "nominal" "[I", Cond.methodLink RX3 44 arraycopyName, Cond.native arraycopyName, Cond.static arraycopyName, Cond.initialized "java/lang/System", Cond.fieldLink RX3 15 "GaugeBlocks$State" "deviation" "[I", Cond.fieldLink RX3 18 "GaugeBlocks$State" "wear" "[I", Cond.fieldLink RX3 21 "GaugeBlocks$State" "warmth" "[I", Cond.fieldLink RX3 24 "GaugeBlocks$State" "stack" "[I", Cond.fieldLink RX3 27 "GaugeBlocks$State" "place" "[I", Cond.fieldLink RX3 30 "GaugeBlocks$State" "timesWrung" "[I", Cond.fieldLink RX3 41 "GaugeBlocks$State" "settings" "[I", Cond.fieldLink RX3 50 "GaugeBlocks$State" "blocks" "I", Cond.fieldLink RX3 54 "GaugeBlocks$State" "minutes" "I", Cond.fieldLink RX3 57 "GaugeBlocks$State" "wrings" "I", Cond.fieldLink RX3 60 "GaugeBlocks$State" "takeOffs" "I", Cond.fieldLink RX3 63 "GaugeBlocks$State" "refusals" "I", Cond.methodLink RX4 87 yX3_letPass, Cond.instanceMethod yX3_letPass, Cond.selects RX3 yX3_letPass yX3_letPass, Cond.code yX3_letPass cX3_letPass 3 none, Cond.methodLink RX3 93 yX3_cooled, Cond.static yX3_cooled, Cond.code yX3_cooled cX3_cooled 4 (some .int)]
def wsX4_rest_r3 : List Cond := [Cond.methodLink RX4 90 yX3_greatestWarmth, Cond.instanceMethod yX3_greatestWarmth, Cond.selects RX3 yX3_greatestWarmth yX3_greatestWarmth, Cond.code yX3_greatestWarmth cX3_greatestWarmth 3 (some .int), Cond.methodLink RX3 86 Lib.Math.max.name, Cond.static Lib.Math.max.name, Cond.initialized "java/lang/Math", Cond.code Lib.Math.max.name Lib.Math.max.code 2 (some .int)]
def wsX4_rest : List Cond := .code yX4_rest cX4_rest 2 (some .int) :: ((wsX4_rest_r1 ++ (wsX4_rest_r2 ++ wsX4_rest_r3)) ++ wsX40 ++ wsX20 ++ wsX30 ++ (vx_atS RX4 149 "java/lang/IllegalArgumentException" ["java/lang/RuntimeException", "java/lang/Exception"]).filter goodWord)
def wsX4_checkSetting : List Cond := .code yX4_checkSetting cX4_checkSetting 1 none :: ([.classLink RX4 288 "java/lang/IndexOutOfBoundsException", .initialized "java/lang/IndexOutOfBoundsException"] ++ (vx_atS RX4 292 "java/lang/IndexOutOfBoundsException" ["java/lang/RuntimeException", "java/lang/Exception"]).filter goodWord)
def wsX4_set_r1 : List Cond := [Cond.fieldLink RX4 97 "GaugeBlocks" "SETTINGS_MAX" "[I", Cond.fieldLink RX4 19 "GaugeBlocks" "saved" "LGaugeBlocks$SavedStates;", Cond.fieldLink RX4 12 "GaugeBlocks" "state" "LGaugeBlocks$State;", Cond.fieldLink RX4 100 "GaugeBlocks$State" "settings" "[I", Cond.methodLink RX4 94 yX4_checkSetting, Cond.static yX4_checkSetting, Cond.initialized RX4, Cond.code yX4_checkSetting cX4_checkSetting 1 none, Cond.classLink RX4 288 "java/lang/IndexOutOfBoundsException", Cond.initialized "java/lang/IndexOutOfBoundsException", Cond.methodLink RX4 35 yX4_checkRange, Cond.static yX4_checkRange, Cond.code yX4_checkRange cX4_checkRange 3 none, Cond.classLink RX4 145 "java/lang/IllegalArgumentException", Cond.initialized "java/lang/IllegalArgumentException", Cond.methodLink RX4 50 yX2_push, Cond.instanceMethod yX2_push, Cond.selects RX2 yX2_push yX2_push, Cond.initialized RX2, Cond.code yX2_push cX2_push 2 none, Cond.fieldLink RX2 18 "GaugeBlocks$SavedStates" "many" "I", Cond.fieldLink RX2 11 "GaugeBlocks$SavedStates" "states" "[LGaugeBlocks$State;", Cond.methodLink RX2 22 yX2_dropOldest, Cond.instanceMethod yX2_dropOldest]
def wsX4_set_r2 : List Cond := [Cond.selects RX2 yX2_dropOldest yX2_dropOldest, Cond.code yX2_dropOldest cX2_dropOldest 3 none, Cond.methodLink RX2 25 yX3_copyFrom, Cond.instanceMethod yX3_copyFrom, Cond.selects RX3 yX3_copyFrom yX3_copyFrom, Cond.initialized RX3, Cond.code yX3_copyFrom cX3_copyFrom 2 none, Cond.fieldLink RX3 9 "GaugeBlocks$State" "nominal" "[I", Cond.methodLink RX3 44 arraycopyName, Cond.native arraycopyName, Cond.static arraycopyName, Cond.initialized "java/lang/System", Cond.fieldLink RX3 15 "GaugeBlocks$State" "deviation" "[I", Cond.fieldLink RX3 18 "GaugeBlocks$State" "wear" "[I", Cond.fieldLink RX3 21 "GaugeBlocks$State" "warmth" "[I", Cond.fieldLink RX3 24 "GaugeBlocks$State" "stack" "[I", Cond.fieldLink RX3 27 "GaugeBlocks$State" "place" "[I", Cond.fieldLink RX3 30 "GaugeBlocks$State" "timesWrung" "[I", Cond.fieldLink RX3 41 "GaugeBlocks$State" "settings" "[I", Cond.fieldLink RX3 50 "GaugeBlocks$State" "blocks" "I", Cond.fieldLink RX3 54 "GaugeBlocks$State" "minutes" "I", Cond.fieldLink RX3 57 "GaugeBlocks$State" "wrings" "I", Cond.fieldLink RX3 60 "GaugeBlocks$State" "takeOffs" "I", Cond.fieldLink RX3 63 "GaugeBlocks$State" "refusals" "I"]
def wsX4_set : List Cond := .code yX4_set cX4_set 4 (some .int) :: ((wsX4_set_r1 ++ wsX4_set_r2) ++ wsX40 ++ wsX30 ++ wsX20 ++ (vx_atS RX4 292 "java/lang/IndexOutOfBoundsException" ["java/lang/RuntimeException", "java/lang/Exception"]).filter goodWord ++ (vx_atS RX4 149 "java/lang/IllegalArgumentException" ["java/lang/RuntimeException", "java/lang/Exception"]).filter goodWord)
def wsX4_checkStack : List Cond := .code yX4_checkStack cX4_checkStack 1 none :: ([.classLink RX4 288 "java/lang/IndexOutOfBoundsException", .initialized "java/lang/IndexOutOfBoundsException"] ++ (vx_atS RX4 292 "java/lang/IndexOutOfBoundsException" ["java/lang/RuntimeException", "java/lang/Exception"]).filter goodWord)
def wsX4_wring_r1 : List Cond := [Cond.fieldLink RX4 19 "GaugeBlocks" "saved" "LGaugeBlocks$SavedStates;", Cond.fieldLink RX4 12 "GaugeBlocks" "state" "LGaugeBlocks$State;", Cond.methodLink RX4 103 yX4_checkStack, Cond.static yX4_checkStack, Cond.initialized RX4, Cond.code yX4_checkStack cX4_checkStack 1 none, Cond.classLink RX4 288 "java/lang/IndexOutOfBoundsException", Cond.initialized "java/lang/IndexOutOfBoundsException", Cond.methodLink RX4 58 yX4_checkBlock, Cond.instanceMethod yX4_checkBlock, Cond.selects RX4 yX4_checkBlock yX4_checkBlock, Cond.code yX4_checkBlock cX4_checkBlock 2 none, Cond.methodLink RX4 170 yX3_hasBlock, Cond.instanceMethod yX3_hasBlock, Cond.selects RX3 yX3_hasBlock yX3_hasBlock, Cond.initialized RX3, Cond.code yX3_hasBlock cX3_hasBlock 2 (some .boolean), Cond.fieldLink RX3 50 "GaugeBlocks$State" "blocks" "I", Cond.methodLink RX4 50 yX2_push, Cond.instanceMethod yX2_push, Cond.selects RX2 yX2_push yX2_push, Cond.initialized RX2, Cond.code yX2_push cX2_push 2 none, Cond.fieldLink RX2 18 "GaugeBlocks$SavedStates" "many" "I"]
def wsX4_wring_r2 : List Cond := [Cond.fieldLink RX2 11 "GaugeBlocks$SavedStates" "states" "[LGaugeBlocks$State;", Cond.methodLink RX2 22 yX2_dropOldest, Cond.instanceMethod yX2_dropOldest, Cond.selects RX2 yX2_dropOldest yX2_dropOldest, Cond.code yX2_dropOldest cX2_dropOldest 3 none, Cond.methodLink RX2 25 yX3_copyFrom, Cond.instanceMethod yX3_copyFrom, Cond.selects RX3 yX3_copyFrom yX3_copyFrom, Cond.code yX3_copyFrom cX3_copyFrom 2 none, Cond.fieldLink RX3 9 "GaugeBlocks$State" "nominal" "[I", Cond.methodLink RX3 44 arraycopyName, Cond.native arraycopyName, Cond.static arraycopyName, Cond.initialized "java/lang/System", Cond.fieldLink RX3 15 "GaugeBlocks$State" "deviation" "[I", Cond.fieldLink RX3 18 "GaugeBlocks$State" "wear" "[I", Cond.fieldLink RX3 21 "GaugeBlocks$State" "warmth" "[I", Cond.fieldLink RX3 24 "GaugeBlocks$State" "stack" "[I", Cond.fieldLink RX3 27 "GaugeBlocks$State" "place" "[I", Cond.fieldLink RX3 30 "GaugeBlocks$State" "timesWrung" "[I", Cond.fieldLink RX3 41 "GaugeBlocks$State" "settings" "[I", Cond.fieldLink RX3 54 "GaugeBlocks$State" "minutes" "I", Cond.fieldLink RX3 57 "GaugeBlocks$State" "wrings" "I", Cond.fieldLink RX3 60 "GaugeBlocks$State" "takeOffs" "I"]
def wsX4_wring_r3 : List Cond := [Cond.fieldLink RX3 63 "GaugeBlocks$State" "refusals" "I", Cond.methodLink RX4 106 yX3_tryToWring, Cond.instanceMethod yX3_tryToWring, Cond.selects RX3 yX3_tryToWring yX3_tryToWring, Cond.code yX3_tryToWring cX3_tryToWring 4 (some .int), Cond.methodLink RX3 106 yX3_reasonToRefuse, Cond.instanceMethod yX3_reasonToRefuse, Cond.selects RX3 yX3_reasonToRefuse yX3_reasonToRefuse, Cond.code yX3_reasonToRefuse cX3_reasonToRefuse 3 (some .int), Cond.methodLink RX3 96 yX3_isFree, Cond.instanceMethod yX3_isFree, Cond.selects RX3 yX3_isFree yX3_isFree, Cond.code yX3_isFree cX3_isFree 2 (some .boolean), Cond.methodLink RX3 100 yX3_heightOf, Cond.instanceMethod yX3_heightOf, Cond.selects RX3 yX3_heightOf yX3_heightOf, Cond.code yX3_heightOf cX3_heightOf 2 (some .int), Cond.methodLink RX3 125 yX3_blocksIn, Cond.instanceMethod yX3_blocksIn, Cond.selects RX3 yX3_blocksIn yX3_blocksIn, Cond.code yX3_blocksIn cX3_blocksIn 4 (some .int), Cond.methodLink RX3 128 yJ6_bitCount_0f7a4, Cond.static yJ6_bitCount_0f7a4, Cond.initialized RJ6]
def wsX4_wring_r4 : List Cond := [Cond.code yJ6_bitCount_0f7a4 cJ6_bitCount_0f7a4 1 (some .int), Cond.constant RJ6 265 (1431655765), Cond.constant RJ6 266 (858993459), Cond.constant RJ6 267 (252645135), Cond.methodLink RX3 103 yX3_gradeOf, Cond.instanceMethod yX3_gradeOf, Cond.selects RX3 yX3_gradeOf yX3_gradeOf, Cond.code yX3_gradeOf cX3_gradeOf 3 (some .int), Cond.methodLink RX3 83 yX3_sizeOfError, Cond.instanceMethod yX3_sizeOfError, Cond.selects RX3 yX3_sizeOfError yX3_sizeOfError, Cond.code yX3_sizeOfError cX3_sizeOfError 2 (some .int), Cond.methodLink RX3 78 Lib.Math.abs.name, Cond.static Lib.Math.abs.name, Cond.initialized "java/lang/Math", Cond.code Lib.Math.abs.name Lib.Math.abs.code 1 (some .int), Cond.methodLink RX3 74 yX3_errorOf, Cond.instanceMethod yX3_errorOf, Cond.selects RX3 yX3_errorOf yX3_errorOf, Cond.code yX3_errorOf cX3_errorOf 2 (some .int), Cond.methodLink RX3 109 yX3_putOnTop, Cond.instanceMethod yX3_putOnTop, Cond.selects RX3 yX3_putOnTop yX3_putOnTop, Cond.code yX3_putOnTop cX3_putOnTop 4 none]
def wsX4_wring_r5 : List Cond := [Cond.methodLink RX3 116 yX3_blockAt, Cond.instanceMethod yX3_blockAt, Cond.selects RX3 yX3_blockAt yX3_blockAt, Cond.code yX3_blockAt cX3_blockAt 4 (some .int), Cond.methodLink RX3 119 yX3_slide, Cond.instanceMethod yX3_slide, Cond.selects RX3 yX3_slide yX3_slide, Cond.code yX3_slide cX3_slide 3 none, Cond.methodLink RX3 122 yX3_warm, Cond.instanceMethod yX3_warm, Cond.selects RX3 yX3_warm yX3_warm, Cond.code yX3_warm cX3_warm 3 none, Cond.methodLink RX3 90 Lib.Math.min.name, Cond.static Lib.Math.min.name, Cond.code Lib.Math.min.name Lib.Math.min.code 2 (some .int)]
def wsX4_wring : List Cond := .code yX4_wring cX4_wring 3 (some .int) :: ((wsX4_wring_r1 ++ (wsX4_wring_r2 ++ (wsX4_wring_r3 ++ (wsX4_wring_r4 ++ wsX4_wring_r5)))) ++ wsX40 ++ wsX30 ++ wsX20 ++ (vx_atS RX4 292 "java/lang/IndexOutOfBoundsException" ["java/lang/RuntimeException", "java/lang/Exception"]).filter goodWord)
def wsX4_takeOff_r1 : List Cond := [Cond.classLink RX4 43 "java/lang/IllegalStateException", Cond.initialized "java/lang/IllegalStateException", Cond.fieldLink RX4 12 "GaugeBlocks" "state" "LGaugeBlocks$State;", Cond.fieldLink RX4 19 "GaugeBlocks" "saved" "LGaugeBlocks$SavedStates;", Cond.methodLink RX4 103 yX4_checkStack, Cond.static yX4_checkStack, Cond.initialized RX4, Cond.code yX4_checkStack cX4_checkStack 1 none, Cond.classLink RX4 288 "java/lang/IndexOutOfBoundsException", Cond.initialized "java/lang/IndexOutOfBoundsException", Cond.methodLink RX4 109 yX3_heightOf, Cond.instanceMethod yX3_heightOf, Cond.selects RX3 yX3_heightOf yX3_heightOf, Cond.initialized RX3, Cond.code yX3_heightOf cX3_heightOf 2 (some .int), Cond.methodLink RX3 125 yX3_blocksIn, Cond.instanceMethod yX3_blocksIn, Cond.selects RX3 yX3_blocksIn yX3_blocksIn, Cond.code yX3_blocksIn cX3_blocksIn 4 (some .int), Cond.fieldLink RX3 50 "GaugeBlocks$State" "blocks" "I", Cond.fieldLink RX3 24 "GaugeBlocks$State" "stack" "[I", Cond.methodLink RX3 128 yJ6_bitCount_0f7a4, Cond.static yJ6_bitCount_0f7a4, Cond.initialized RJ6]
def wsX4_takeOff_r2 : List Cond := [Cond.code yJ6_bitCount_0f7a4 cJ6_bitCount_0f7a4 1 (some .int), Cond.constant RJ6 265 (1431655765), Cond.constant RJ6 266 (858993459), Cond.constant RJ6 267 (252645135), Cond.methodLink RX4 50 yX2_push, Cond.instanceMethod yX2_push, Cond.selects RX2 yX2_push yX2_push, Cond.initialized RX2, Cond.code yX2_push cX2_push 2 none, Cond.fieldLink RX2 18 "GaugeBlocks$SavedStates" "many" "I", Cond.fieldLink RX2 11 "GaugeBlocks$SavedStates" "states" "[LGaugeBlocks$State;", Cond.methodLink RX2 22 yX2_dropOldest, Cond.instanceMethod yX2_dropOldest, Cond.selects RX2 yX2_dropOldest yX2_dropOldest, Cond.code yX2_dropOldest cX2_dropOldest 3 none, Cond.methodLink RX2 25 yX3_copyFrom, Cond.instanceMethod yX3_copyFrom, Cond.selects RX3 yX3_copyFrom yX3_copyFrom, Cond.code yX3_copyFrom cX3_copyFrom 2 none, Cond.fieldLink RX3 9 "GaugeBlocks$State" "nominal" "[I", Cond.methodLink RX3 44 arraycopyName, Cond.native arraycopyName, Cond.static arraycopyName, Cond.initialized "java/lang/System"]
def wsX4_takeOff_r3 : List Cond := [Cond.fieldLink RX3 15 "GaugeBlocks$State" "deviation" "[I", Cond.fieldLink RX3 18 "GaugeBlocks$State" "wear" "[I", Cond.fieldLink RX3 21 "GaugeBlocks$State" "warmth" "[I", Cond.fieldLink RX3 27 "GaugeBlocks$State" "place" "[I", Cond.fieldLink RX3 30 "GaugeBlocks$State" "timesWrung" "[I", Cond.fieldLink RX3 41 "GaugeBlocks$State" "settings" "[I", Cond.fieldLink RX3 54 "GaugeBlocks$State" "minutes" "I", Cond.fieldLink RX3 57 "GaugeBlocks$State" "wrings" "I", Cond.fieldLink RX3 60 "GaugeBlocks$State" "takeOffs" "I", Cond.fieldLink RX3 63 "GaugeBlocks$State" "refusals" "I", Cond.methodLink RX4 114 yX3_takeTopOff, Cond.instanceMethod yX3_takeTopOff, Cond.selects RX3 yX3_takeTopOff yX3_takeTopOff, Cond.code yX3_takeTopOff cX3_takeTopOff 4 (some .int), Cond.methodLink RX3 100 yX3_heightOf, Cond.methodLink RX3 116 yX3_blockAt, Cond.instanceMethod yX3_blockAt, Cond.selects RX3 yX3_blockAt yX3_blockAt, Cond.code yX3_blockAt cX3_blockAt 4 (some .int), Cond.methodLink RX3 119 yX3_slide, Cond.instanceMethod yX3_slide, Cond.selects RX3 yX3_slide yX3_slide, Cond.code yX3_slide cX3_slide 3 none, Cond.methodLink RX3 122 yX3_warm]
def wsX4_takeOff_r4 : List Cond := [Cond.instanceMethod yX3_warm, Cond.selects RX3 yX3_warm yX3_warm, Cond.code yX3_warm cX3_warm 3 none, Cond.methodLink RX3 90 Lib.Math.min.name, Cond.static Lib.Math.min.name, Cond.initialized "java/lang/Math", Cond.code Lib.Math.min.name Lib.Math.min.code 2 (some .int)]
def wsX4_takeOff : List Cond := .code yX4_takeOff cX4_takeOff 2 (some .int) :: ((wsX4_takeOff_r1 ++ (wsX4_takeOff_r2 ++ (wsX4_takeOff_r3 ++ wsX4_takeOff_r4))) ++ wsX40 ++ wsX30 ++ wsX20 ++ (vx_atS RX4 47 "java/lang/IllegalStateException" ["java/lang/RuntimeException", "java/lang/Exception"]).filter goodWord ++ (vx_atS RX4 292 "java/lang/IndexOutOfBoundsException" ["java/lang/RuntimeException", "java/lang/Exception"]).filter goodWord)
def wsX4_checkLength : List Cond := .code yX4_checkLength cX4_checkLength 1 none :: ([.constant RX4 287 (600000), .methodLink RX4 35 yX4_checkRange, .static yX4_checkRange, .initialized RX4, .code yX4_checkRange cX4_checkRange 3 none, .classLink RX4 145 "java/lang/IllegalArgumentException", .initialized "java/lang/IllegalArgumentException"] ++ (vx_atS RX4 149 "java/lang/IllegalArgumentException" ["java/lang/RuntimeException", "java/lang/Exception"]).filter goodWord)
def wsX4_make_r1 : List Cond := [Cond.classLink RX4 43 "java/lang/IllegalStateException", Cond.initialized "java/lang/IllegalStateException", Cond.fieldLink RX4 12 "GaugeBlocks" "state" "LGaugeBlocks$State;", Cond.fieldLink RX4 19 "GaugeBlocks" "saved" "LGaugeBlocks$SavedStates;", Cond.methodLink RX4 103 yX4_checkStack, Cond.static yX4_checkStack, Cond.initialized RX4, Cond.code yX4_checkStack cX4_checkStack 1 none, Cond.classLink RX4 288 "java/lang/IndexOutOfBoundsException", Cond.initialized "java/lang/IndexOutOfBoundsException", Cond.methodLink RX4 117 yX4_checkLength, Cond.static yX4_checkLength, Cond.code yX4_checkLength cX4_checkLength 1 none, Cond.constant RX4 287 (600000), Cond.methodLink RX4 35 yX4_checkRange, Cond.static yX4_checkRange, Cond.code yX4_checkRange cX4_checkRange 3 none, Cond.classLink RX4 145 "java/lang/IllegalArgumentException", Cond.initialized "java/lang/IllegalArgumentException", Cond.methodLink RX4 109 yX3_heightOf, Cond.instanceMethod yX3_heightOf, Cond.selects RX3 yX3_heightOf yX3_heightOf, Cond.initialized RX3, Cond.code yX3_heightOf cX3_heightOf 2 (some .int)]
def wsX4_make_r2 : List Cond := [Cond.methodLink RX3 125 yX3_blocksIn, Cond.instanceMethod yX3_blocksIn, Cond.selects RX3 yX3_blocksIn yX3_blocksIn, Cond.code yX3_blocksIn cX3_blocksIn 4 (some .int), Cond.fieldLink RX3 50 "GaugeBlocks$State" "blocks" "I", Cond.fieldLink RX3 24 "GaugeBlocks$State" "stack" "[I", Cond.methodLink RX3 128 yJ6_bitCount_0f7a4, Cond.static yJ6_bitCount_0f7a4, Cond.initialized RJ6, Cond.code yJ6_bitCount_0f7a4 cJ6_bitCount_0f7a4 1 (some .int), Cond.constant RJ6 265 (1431655765), Cond.constant RJ6 266 (858993459), Cond.constant RJ6 267 (252645135), Cond.methodLink RX4 50 yX2_push, Cond.instanceMethod yX2_push, Cond.selects RX2 yX2_push yX2_push, Cond.initialized RX2, Cond.code yX2_push cX2_push 2 none, Cond.fieldLink RX2 18 "GaugeBlocks$SavedStates" "many" "I", Cond.fieldLink RX2 11 "GaugeBlocks$SavedStates" "states" "[LGaugeBlocks$State;", Cond.methodLink RX2 22 yX2_dropOldest, Cond.instanceMethod yX2_dropOldest, Cond.selects RX2 yX2_dropOldest yX2_dropOldest, Cond.code yX2_dropOldest cX2_dropOldest 3 none]
def wsX4_make_r3 : List Cond := [Cond.methodLink RX2 25 yX3_copyFrom, Cond.instanceMethod yX3_copyFrom, Cond.selects RX3 yX3_copyFrom yX3_copyFrom, Cond.code yX3_copyFrom cX3_copyFrom 2 none, Cond.fieldLink RX3 9 "GaugeBlocks$State" "nominal" "[I", Cond.methodLink RX3 44 arraycopyName, Cond.native arraycopyName, Cond.static arraycopyName, Cond.initialized "java/lang/System", Cond.fieldLink RX3 15 "GaugeBlocks$State" "deviation" "[I", Cond.fieldLink RX3 18 "GaugeBlocks$State" "wear" "[I", Cond.fieldLink RX3 21 "GaugeBlocks$State" "warmth" "[I", Cond.fieldLink RX3 27 "GaugeBlocks$State" "place" "[I", Cond.fieldLink RX3 30 "GaugeBlocks$State" "timesWrung" "[I", Cond.fieldLink RX3 41 "GaugeBlocks$State" "settings" "[I", Cond.fieldLink RX3 54 "GaugeBlocks$State" "minutes" "I", Cond.fieldLink RX3 57 "GaugeBlocks$State" "wrings" "I", Cond.fieldLink RX3 60 "GaugeBlocks$State" "takeOffs" "I", Cond.fieldLink RX3 63 "GaugeBlocks$State" "refusals" "I", Cond.methodLink RX4 122 yX0_fewestFor, Cond.static yX0_fewestFor, Cond.initialized RX0, Cond.code yX0_fewestFor cX0_fewestFor 5 (some .int), Cond.fieldLink RX0 15 "GaugeBlocks$State" "nominal" "[I"]
def wsX4_make_r4 : List Cond := [Cond.methodLink RX0 9 yX3_blocksIn, Cond.methodLink RX0 19 yX0_leastSet, Cond.static yX0_leastSet, Cond.code yX0_leastSet cX0_leastSet 8 (some .int), Cond.constant RX0 25 (100000), Cond.methodLink RX4 128 yX3_wringSet, Cond.instanceMethod yX3_wringSet, Cond.selects RX3 yX3_wringSet yX3_wringSet, Cond.code yX3_wringSet cX3_wringSet 5 (some .int), Cond.methodLink RX3 113 yX3_tryToWring, Cond.instanceMethod yX3_tryToWring, Cond.selects RX3 yX3_tryToWring yX3_tryToWring, Cond.code yX3_tryToWring cX3_tryToWring 4 (some .int), Cond.methodLink RX3 106 yX3_reasonToRefuse, Cond.instanceMethod yX3_reasonToRefuse, Cond.selects RX3 yX3_reasonToRefuse yX3_reasonToRefuse, Cond.code yX3_reasonToRefuse cX3_reasonToRefuse 3 (some .int), Cond.methodLink RX3 96 yX3_isFree, Cond.instanceMethod yX3_isFree, Cond.selects RX3 yX3_isFree yX3_isFree, Cond.code yX3_isFree cX3_isFree 2 (some .boolean), Cond.methodLink RX3 100 yX3_heightOf, Cond.methodLink RX3 103 yX3_gradeOf, Cond.instanceMethod yX3_gradeOf]
def wsX4_make_r5 : List Cond := [Cond.selects RX3 yX3_gradeOf yX3_gradeOf, Cond.code yX3_gradeOf cX3_gradeOf 3 (some .int), Cond.methodLink RX3 83 yX3_sizeOfError, Cond.instanceMethod yX3_sizeOfError, Cond.selects RX3 yX3_sizeOfError yX3_sizeOfError, Cond.code yX3_sizeOfError cX3_sizeOfError 2 (some .int), Cond.methodLink RX3 78 Lib.Math.abs.name, Cond.static Lib.Math.abs.name, Cond.initialized "java/lang/Math", Cond.code Lib.Math.abs.name Lib.Math.abs.code 1 (some .int), Cond.methodLink RX3 74 yX3_errorOf, Cond.instanceMethod yX3_errorOf, Cond.selects RX3 yX3_errorOf yX3_errorOf, Cond.code yX3_errorOf cX3_errorOf 2 (some .int), Cond.methodLink RX3 109 yX3_putOnTop, Cond.instanceMethod yX3_putOnTop, Cond.selects RX3 yX3_putOnTop yX3_putOnTop, Cond.code yX3_putOnTop cX3_putOnTop 4 none, Cond.methodLink RX3 116 yX3_blockAt, Cond.instanceMethod yX3_blockAt, Cond.selects RX3 yX3_blockAt yX3_blockAt, Cond.code yX3_blockAt cX3_blockAt 4 (some .int), Cond.methodLink RX3 119 yX3_slide, Cond.instanceMethod yX3_slide]
def wsX4_make_r6 : List Cond := [Cond.selects RX3 yX3_slide yX3_slide, Cond.code yX3_slide cX3_slide 3 none, Cond.methodLink RX3 122 yX3_warm, Cond.instanceMethod yX3_warm, Cond.selects RX3 yX3_warm yX3_warm, Cond.code yX3_warm cX3_warm 3 none, Cond.methodLink RX3 90 Lib.Math.min.name, Cond.static Lib.Math.min.name, Cond.code Lib.Math.min.name Lib.Math.min.code 2 (some .int)]
def wsX4_make : List Cond := .code yX4_make cX4_make 4 (some .int) :: ((wsX4_make_r1 ++ (wsX4_make_r2 ++ (wsX4_make_r3 ++ (wsX4_make_r4 ++ (wsX4_make_r5 ++ wsX4_make_r6))))) ++ wsX40 ++ wsX30 ++ wsX20 ++ (vx_atS RX4 47 "java/lang/IllegalStateException" ["java/lang/RuntimeException", "java/lang/Exception"]).filter goodWord ++ (vx_atS RX4 292 "java/lang/IndexOutOfBoundsException" ["java/lang/RuntimeException", "java/lang/Exception"]).filter goodWord ++ (vx_atS RX4 149 "java/lang/IllegalArgumentException" ["java/lang/RuntimeException", "java/lang/Exception"]).filter goodWord)
def wsX4_blockOf_r1 : List Cond := [Cond.classLink RX4 145 "java/lang/IllegalArgumentException", Cond.initialized "java/lang/IllegalArgumentException", Cond.fieldLink RX4 12 "GaugeBlocks" "state" "LGaugeBlocks$State;", Cond.fieldLink RX4 186 "GaugeBlocks$State" "nominal" "[I", Cond.fieldLink RX4 192 "GaugeBlocks$State" "wear" "[I", Cond.fieldLink RX4 83 "GaugeBlocks$State" "warmth" "[I", Cond.fieldLink RX4 198 "GaugeBlocks$State" "stack" "[I", Cond.fieldLink RX4 201 "GaugeBlocks$State" "place" "[I", Cond.fieldLink RX4 204 "GaugeBlocks$State" "timesWrung" "[I", Cond.methodLink RX4 58 yX4_checkBlock, Cond.instanceMethod yX4_checkBlock, Cond.selects RX4 yX4_checkBlock yX4_checkBlock, Cond.initialized RX4, Cond.code yX4_checkBlock cX4_checkBlock 2 none, Cond.classLink RX4 288 "java/lang/IndexOutOfBoundsException", Cond.initialized "java/lang/IndexOutOfBoundsException", Cond.methodLink RX4 170 yX3_hasBlock, Cond.instanceMethod yX3_hasBlock, Cond.selects RX3 yX3_hasBlock yX3_hasBlock, Cond.initialized RX3, Cond.code yX3_hasBlock cX3_hasBlock 2 (some .boolean), Cond.fieldLink RX3 50 "GaugeBlocks$State" "blocks" "I", Cond.methodLink RX4 189 yX3_errorOf, Cond.instanceMethod yX3_errorOf]
def wsX4_blockOf_r2 : List Cond := [Cond.selects RX3 yX3_errorOf yX3_errorOf, Cond.code yX3_errorOf cX3_errorOf 2 (some .int), Cond.fieldLink RX3 15 "GaugeBlocks$State" "deviation" "[I", Cond.fieldLink RX3 18 "GaugeBlocks$State" "wear" "[I", Cond.methodLink RX4 75 yX3_gradeOf, Cond.instanceMethod yX3_gradeOf, Cond.selects RX3 yX3_gradeOf yX3_gradeOf, Cond.code yX3_gradeOf cX3_gradeOf 3 (some .int), Cond.methodLink RX3 83 yX3_sizeOfError, Cond.instanceMethod yX3_sizeOfError, Cond.selects RX3 yX3_sizeOfError yX3_sizeOfError, Cond.code yX3_sizeOfError cX3_sizeOfError 2 (some .int), Cond.methodLink RX3 78 Lib.Math.abs.name, Cond.static Lib.Math.abs.name, Cond.initialized "java/lang/Math", Cond.code Lib.Math.abs.name Lib.Math.abs.code 1 (some .int), Cond.methodLink RX3 74 yX3_errorOf, Cond.methodLink RX4 195 yX3_trueLengthOf, Cond.instanceMethod yX3_trueLengthOf, Cond.selects RX3 yX3_trueLengthOf yX3_trueLengthOf, Cond.code yX3_trueLengthOf cX3_trueLengthOf 4 (some .int), Cond.fieldLink RX3 21 "GaugeBlocks$State" "warmth" "[I", Cond.fieldLink RX3 9 "GaugeBlocks$State" "nominal" "[I", Cond.methodLink RX3 93 yX3_cooled]
def wsX4_blockOf_r3 : List Cond := [Cond.static yX3_cooled, Cond.code yX3_cooled cX3_cooled 4 (some .int)]
def wsX4_blockOf : List Cond := .code yX4_blockOf cX4_blockOf 3 (some .int) :: ((wsX4_blockOf_r1 ++ (wsX4_blockOf_r2 ++ wsX4_blockOf_r3)) ++ wsX40 ++ wsX30 ++ (vx_atS RX4 149 "java/lang/IllegalArgumentException" ["java/lang/RuntimeException", "java/lang/Exception"]).filter goodWord ++ (vx_atS RX4 292 "java/lang/IndexOutOfBoundsException" ["java/lang/RuntimeException", "java/lang/Exception"]).filter goodWord)
def wsX4_stackOf_r1 : List Cond := [Cond.classLink RX4 145 "java/lang/IllegalArgumentException", Cond.initialized "java/lang/IllegalArgumentException", Cond.fieldLink RX4 12 "GaugeBlocks" "state" "LGaugeBlocks$State;", Cond.methodLink RX4 103 yX4_checkStack, Cond.static yX4_checkStack, Cond.initialized RX4, Cond.code yX4_checkStack cX4_checkStack 1 none, Cond.classLink RX4 288 "java/lang/IndexOutOfBoundsException", Cond.initialized "java/lang/IndexOutOfBoundsException", Cond.methodLink RX4 109 yX3_heightOf, Cond.instanceMethod yX3_heightOf, Cond.selects RX3 yX3_heightOf yX3_heightOf, Cond.initialized RX3, Cond.code yX3_heightOf cX3_heightOf 2 (some .int), Cond.methodLink RX3 125 yX3_blocksIn, Cond.instanceMethod yX3_blocksIn, Cond.selects RX3 yX3_blocksIn yX3_blocksIn, Cond.code yX3_blocksIn cX3_blocksIn 4 (some .int), Cond.fieldLink RX3 50 "GaugeBlocks$State" "blocks" "I", Cond.fieldLink RX3 24 "GaugeBlocks$State" "stack" "[I", Cond.methodLink RX3 128 yJ6_bitCount_0f7a4, Cond.static yJ6_bitCount_0f7a4, Cond.initialized RJ6, Cond.code yJ6_bitCount_0f7a4 cJ6_bitCount_0f7a4 1 (some .int)]
def wsX4_stackOf_r2 : List Cond := [Cond.constant RJ6 265 (1431655765), Cond.constant RJ6 266 (858993459), Cond.constant RJ6 267 (252645135), Cond.methodLink RX4 209 yX3_blocksIn, Cond.methodLink RX4 212 yX3_nominalOfSet, Cond.instanceMethod yX3_nominalOfSet, Cond.selects RX3 yX3_nominalOfSet yX3_nominalOfSet, Cond.code yX3_nominalOfSet cX3_nominalOfSet 4 (some .int), Cond.fieldLink RX3 9 "GaugeBlocks$State" "nominal" "[I", Cond.methodLink RX4 215 yX3_trueLengthOfStack, Cond.instanceMethod yX3_trueLengthOfStack, Cond.selects RX3 yX3_trueLengthOfStack yX3_trueLengthOfStack, Cond.code yX3_trueLengthOfStack cX3_trueLengthOfStack 6 (some .int), Cond.fieldLink RX3 41 "GaugeBlocks$State" "settings" "[I", Cond.methodLink RX3 133 yX3_trueLengthOf, Cond.instanceMethod yX3_trueLengthOf, Cond.selects RX3 yX3_trueLengthOf yX3_trueLengthOf, Cond.code yX3_trueLengthOf cX3_trueLengthOf 4 (some .int), Cond.fieldLink RX3 21 "GaugeBlocks$State" "warmth" "[I", Cond.fieldLink RX3 15 "GaugeBlocks$State" "deviation" "[I", Cond.fieldLink RX3 18 "GaugeBlocks$State" "wear" "[I", Cond.methodLink RX3 93 yX3_cooled, Cond.static yX3_cooled, Cond.code yX3_cooled cX3_cooled 4 (some .int)]
def wsX4_stackOf_r3 : List Cond := [Cond.methodLink RX4 218 yX3_blockAt, Cond.instanceMethod yX3_blockAt, Cond.selects RX3 yX3_blockAt yX3_blockAt, Cond.code yX3_blockAt cX3_blockAt 4 (some .int), Cond.fieldLink RX3 27 "GaugeBlocks$State" "place" "[I", Cond.methodLink RX4 221 yX3_greatestGradeIn, Cond.instanceMethod yX3_greatestGradeIn, Cond.selects RX3 yX3_greatestGradeIn yX3_greatestGradeIn, Cond.code yX3_greatestGradeIn cX3_greatestGradeIn 4 (some .int), Cond.methodLink RX3 86 Lib.Math.max.name, Cond.static Lib.Math.max.name, Cond.initialized "java/lang/Math", Cond.code Lib.Math.max.name Lib.Math.max.code 2 (some .int), Cond.methodLink RX3 103 yX3_gradeOf, Cond.instanceMethod yX3_gradeOf, Cond.selects RX3 yX3_gradeOf yX3_gradeOf, Cond.code yX3_gradeOf cX3_gradeOf 3 (some .int), Cond.methodLink RX3 83 yX3_sizeOfError, Cond.instanceMethod yX3_sizeOfError, Cond.selects RX3 yX3_sizeOfError yX3_sizeOfError, Cond.code yX3_sizeOfError cX3_sizeOfError 2 (some .int), Cond.methodLink RX3 78 Lib.Math.abs.name, Cond.static Lib.Math.abs.name, Cond.code Lib.Math.abs.name Lib.Math.abs.code 1 (some .int)]
def wsX4_stackOf_r4 : List Cond := [Cond.methodLink RX3 74 yX3_errorOf, Cond.instanceMethod yX3_errorOf, Cond.selects RX3 yX3_errorOf yX3_errorOf, Cond.code yX3_errorOf cX3_errorOf 2 (some .int), Cond.methodLink RX4 224 yX3_sizeOfDifference, Cond.instanceMethod yX3_sizeOfDifference, Cond.selects RX3 yX3_sizeOfDifference yX3_sizeOfDifference, Cond.code yX3_sizeOfDifference cX3_sizeOfDifference 2 (some .int), Cond.methodLink RX3 136 yX3_trueLengthOfStack, Cond.methodLink RX3 139 yX3_nominalOfSet]
def wsX4_stackOf : List Cond := .code yX4_stackOf cX4_stackOf 3 (some .int) :: ((wsX4_stackOf_r1 ++ (wsX4_stackOf_r2 ++ (wsX4_stackOf_r3 ++ wsX4_stackOf_r4))) ++ wsX40 ++ wsX30 ++ (vx_atS RX4 149 "java/lang/IllegalArgumentException" ["java/lang/RuntimeException", "java/lang/Exception"]).filter goodWord ++ (vx_atS RX4 292 "java/lang/IndexOutOfBoundsException" ["java/lang/RuntimeException", "java/lang/Exception"]).filter goodWord)
def wsX4_checkLeast : List Cond := .code yX4_checkLeast cX4_checkLeast 2 none :: ([.classLink RX4 145 "java/lang/IllegalArgumentException", .initialized "java/lang/IllegalArgumentException"] ++ (vx_atS RX4 149 "java/lang/IllegalArgumentException" ["java/lang/RuntimeException", "java/lang/Exception"]).filter goodWord)
def wsX4_ranked_r1 : List Cond := [Cond.fieldLink RX4 12 "GaugeBlocks" "state" "LGaugeBlocks$State;", Cond.methodLink RX4 35 yX4_checkRange, Cond.static yX4_checkRange, Cond.initialized RX4, Cond.code yX4_checkRange cX4_checkRange 3 none, Cond.classLink RX4 145 "java/lang/IllegalArgumentException", Cond.initialized "java/lang/IllegalArgumentException", Cond.methodLink RX4 229 yX4_checkLeast, Cond.static yX4_checkLeast, Cond.code yX4_checkLeast cX4_checkLeast 2 none, Cond.methodLink RX4 232 yX0_blockOfRank, Cond.static yX0_blockOfRank, Cond.initialized RX0, Cond.code yX0_blockOfRank cX0_blockOfRank 4 (some .int), Cond.fieldLink RX0 33 "GaugeBlocks$State" "blocks" "I", Cond.methodLink RX0 54 yX0_manyBefore, Cond.static yX0_manyBefore, Cond.code yX0_manyBefore cX0_manyBefore 6 (some .int), Cond.methodLink RX0 57 yX0_sortKey, Cond.static yX0_sortKey, Cond.code yX0_sortKey cX0_sortKey 3 (some .int), Cond.fieldLink RX0 60 "GaugeBlocks$State" "warmth" "[I", Cond.fieldLink RX0 15 "GaugeBlocks$State" "nominal" "[I", Cond.methodLink RX0 63 yX3_sizeOfError]
def wsX4_ranked_r2 : List Cond := [Cond.instanceMethod yX3_sizeOfError, Cond.selects RX3 yX3_sizeOfError yX3_sizeOfError, Cond.initialized RX3, Cond.code yX3_sizeOfError cX3_sizeOfError 2 (some .int), Cond.methodLink RX3 78 Lib.Math.abs.name, Cond.static Lib.Math.abs.name, Cond.initialized "java/lang/Math", Cond.code Lib.Math.abs.name Lib.Math.abs.code 1 (some .int), Cond.methodLink RX3 74 yX3_errorOf, Cond.instanceMethod yX3_errorOf, Cond.selects RX3 yX3_errorOf yX3_errorOf, Cond.code yX3_errorOf cX3_errorOf 2 (some .int), Cond.fieldLink RX3 15 "GaugeBlocks$State" "deviation" "[I", Cond.fieldLink RX3 18 "GaugeBlocks$State" "wear" "[I"]
def wsX4_ranked : List Cond := .code yX4_ranked cX4_ranked 3 (some .int) :: ((wsX4_ranked_r1 ++ wsX4_ranked_r2) ++ wsX40 ++ wsX30 ++ (vx_atS RX4 149 "java/lang/IllegalArgumentException" ["java/lang/RuntimeException", "java/lang/Exception"]).filter goodWord)
def wsX4_lengths_r1 : List Cond := [Cond.fieldLink RX4 12 "GaugeBlocks" "state" "LGaugeBlocks$State;", Cond.methodLink RX4 229 yX4_checkLeast, Cond.static yX4_checkLeast, Cond.initialized RX4, Cond.code yX4_checkLeast cX4_checkLeast 2 none, Cond.classLink RX4 145 "java/lang/IllegalArgumentException", Cond.initialized "java/lang/IllegalArgumentException", Cond.methodLink RX4 236 yX0_differentLengths, Cond.static yX0_differentLengths, Cond.initialized RX0, Cond.code yX0_differentLengths cX0_differentLengths 2 (some .int), Cond.methodLink RX0 66 yX0_lengthOfRank, Cond.static yX0_lengthOfRank, Cond.code yX0_lengthOfRank cX0_lengthOfRank 4 (some .int), Cond.methodLink RX0 70 yX0_shortestAbove, Cond.static yX0_shortestAbove, Cond.code yX0_shortestAbove cX0_shortestAbove 5 (some .int), Cond.fieldLink RX0 33 "GaugeBlocks$State" "blocks" "I", Cond.fieldLink RX0 15 "GaugeBlocks$State" "nominal" "[I", Cond.methodLink RX0 37 yX3_isFree, Cond.instanceMethod yX3_isFree, Cond.selects RX3 yX3_isFree yX3_isFree, Cond.initialized RX3, Cond.code yX3_isFree cX3_isFree 2 (some .boolean)]
def wsX4_lengths_r2 : List Cond := [Cond.fieldLink RX3 24 "GaugeBlocks$State" "stack" "[I", Cond.methodLink RX4 240 yX0_lengthOfRank]
def wsX4_lengths : List Cond := .code yX4_lengths cX4_lengths 2 (some .int) :: ((wsX4_lengths_r1 ++ wsX4_lengths_r2) ++ wsX40 ++ wsX30 ++ (vx_atS RX4 149 "java/lang/IllegalArgumentException" ["java/lang/RuntimeException", "java/lang/Exception"]).filter goodWord)
def wsX4_count_r1 : List Cond := [Cond.classLink RX4 145 "java/lang/IllegalArgumentException", Cond.initialized "java/lang/IllegalArgumentException", Cond.fieldLink RX4 12 "GaugeBlocks" "state" "LGaugeBlocks$State;", Cond.fieldLink RX4 68 "GaugeBlocks$State" "blocks" "I", Cond.fieldLink RX4 243 "GaugeBlocks$State" "minutes" "I", Cond.fieldLink RX4 246 "GaugeBlocks$State" "wrings" "I", Cond.fieldLink RX4 249 "GaugeBlocks$State" "takeOffs" "I", Cond.fieldLink RX4 255 "GaugeBlocks$State" "refusals" "I", Cond.fieldLink RX4 19 "GaugeBlocks" "saved" "LGaugeBlocks$SavedStates;", Cond.fieldLink RX4 173 "GaugeBlocks$SavedStates" "many" "I", Cond.fieldLink RX4 30 "GaugeBlocks" "text" "LGaugeBlocks$OrderText;", Cond.fieldLink RX4 131 "GaugeBlocks$OrderText" "length" "I", Cond.methodLink RX4 209 yX3_blocksIn, Cond.instanceMethod yX3_blocksIn, Cond.selects RX3 yX3_blocksIn yX3_blocksIn, Cond.initialized RX3, Cond.code yX3_blocksIn cX3_blocksIn 4 (some .int), Cond.fieldLink RX3 50 "GaugeBlocks$State" "blocks" "I", Cond.fieldLink RX3 24 "GaugeBlocks$State" "stack" "[I", Cond.methodLink RX4 252 yX3_wearOfAll, Cond.instanceMethod yX3_wearOfAll, Cond.selects RX3 yX3_wearOfAll yX3_wearOfAll, Cond.code yX3_wearOfAll cX3_wearOfAll 3 (some .int), Cond.fieldLink RX3 18 "GaugeBlocks$State" "wear" "[I"]
def wsX4_count_r2 : List Cond := [Cond.methodLink RX4 258 yX3_blocksOfGrade, Cond.instanceMethod yX3_blocksOfGrade, Cond.selects RX3 yX3_blocksOfGrade yX3_blocksOfGrade, Cond.code yX3_blocksOfGrade cX3_blocksOfGrade 4 (some .int), Cond.methodLink RX3 103 yX3_gradeOf, Cond.instanceMethod yX3_gradeOf, Cond.selects RX3 yX3_gradeOf yX3_gradeOf, Cond.code yX3_gradeOf cX3_gradeOf 3 (some .int), Cond.methodLink RX3 83 yX3_sizeOfError, Cond.instanceMethod yX3_sizeOfError, Cond.selects RX3 yX3_sizeOfError yX3_sizeOfError, Cond.code yX3_sizeOfError cX3_sizeOfError 2 (some .int), Cond.methodLink RX3 78 Lib.Math.abs.name, Cond.static Lib.Math.abs.name, Cond.initialized "java/lang/Math", Cond.code Lib.Math.abs.name Lib.Math.abs.code 1 (some .int), Cond.methodLink RX3 74 yX3_errorOf, Cond.instanceMethod yX3_errorOf, Cond.selects RX3 yX3_errorOf yX3_errorOf, Cond.code yX3_errorOf cX3_errorOf 2 (some .int), Cond.fieldLink RX3 15 "GaugeBlocks$State" "deviation" "[I"]
def wsX4_count : List Cond := .code yX4_count cX4_count 2 (some .int) :: ((wsX4_count_r1 ++ wsX4_count_r2) ++ wsX40 ++ wsX30 ++ wsX20 ++ wsX10 ++ (vx_atS RX4 149 "java/lang/IllegalArgumentException" ["java/lang/RuntimeException", "java/lang/Exception"]).filter goodWord)
def wsX4_setting : List Cond := .code yX4_setting cX4_setting 2 (some .int) :: ([.fieldLink RX4 12 "GaugeBlocks" "state" "LGaugeBlocks$State;", .fieldLink RX4 100 "GaugeBlocks$State" "settings" "[I", .methodLink RX4 94 yX4_checkSetting, .static yX4_checkSetting, .initialized RX4, .code yX4_checkSetting cX4_checkSetting 1 none, .classLink RX4 288 "java/lang/IndexOutOfBoundsException", .initialized "java/lang/IndexOutOfBoundsException"] ++ wsX40 ++ wsX30 ++ (vx_atS RX4 292 "java/lang/IndexOutOfBoundsException" ["java/lang/RuntimeException", "java/lang/Exception"]).filter goodWord)
def wsX4_refusal_r1 : List Cond := [Cond.fieldLink RX4 12 "GaugeBlocks" "state" "LGaugeBlocks$State;", Cond.methodLink RX4 103 yX4_checkStack, Cond.static yX4_checkStack, Cond.initialized RX4, Cond.code yX4_checkStack cX4_checkStack 1 none, Cond.classLink RX4 288 "java/lang/IndexOutOfBoundsException", Cond.initialized "java/lang/IndexOutOfBoundsException", Cond.methodLink RX4 58 yX4_checkBlock, Cond.instanceMethod yX4_checkBlock, Cond.selects RX4 yX4_checkBlock yX4_checkBlock, Cond.code yX4_checkBlock cX4_checkBlock 2 none, Cond.methodLink RX4 170 yX3_hasBlock, Cond.instanceMethod yX3_hasBlock, Cond.selects RX3 yX3_hasBlock yX3_hasBlock, Cond.initialized RX3, Cond.code yX3_hasBlock cX3_hasBlock 2 (some .boolean), Cond.fieldLink RX3 50 "GaugeBlocks$State" "blocks" "I", Cond.methodLink RX4 263 yX3_reasonToRefuse, Cond.instanceMethod yX3_reasonToRefuse, Cond.selects RX3 yX3_reasonToRefuse yX3_reasonToRefuse, Cond.code yX3_reasonToRefuse cX3_reasonToRefuse 3 (some .int), Cond.fieldLink RX3 21 "GaugeBlocks$State" "warmth" "[I", Cond.fieldLink RX3 41 "GaugeBlocks$State" "settings" "[I", Cond.methodLink RX3 96 yX3_isFree]
def wsX4_refusal_r2 : List Cond := [Cond.instanceMethod yX3_isFree, Cond.selects RX3 yX3_isFree yX3_isFree, Cond.code yX3_isFree cX3_isFree 2 (some .boolean), Cond.fieldLink RX3 24 "GaugeBlocks$State" "stack" "[I", Cond.methodLink RX3 100 yX3_heightOf, Cond.instanceMethod yX3_heightOf, Cond.selects RX3 yX3_heightOf yX3_heightOf, Cond.code yX3_heightOf cX3_heightOf 2 (some .int), Cond.methodLink RX3 125 yX3_blocksIn, Cond.instanceMethod yX3_blocksIn, Cond.selects RX3 yX3_blocksIn yX3_blocksIn, Cond.code yX3_blocksIn cX3_blocksIn 4 (some .int), Cond.methodLink RX3 128 yJ6_bitCount_0f7a4, Cond.static yJ6_bitCount_0f7a4, Cond.initialized RJ6, Cond.code yJ6_bitCount_0f7a4 cJ6_bitCount_0f7a4 1 (some .int), Cond.constant RJ6 265 (1431655765), Cond.constant RJ6 266 (858993459), Cond.constant RJ6 267 (252645135), Cond.methodLink RX3 103 yX3_gradeOf, Cond.instanceMethod yX3_gradeOf, Cond.selects RX3 yX3_gradeOf yX3_gradeOf, Cond.code yX3_gradeOf cX3_gradeOf 3 (some .int), Cond.methodLink RX3 83 yX3_sizeOfError]
def wsX4_refusal_r3 : List Cond := [Cond.instanceMethod yX3_sizeOfError, Cond.selects RX3 yX3_sizeOfError yX3_sizeOfError, Cond.code yX3_sizeOfError cX3_sizeOfError 2 (some .int), Cond.methodLink RX3 78 Lib.Math.abs.name, Cond.static Lib.Math.abs.name, Cond.initialized "java/lang/Math", Cond.code Lib.Math.abs.name Lib.Math.abs.code 1 (some .int), Cond.methodLink RX3 74 yX3_errorOf, Cond.instanceMethod yX3_errorOf, Cond.selects RX3 yX3_errorOf yX3_errorOf, Cond.code yX3_errorOf cX3_errorOf 2 (some .int), Cond.fieldLink RX3 15 "GaugeBlocks$State" "deviation" "[I", Cond.fieldLink RX3 18 "GaugeBlocks$State" "wear" "[I"]
def wsX4_refusal : List Cond := .code yX4_refusal cX4_refusal 3 (some .int) :: ((wsX4_refusal_r1 ++ (wsX4_refusal_r2 ++ wsX4_refusal_r3)) ++ wsX40 ++ wsX30 ++ (vx_atS RX4 292 "java/lang/IndexOutOfBoundsException" ["java/lang/RuntimeException", "java/lang/Exception"]).filter goodWord)
def wsX4_fewest_r1 : List Cond := [Cond.fieldLink RX4 12 "GaugeBlocks" "state" "LGaugeBlocks$State;", Cond.methodLink RX4 117 yX4_checkLength, Cond.static yX4_checkLength, Cond.initialized RX4, Cond.code yX4_checkLength cX4_checkLength 1 none, Cond.constant RX4 287 (600000), Cond.methodLink RX4 35 yX4_checkRange, Cond.static yX4_checkRange, Cond.code yX4_checkRange cX4_checkRange 3 none, Cond.classLink RX4 145 "java/lang/IllegalArgumentException", Cond.initialized "java/lang/IllegalArgumentException", Cond.methodLink RX4 122 yX0_fewestFor, Cond.static yX0_fewestFor, Cond.initialized RX0, Cond.code yX0_fewestFor cX0_fewestFor 5 (some .int), Cond.fieldLink RX0 15 "GaugeBlocks$State" "nominal" "[I", Cond.methodLink RX0 9 yX3_blocksIn, Cond.instanceMethod yX3_blocksIn, Cond.selects RX3 yX3_blocksIn yX3_blocksIn, Cond.initialized RX3, Cond.code yX3_blocksIn cX3_blocksIn 4 (some .int), Cond.fieldLink RX3 50 "GaugeBlocks$State" "blocks" "I", Cond.fieldLink RX3 24 "GaugeBlocks$State" "stack" "[I", Cond.methodLink RX0 19 yX0_leastSet]
def wsX4_fewest_r2 : List Cond := [Cond.static yX0_leastSet, Cond.code yX0_leastSet cX0_leastSet 8 (some .int), Cond.constant RX0 25 (100000), Cond.methodLink RX4 266 yJ6_bitCount_0f7a4, Cond.static yJ6_bitCount_0f7a4, Cond.initialized RJ6, Cond.code yJ6_bitCount_0f7a4 cJ6_bitCount_0f7a4 1 (some .int), Cond.constant RJ6 265 (1431655765), Cond.constant RJ6 266 (858993459), Cond.constant RJ6 267 (252645135)]
def wsX4_fewest : List Cond := .code yX4_fewest cX4_fewest 4 (some .int) :: ((wsX4_fewest_r1 ++ wsX4_fewest_r2) ++ wsX40 ++ wsX30 ++ (vx_atS RX4 149 "java/lang/IllegalArgumentException" ["java/lang/RuntimeException", "java/lang/Exception"]).filter goodWord)
def wsX4_oldWay_r1 : List Cond := [Cond.fieldLink RX4 12 "GaugeBlocks" "state" "LGaugeBlocks$State;", Cond.methodLink RX4 117 yX4_checkLength, Cond.static yX4_checkLength, Cond.initialized RX4, Cond.code yX4_checkLength cX4_checkLength 1 none, Cond.constant RX4 287 (600000), Cond.methodLink RX4 35 yX4_checkRange, Cond.static yX4_checkRange, Cond.code yX4_checkRange cX4_checkRange 3 none, Cond.classLink RX4 145 "java/lang/IllegalArgumentException", Cond.initialized "java/lang/IllegalArgumentException", Cond.methodLink RX4 271 yX0_takenByOldWay, Cond.static yX0_takenByOldWay, Cond.initialized RX0, Cond.code yX0_takenByOldWay cX0_takenByOldWay 6 (some .int), Cond.fieldLink RX0 15 "GaugeBlocks$State" "nominal" "[I", Cond.methodLink RX0 26 yX0_nextOfOldWay, Cond.static yX0_nextOfOldWay, Cond.code yX0_nextOfOldWay cX0_nextOfOldWay 9 (some .int), Cond.fieldLink RX0 33 "GaugeBlocks$State" "blocks" "I", Cond.methodLink RX0 30 yX0_zerosAtEnd, Cond.static yX0_zerosAtEnd, Cond.code yX0_zerosAtEnd cX0_zerosAtEnd 3 (some .int), Cond.methodLink RX0 37 yX3_isFree]
def wsX4_oldWay_r2 : List Cond := [Cond.instanceMethod yX3_isFree, Cond.selects RX3 yX3_isFree yX3_isFree, Cond.initialized RX3, Cond.code yX3_isFree cX3_isFree 2 (some .boolean), Cond.fieldLink RX3 24 "GaugeBlocks$State" "stack" "[I", Cond.methodLink RX4 212 yX3_nominalOfSet, Cond.instanceMethod yX3_nominalOfSet, Cond.selects RX3 yX3_nominalOfSet yX3_nominalOfSet, Cond.code yX3_nominalOfSet cX3_nominalOfSet 4 (some .int), Cond.fieldLink RX3 50 "GaugeBlocks$State" "blocks" "I", Cond.fieldLink RX3 9 "GaugeBlocks$State" "nominal" "[I", Cond.methodLink RX4 266 yJ6_bitCount_0f7a4, Cond.static yJ6_bitCount_0f7a4, Cond.initialized RJ6, Cond.code yJ6_bitCount_0f7a4 cJ6_bitCount_0f7a4 1 (some .int), Cond.constant RJ6 265 (1431655765), Cond.constant RJ6 266 (858993459), Cond.constant RJ6 267 (252645135)]
def wsX4_oldWay : List Cond := .code yX4_oldWay cX4_oldWay 5 (some .int) :: ((wsX4_oldWay_r1 ++ wsX4_oldWay_r2) ++ wsX40 ++ wsX30 ++ (vx_atS RX4 149 "java/lang/IllegalArgumentException" ["java/lang/RuntimeException", "java/lang/Exception"]).filter goodWord)
def wsX4_nearest_r1 : List Cond := [Cond.fieldLink RX4 12 "GaugeBlocks" "state" "LGaugeBlocks$State;", Cond.methodLink RX4 117 yX4_checkLength, Cond.static yX4_checkLength, Cond.initialized RX4, Cond.code yX4_checkLength cX4_checkLength 1 none, Cond.constant RX4 287 (600000), Cond.methodLink RX4 35 yX4_checkRange, Cond.static yX4_checkRange, Cond.code yX4_checkRange cX4_checkRange 3 none, Cond.classLink RX4 145 "java/lang/IllegalArgumentException", Cond.initialized "java/lang/IllegalArgumentException", Cond.methodLink RX4 274 yX0_nearestTo, Cond.static yX0_nearestTo, Cond.initialized RX0, Cond.code yX0_nearestTo cX0_nearestTo 5 (some .int), Cond.fieldLink RX0 33 "GaugeBlocks$State" "blocks" "I", Cond.fieldLink RX0 15 "GaugeBlocks$State" "nominal" "[I", Cond.methodLink RX0 37 yX3_isFree, Cond.instanceMethod yX3_isFree, Cond.selects RX3 yX3_isFree yX3_isFree, Cond.initialized RX3, Cond.code yX3_isFree cX3_isFree 2 (some .boolean), Cond.fieldLink RX3 24 "GaugeBlocks$State" "stack" "[I", Cond.methodLink RX0 41 yX0_nearer]
def wsX4_nearest_r2 : List Cond := [Cond.static yX0_nearer, Cond.code yX0_nearer cX0_nearer 4 (some .int), Cond.methodLink RX0 45 Lib.Math.abs.name, Cond.static Lib.Math.abs.name, Cond.initialized "java/lang/Math", Cond.code Lib.Math.abs.name Lib.Math.abs.code 1 (some .int), Cond.methodLink RX0 50 Lib.Math.min.name, Cond.static Lib.Math.min.name, Cond.code Lib.Math.min.name Lib.Math.min.code 2 (some .int)]
def wsX4_nearest : List Cond := .code yX4_nearest cX4_nearest 2 (some .int) :: ((wsX4_nearest_r1 ++ wsX4_nearest_r2) ++ wsX40 ++ wsX30 ++ (vx_atS RX4 149 "java/lang/IllegalArgumentException" ["java/lang/RuntimeException", "java/lang/Exception"]).filter goodWord)
def wsX4_coolIn : List Cond := .code yX4_coolIn cX4_coolIn 2 (some .int) :: ([.fieldLink RX4 12 "GaugeBlocks" "state" "LGaugeBlocks$State;", .methodLink RX4 58 yX4_checkBlock, .instanceMethod yX4_checkBlock, .selects RX4 yX4_checkBlock yX4_checkBlock, .initialized RX4, .code yX4_checkBlock cX4_checkBlock 2 none, .classLink RX4 288 "java/lang/IndexOutOfBoundsException", .initialized "java/lang/IndexOutOfBoundsException", .methodLink RX4 170 yX3_hasBlock, .instanceMethod yX3_hasBlock, .selects RX3 yX3_hasBlock yX3_hasBlock, .initialized RX3, .code yX3_hasBlock cX3_hasBlock 2 (some .boolean), .fieldLink RX3 50 "GaugeBlocks$State" "blocks" "I", .methodLink RX4 277 yX3_minutesUntilCool, .instanceMethod yX3_minutesUntilCool, .selects RX3 yX3_minutesUntilCool yX3_minutesUntilCool, .code yX3_minutesUntilCool cX3_minutesUntilCool 4 (some .int), .fieldLink RX3 21 "GaugeBlocks$State" "warmth" "[I", .fieldLink RX3 41 "GaugeBlocks$State" "settings" "[I", .methodLink RX3 93 yX3_cooled, .static yX3_cooled, .code yX3_cooled cX3_cooled 4 (some .int)] ++ wsX40 ++ wsX30 ++ (vx_atS RX4 292 "java/lang/IndexOutOfBoundsException" ["java/lang/RuntimeException", "java/lang/Exception"]).filter goodWord)
def wsX4_lengthIn_r1 : List Cond := [Cond.fieldLink RX4 12 "GaugeBlocks" "state" "LGaugeBlocks$State;", Cond.methodLink RX4 103 yX4_checkStack, Cond.static yX4_checkStack, Cond.initialized RX4, Cond.code yX4_checkStack cX4_checkStack 1 none, Cond.classLink RX4 288 "java/lang/IndexOutOfBoundsException", Cond.initialized "java/lang/IndexOutOfBoundsException", Cond.methodLink RX4 35 yX4_checkRange, Cond.static yX4_checkRange, Cond.code yX4_checkRange cX4_checkRange 3 none, Cond.classLink RX4 145 "java/lang/IllegalArgumentException", Cond.initialized "java/lang/IllegalArgumentException", Cond.methodLink RX4 215 yX3_trueLengthOfStack, Cond.instanceMethod yX3_trueLengthOfStack, Cond.selects RX3 yX3_trueLengthOfStack yX3_trueLengthOfStack, Cond.initialized RX3, Cond.code yX3_trueLengthOfStack cX3_trueLengthOfStack 6 (some .int), Cond.fieldLink RX3 50 "GaugeBlocks$State" "blocks" "I", Cond.fieldLink RX3 24 "GaugeBlocks$State" "stack" "[I", Cond.fieldLink RX3 41 "GaugeBlocks$State" "settings" "[I", Cond.methodLink RX3 133 yX3_trueLengthOf, Cond.instanceMethod yX3_trueLengthOf, Cond.selects RX3 yX3_trueLengthOf yX3_trueLengthOf, Cond.code yX3_trueLengthOf cX3_trueLengthOf 4 (some .int)]
def wsX4_lengthIn_r2 : List Cond := [Cond.fieldLink RX3 21 "GaugeBlocks$State" "warmth" "[I", Cond.fieldLink RX3 9 "GaugeBlocks$State" "nominal" "[I", Cond.fieldLink RX3 15 "GaugeBlocks$State" "deviation" "[I", Cond.fieldLink RX3 18 "GaugeBlocks$State" "wear" "[I", Cond.methodLink RX3 93 yX3_cooled, Cond.static yX3_cooled, Cond.code yX3_cooled cX3_cooled 4 (some .int)]
def wsX4_lengthIn : List Cond := .code yX4_lengthIn cX4_lengthIn 3 (some .int) :: ((wsX4_lengthIn_r1 ++ wsX4_lengthIn_r2) ++ wsX40 ++ wsX30 ++ (vx_atS RX4 292 "java/lang/IndexOutOfBoundsException" ["java/lang/RuntimeException", "java/lang/Exception"]).filter goodWord ++ (vx_atS RX4 149 "java/lang/IllegalArgumentException" ["java/lang/RuntimeException", "java/lang/Exception"]).filter goodWord)
def wsX4_meanError : List Cond := .code yX4_meanError cX4_meanError 1 (some .double) :: ([.fieldLink RX4 12 "GaugeBlocks" "state" "LGaugeBlocks$State;", .fieldLink RX4 68 "GaugeBlocks$State" "blocks" "I", .methodLink RX4 280 yX3_sizesOfErrors, .instanceMethod yX3_sizesOfErrors, .selects RX3 yX3_sizesOfErrors yX3_sizesOfErrors, .initialized RX3, .code yX3_sizesOfErrors cX3_sizesOfErrors 3 (some .int), .fieldLink RX3 50 "GaugeBlocks$State" "blocks" "I", .methodLink RX3 83 yX3_sizeOfError, .instanceMethod yX3_sizeOfError, .selects RX3 yX3_sizeOfError yX3_sizeOfError, .code yX3_sizeOfError cX3_sizeOfError 2 (some .int), .methodLink RX3 78 Lib.Math.abs.name, .static Lib.Math.abs.name, .initialized "java/lang/Math", .code Lib.Math.abs.name Lib.Math.abs.code 1 (some .int), .methodLink RX3 74 yX3_errorOf, .instanceMethod yX3_errorOf, .selects RX3 yX3_errorOf yX3_errorOf, .code yX3_errorOf cX3_errorOf 2 (some .int), .fieldLink RX3 15 "GaugeBlocks$State" "deviation" "[I", .fieldLink RX3 18 "GaugeBlocks$State" "wear" "[I"] ++ wsX40 ++ wsX30)
def wsJ9_abs_0f7a4 : List Cond := .code yJ9_abs_0f7a4 cJ9_abs_0f7a4 1 (some .int) :: ([])
def wsJ9_max_7cf53 : List Cond := .code yJ9_max_7cf53 cJ9_max_7cf53 2 (some .int) :: ([])
def wsJ9_min_7cf53 : List Cond := .code yJ9_min_7cf53 cJ9_min_7cf53 2 (some .int) :: ([])
def wsL_cell : List Cond := .code yL_cell cL_cell 2 (some .int) :: ([.constant RL 7 (795749149)])
def wsL_low : List Cond := .code yL_low cL_low 2 (some .int) :: ([.constant RL 8 (2147483647)])
def wsL_size : List Cond := .code yL_size cL_size 1 (some .int) :: ([])
def wsL_grade : List Cond := .code yL_grade cL_grade 4 (some .int) :: ([.methodLink RL 9 yL_size, .static yL_size, .initialized RL, .code yL_size cL_size 1 (some .int)])
def wsL_length : List Cond := .code yL_length cL_length 6 (some .int) :: ([])
def wsL_where : List Cond := .code yL_where cL_where 5 (some .int) :: ([])
def wsL_cool : List Cond := .code yL_cool cL_cool 4 (some .int) :: ([])
def wsL_reason : List Cond := .code yL_reason cL_reason 7 (some .int) :: ([.methodLink RL 15 yL_where, .static yL_where, .initialized RL, .code yL_where cL_where 5 (some .int), .methodLink RL 19 yL_grade, .static yL_grade, .code yL_grade cL_grade 4 (some .int), .methodLink RL 9 yL_size, .static yL_size, .code yL_size cL_size 1 (some .int)])
def wsL_rubs : List Cond := .code yL_rubs cL_rubs 7 none :: ([])
def wsL_wrings : List Cond := .code yL_wrings cL_wrings 9 (some .int) :: ([.methodLink RL 23 yL_reason, .static yL_reason, .initialized RL, .code yL_reason cL_reason 7 (some .int), .methodLink RL 15 yL_where, .static yL_where, .code yL_where cL_where 5 (some .int), .methodLink RL 19 yL_grade, .static yL_grade, .code yL_grade cL_grade 4 (some .int), .methodLink RL 9 yL_size, .static yL_size, .code yL_size cL_size 1 (some .int), .methodLink RL 27 yL_rubs, .static yL_rubs, .code yL_rubs cL_rubs 7 none])
def wsL_sum : List Cond := .code yL_sum cL_sum 4 (some .int) :: ([])
def wsL_ones : List Cond := .code yL_ones cL_ones 3 (some .int) :: ([])
def wsL_free : List Cond := .code yL_free cL_free 4 (some .int) :: ([.methodLink RL 15 yL_where, .static yL_where, .initialized RL, .code yL_where cL_where 5 (some .int)])
def wsL_fewest : List Cond := .code yL_fewest cL_fewest 6 (some .int) :: ([.methodLink RL 31 yL_ones, .static yL_ones, .initialized RL, .code yL_ones cL_ones 3 (some .int), .methodLink RL 34 yL_sum, .static yL_sum, .code yL_sum cL_sum 4 (some .int)])
def wsL_isOld_r1 : List Cond := [Cond.methodLink RL 31 yL_ones, Cond.static yL_ones, Cond.initialized RL, Cond.code yL_ones cL_ones 3 (some .int), Cond.methodLink RL 37 yX4_oldWay, Cond.instanceMethod yX4_oldWay, Cond.selects RX4 yX4_oldWay yX4_oldWay, Cond.initialized RX4, Cond.code yX4_oldWay cX4_oldWay 5 (some .int), Cond.fieldLink RX4 12 "GaugeBlocks" "state" "LGaugeBlocks$State;", Cond.methodLink RX4 117 yX4_checkLength, Cond.static yX4_checkLength, Cond.code yX4_checkLength cX4_checkLength 1 none, Cond.constant RX4 287 (600000), Cond.methodLink RX4 35 yX4_checkRange, Cond.static yX4_checkRange, Cond.code yX4_checkRange cX4_checkRange 3 none, Cond.classLink RX4 145 "java/lang/IllegalArgumentException", Cond.initialized "java/lang/IllegalArgumentException", Cond.methodLink RX4 271 yX0_takenByOldWay, Cond.static yX0_takenByOldWay, Cond.initialized RX0, Cond.code yX0_takenByOldWay cX0_takenByOldWay 6 (some .int), Cond.fieldLink RX0 15 "GaugeBlocks$State" "nominal" "[I"]
def wsL_isOld_r2 : List Cond := [Cond.methodLink RX0 26 yX0_nextOfOldWay, Cond.static yX0_nextOfOldWay, Cond.code yX0_nextOfOldWay cX0_nextOfOldWay 9 (some .int), Cond.fieldLink RX0 33 "GaugeBlocks$State" "blocks" "I", Cond.methodLink RX0 30 yX0_zerosAtEnd, Cond.static yX0_zerosAtEnd, Cond.code yX0_zerosAtEnd cX0_zerosAtEnd 3 (some .int), Cond.methodLink RX0 37 yX3_isFree, Cond.instanceMethod yX3_isFree, Cond.selects RX3 yX3_isFree yX3_isFree, Cond.initialized RX3, Cond.code yX3_isFree cX3_isFree 2 (some .boolean), Cond.fieldLink RX3 24 "GaugeBlocks$State" "stack" "[I", Cond.methodLink RX4 212 yX3_nominalOfSet, Cond.instanceMethod yX3_nominalOfSet, Cond.selects RX3 yX3_nominalOfSet yX3_nominalOfSet, Cond.code yX3_nominalOfSet cX3_nominalOfSet 4 (some .int), Cond.fieldLink RX3 50 "GaugeBlocks$State" "blocks" "I", Cond.fieldLink RX3 9 "GaugeBlocks$State" "nominal" "[I", Cond.methodLink RX4 266 yJ6_bitCount_0f7a4, Cond.static yJ6_bitCount_0f7a4, Cond.initialized RJ6, Cond.code yJ6_bitCount_0f7a4 cJ6_bitCount_0f7a4 1 (some .int), Cond.constant RJ6 265 (1431655765)]
def wsL_isOld_r3 : List Cond := [Cond.constant RJ6 266 (858993459), Cond.constant RJ6 267 (252645135)]
def wsL_isOld : List Cond := .code yL_isOld cL_isOld 11 (some .boolean) :: ((wsL_isOld_r1 ++ (wsL_isOld_r2 ++ wsL_isOld_r3)) ++ wsX40 ++ wsX30 ++ (vx_atS RX4 149 "java/lang/IllegalArgumentException" ["java/lang/RuntimeException", "java/lang/Exception"]).filter goodWord)
def wsL_nearest : List Cond := .code yL_nearest cL_nearest 6 (some .int) :: ([.methodLink RL 31 yL_ones, .static yL_ones, .initialized RL, .code yL_ones cL_ones 3 (some .int), .methodLink RL 34 yL_sum, .static yL_sum, .code yL_sum cL_sum 4 (some .int), .methodLink RL 9 yL_size, .static yL_size, .code yL_size cL_size 1 (some .int)])
def wsL_areBlocks_r1 : List Cond := [Cond.methodLink RL 43 yX4_count, Cond.instanceMethod yX4_count, Cond.selects RX4 yX4_count yX4_count, Cond.initialized RX4, Cond.code yX4_count cX4_count 2 (some .int), Cond.classLink RX4 145 "java/lang/IllegalArgumentException", Cond.initialized "java/lang/IllegalArgumentException", Cond.fieldLink RX4 12 "GaugeBlocks" "state" "LGaugeBlocks$State;", Cond.fieldLink RX4 68 "GaugeBlocks$State" "blocks" "I", Cond.fieldLink RX4 243 "GaugeBlocks$State" "minutes" "I", Cond.fieldLink RX4 246 "GaugeBlocks$State" "wrings" "I", Cond.fieldLink RX4 249 "GaugeBlocks$State" "takeOffs" "I", Cond.fieldLink RX4 255 "GaugeBlocks$State" "refusals" "I", Cond.fieldLink RX4 19 "GaugeBlocks" "saved" "LGaugeBlocks$SavedStates;", Cond.fieldLink RX4 173 "GaugeBlocks$SavedStates" "many" "I", Cond.fieldLink RX4 30 "GaugeBlocks" "text" "LGaugeBlocks$OrderText;", Cond.fieldLink RX4 131 "GaugeBlocks$OrderText" "length" "I", Cond.methodLink RX4 209 yX3_blocksIn, Cond.instanceMethod yX3_blocksIn, Cond.selects RX3 yX3_blocksIn yX3_blocksIn, Cond.initialized RX3, Cond.code yX3_blocksIn cX3_blocksIn 4 (some .int), Cond.fieldLink RX3 50 "GaugeBlocks$State" "blocks" "I", Cond.fieldLink RX3 24 "GaugeBlocks$State" "stack" "[I"]
def wsL_areBlocks_r2 : List Cond := [Cond.methodLink RX4 252 yX3_wearOfAll, Cond.instanceMethod yX3_wearOfAll, Cond.selects RX3 yX3_wearOfAll yX3_wearOfAll, Cond.code yX3_wearOfAll cX3_wearOfAll 3 (some .int), Cond.fieldLink RX3 18 "GaugeBlocks$State" "wear" "[I", Cond.methodLink RX4 258 yX3_blocksOfGrade, Cond.instanceMethod yX3_blocksOfGrade, Cond.selects RX3 yX3_blocksOfGrade yX3_blocksOfGrade, Cond.code yX3_blocksOfGrade cX3_blocksOfGrade 4 (some .int), Cond.methodLink RX3 103 yX3_gradeOf, Cond.instanceMethod yX3_gradeOf, Cond.selects RX3 yX3_gradeOf yX3_gradeOf, Cond.code yX3_gradeOf cX3_gradeOf 3 (some .int), Cond.methodLink RX3 83 yX3_sizeOfError, Cond.instanceMethod yX3_sizeOfError, Cond.selects RX3 yX3_sizeOfError yX3_sizeOfError, Cond.code yX3_sizeOfError cX3_sizeOfError 2 (some .int), Cond.methodLink RX3 78 Lib.Math.abs.name, Cond.static Lib.Math.abs.name, Cond.initialized "java/lang/Math", Cond.code Lib.Math.abs.name Lib.Math.abs.code 1 (some .int), Cond.methodLink RX3 74 yX3_errorOf, Cond.instanceMethod yX3_errorOf, Cond.selects RX3 yX3_errorOf yX3_errorOf]
def wsL_areBlocks_r3 : List Cond := [Cond.code yX3_errorOf cX3_errorOf 2 (some .int), Cond.fieldLink RX3 15 "GaugeBlocks$State" "deviation" "[I", Cond.methodLink RL 15 yL_where, Cond.static yL_where, Cond.initialized RL, Cond.code yL_where cL_where 5 (some .int), Cond.methodLink RL 46 yX4_blockOf, Cond.instanceMethod yX4_blockOf, Cond.selects RX4 yX4_blockOf yX4_blockOf, Cond.code yX4_blockOf cX4_blockOf 3 (some .int), Cond.fieldLink RX4 186 "GaugeBlocks$State" "nominal" "[I", Cond.fieldLink RX4 192 "GaugeBlocks$State" "wear" "[I", Cond.fieldLink RX4 83 "GaugeBlocks$State" "warmth" "[I", Cond.fieldLink RX4 198 "GaugeBlocks$State" "stack" "[I", Cond.fieldLink RX4 201 "GaugeBlocks$State" "place" "[I", Cond.fieldLink RX4 204 "GaugeBlocks$State" "timesWrung" "[I", Cond.methodLink RX4 58 yX4_checkBlock, Cond.instanceMethod yX4_checkBlock, Cond.selects RX4 yX4_checkBlock yX4_checkBlock, Cond.code yX4_checkBlock cX4_checkBlock 2 none, Cond.classLink RX4 288 "java/lang/IndexOutOfBoundsException", Cond.initialized "java/lang/IndexOutOfBoundsException", Cond.methodLink RX4 170 yX3_hasBlock, Cond.instanceMethod yX3_hasBlock]
def wsL_areBlocks_r4 : List Cond := [Cond.selects RX3 yX3_hasBlock yX3_hasBlock, Cond.code yX3_hasBlock cX3_hasBlock 2 (some .boolean), Cond.methodLink RX4 189 yX3_errorOf, Cond.methodLink RX4 75 yX3_gradeOf, Cond.methodLink RX4 195 yX3_trueLengthOf, Cond.instanceMethod yX3_trueLengthOf, Cond.selects RX3 yX3_trueLengthOf yX3_trueLengthOf, Cond.code yX3_trueLengthOf cX3_trueLengthOf 4 (some .int), Cond.fieldLink RX3 21 "GaugeBlocks$State" "warmth" "[I", Cond.fieldLink RX3 9 "GaugeBlocks$State" "nominal" "[I", Cond.methodLink RX3 93 yX3_cooled, Cond.static yX3_cooled, Cond.code yX3_cooled cX3_cooled 4 (some .int), Cond.methodLink RL 19 yL_grade, Cond.static yL_grade, Cond.code yL_grade cL_grade 4 (some .int), Cond.methodLink RL 9 yL_size, Cond.static yL_size, Cond.code yL_size cL_size 1 (some .int), Cond.methodLink RL 49 yL_length, Cond.static yL_length, Cond.code yL_length cL_length 6 (some .int), Cond.methodLink RL 53 yL_cool, Cond.static yL_cool]
def wsL_areBlocks_r5 : List Cond := [Cond.code yL_cool cL_cool 4 (some .int), Cond.methodLink RL 56 yX4_coolIn, Cond.instanceMethod yX4_coolIn, Cond.selects RX4 yX4_coolIn yX4_coolIn, Cond.code yX4_coolIn cX4_coolIn 2 (some .int), Cond.methodLink RX4 277 yX3_minutesUntilCool, Cond.instanceMethod yX3_minutesUntilCool, Cond.selects RX3 yX3_minutesUntilCool yX3_minutesUntilCool, Cond.code yX3_minutesUntilCool cX3_minutesUntilCool 4 (some .int), Cond.fieldLink RX3 41 "GaugeBlocks$State" "settings" "[I", Cond.methodLink RL 59 yL_free, Cond.static yL_free, Cond.code yL_free cL_free 4 (some .int), Cond.methodLink RL 63 yX4_setting, Cond.instanceMethod yX4_setting, Cond.selects RX4 yX4_setting yX4_setting, Cond.code yX4_setting cX4_setting 2 (some .int), Cond.fieldLink RX4 100 "GaugeBlocks$State" "settings" "[I", Cond.methodLink RX4 94 yX4_checkSetting, Cond.static yX4_checkSetting, Cond.code yX4_checkSetting cX4_checkSetting 1 none, Cond.methodLink RL 66 yX4_meanError, Cond.instanceMethod yX4_meanError, Cond.selects RX4 yX4_meanError yX4_meanError]
def wsL_areBlocks_r6 : List Cond := [Cond.code yX4_meanError cX4_meanError 1 (some .double), Cond.methodLink RX4 280 yX3_sizesOfErrors, Cond.instanceMethod yX3_sizesOfErrors, Cond.selects RX3 yX3_sizesOfErrors yX3_sizesOfErrors, Cond.code yX3_sizesOfErrors cX3_sizesOfErrors 3 (some .int)]
def wsL_areBlocks : List Cond := .code yL_areBlocks cL_areBlocks 15 (some .boolean) :: ((wsL_areBlocks_r1 ++ (wsL_areBlocks_r2 ++ (wsL_areBlocks_r3 ++ (wsL_areBlocks_r4 ++ (wsL_areBlocks_r5 ++ wsL_areBlocks_r6))))) ++ wsX40 ++ wsX30 ++ wsX20 ++ wsX10 ++ (vx_atS RX4 149 "java/lang/IllegalArgumentException" ["java/lang/RuntimeException", "java/lang/Exception"]).filter goodWord ++ (vx_atS RX4 292 "java/lang/IndexOutOfBoundsException" ["java/lang/RuntimeException", "java/lang/Exception"]).filter goodWord)
def wsL_areStacks_r1 : List Cond := [Cond.methodLink RL 49 yL_length, Cond.static yL_length, Cond.initialized RL, Cond.code yL_length cL_length 6 (some .int), Cond.methodLink RL 53 yL_cool, Cond.static yL_cool, Cond.code yL_cool cL_cool 4 (some .int), Cond.methodLink RL 19 yL_grade, Cond.static yL_grade, Cond.code yL_grade cL_grade 4 (some .int), Cond.methodLink RL 9 yL_size, Cond.static yL_size, Cond.code yL_size cL_size 1 (some .int), Cond.methodLink RL 70 yX4_stackOf, Cond.instanceMethod yX4_stackOf, Cond.selects RX4 yX4_stackOf yX4_stackOf, Cond.initialized RX4, Cond.code yX4_stackOf cX4_stackOf 3 (some .int), Cond.classLink RX4 145 "java/lang/IllegalArgumentException", Cond.initialized "java/lang/IllegalArgumentException", Cond.fieldLink RX4 12 "GaugeBlocks" "state" "LGaugeBlocks$State;", Cond.methodLink RX4 103 yX4_checkStack, Cond.static yX4_checkStack, Cond.code yX4_checkStack cX4_checkStack 1 none]
def wsL_areStacks_r2 : List Cond := [Cond.classLink RX4 288 "java/lang/IndexOutOfBoundsException", Cond.initialized "java/lang/IndexOutOfBoundsException", Cond.methodLink RX4 109 yX3_heightOf, Cond.instanceMethod yX3_heightOf, Cond.selects RX3 yX3_heightOf yX3_heightOf, Cond.initialized RX3, Cond.code yX3_heightOf cX3_heightOf 2 (some .int), Cond.methodLink RX3 125 yX3_blocksIn, Cond.instanceMethod yX3_blocksIn, Cond.selects RX3 yX3_blocksIn yX3_blocksIn, Cond.code yX3_blocksIn cX3_blocksIn 4 (some .int), Cond.fieldLink RX3 50 "GaugeBlocks$State" "blocks" "I", Cond.fieldLink RX3 24 "GaugeBlocks$State" "stack" "[I", Cond.methodLink RX3 128 yJ6_bitCount_0f7a4, Cond.static yJ6_bitCount_0f7a4, Cond.initialized RJ6, Cond.code yJ6_bitCount_0f7a4 cJ6_bitCount_0f7a4 1 (some .int), Cond.constant RJ6 265 (1431655765), Cond.constant RJ6 266 (858993459), Cond.constant RJ6 267 (252645135), Cond.methodLink RX4 209 yX3_blocksIn, Cond.methodLink RX4 212 yX3_nominalOfSet, Cond.instanceMethod yX3_nominalOfSet, Cond.selects RX3 yX3_nominalOfSet yX3_nominalOfSet]
def wsL_areStacks_r3 : List Cond := [Cond.code yX3_nominalOfSet cX3_nominalOfSet 4 (some .int), Cond.fieldLink RX3 9 "GaugeBlocks$State" "nominal" "[I", Cond.methodLink RX4 215 yX3_trueLengthOfStack, Cond.instanceMethod yX3_trueLengthOfStack, Cond.selects RX3 yX3_trueLengthOfStack yX3_trueLengthOfStack, Cond.code yX3_trueLengthOfStack cX3_trueLengthOfStack 6 (some .int), Cond.fieldLink RX3 41 "GaugeBlocks$State" "settings" "[I", Cond.methodLink RX3 133 yX3_trueLengthOf, Cond.instanceMethod yX3_trueLengthOf, Cond.selects RX3 yX3_trueLengthOf yX3_trueLengthOf, Cond.code yX3_trueLengthOf cX3_trueLengthOf 4 (some .int), Cond.fieldLink RX3 21 "GaugeBlocks$State" "warmth" "[I", Cond.fieldLink RX3 15 "GaugeBlocks$State" "deviation" "[I", Cond.fieldLink RX3 18 "GaugeBlocks$State" "wear" "[I", Cond.methodLink RX3 93 yX3_cooled, Cond.static yX3_cooled, Cond.code yX3_cooled cX3_cooled 4 (some .int), Cond.methodLink RX4 218 yX3_blockAt, Cond.instanceMethod yX3_blockAt, Cond.selects RX3 yX3_blockAt yX3_blockAt, Cond.code yX3_blockAt cX3_blockAt 4 (some .int), Cond.fieldLink RX3 27 "GaugeBlocks$State" "place" "[I", Cond.methodLink RX4 221 yX3_greatestGradeIn, Cond.instanceMethod yX3_greatestGradeIn]
def wsL_areStacks_r4 : List Cond := [Cond.selects RX3 yX3_greatestGradeIn yX3_greatestGradeIn, Cond.code yX3_greatestGradeIn cX3_greatestGradeIn 4 (some .int), Cond.methodLink RX3 86 Lib.Math.max.name, Cond.static Lib.Math.max.name, Cond.initialized "java/lang/Math", Cond.code Lib.Math.max.name Lib.Math.max.code 2 (some .int), Cond.methodLink RX3 103 yX3_gradeOf, Cond.instanceMethod yX3_gradeOf, Cond.selects RX3 yX3_gradeOf yX3_gradeOf, Cond.code yX3_gradeOf cX3_gradeOf 3 (some .int), Cond.methodLink RX3 83 yX3_sizeOfError, Cond.instanceMethod yX3_sizeOfError, Cond.selects RX3 yX3_sizeOfError yX3_sizeOfError, Cond.code yX3_sizeOfError cX3_sizeOfError 2 (some .int), Cond.methodLink RX3 78 Lib.Math.abs.name, Cond.static Lib.Math.abs.name, Cond.code Lib.Math.abs.name Lib.Math.abs.code 1 (some .int), Cond.methodLink RX3 74 yX3_errorOf, Cond.instanceMethod yX3_errorOf, Cond.selects RX3 yX3_errorOf yX3_errorOf, Cond.code yX3_errorOf cX3_errorOf 2 (some .int), Cond.methodLink RX4 224 yX3_sizeOfDifference, Cond.instanceMethod yX3_sizeOfDifference, Cond.selects RX3 yX3_sizeOfDifference yX3_sizeOfDifference]
def wsL_areStacks_r5 : List Cond := [Cond.code yX3_sizeOfDifference cX3_sizeOfDifference 2 (some .int), Cond.methodLink RX3 136 yX3_trueLengthOfStack, Cond.methodLink RX3 139 yX3_nominalOfSet, Cond.methodLink RL 73 yX4_lengthIn, Cond.instanceMethod yX4_lengthIn, Cond.selects RX4 yX4_lengthIn yX4_lengthIn, Cond.code yX4_lengthIn cX4_lengthIn 3 (some .int), Cond.methodLink RX4 35 yX4_checkRange, Cond.static yX4_checkRange, Cond.code yX4_checkRange cX4_checkRange 3 none]
def wsL_areStacks : List Cond := .code yL_areStacks cL_areStacks 18 (some .boolean) :: ((wsL_areStacks_r1 ++ (wsL_areStacks_r2 ++ (wsL_areStacks_r3 ++ (wsL_areStacks_r4 ++ wsL_areStacks_r5)))) ++ wsX40 ++ wsX30 ++ (vx_atS RX4 149 "java/lang/IllegalArgumentException" ["java/lang/RuntimeException", "java/lang/Exception"]).filter goodWord ++ (vx_atS RX4 292 "java/lang/IndexOutOfBoundsException" ["java/lang/RuntimeException", "java/lang/Exception"]).filter goodWord)
def wsL_key : List Cond := .code yL_key cL_key 6 (some .int) :: ([.constant RL 76 (1000000), .methodLink RL 9 yL_size, .static yL_size, .initialized RL, .code yL_size cL_size 1 (some .int)])
def wsL_areRanked_r1 : List Cond := [Cond.constant RL 77 (2000000), Cond.constant RL 76 (1000000), Cond.methodLink RL 78 yX4_ranked, Cond.instanceMethod yX4_ranked, Cond.selects RX4 yX4_ranked yX4_ranked, Cond.initialized RX4, Cond.code yX4_ranked cX4_ranked 3 (some .int), Cond.fieldLink RX4 12 "GaugeBlocks" "state" "LGaugeBlocks$State;", Cond.methodLink RX4 35 yX4_checkRange, Cond.static yX4_checkRange, Cond.code yX4_checkRange cX4_checkRange 3 none, Cond.classLink RX4 145 "java/lang/IllegalArgumentException", Cond.initialized "java/lang/IllegalArgumentException", Cond.methodLink RX4 229 yX4_checkLeast, Cond.static yX4_checkLeast, Cond.code yX4_checkLeast cX4_checkLeast 2 none, Cond.methodLink RX4 232 yX0_blockOfRank, Cond.static yX0_blockOfRank, Cond.initialized RX0, Cond.code yX0_blockOfRank cX0_blockOfRank 4 (some .int), Cond.fieldLink RX0 33 "GaugeBlocks$State" "blocks" "I", Cond.methodLink RX0 54 yX0_manyBefore, Cond.static yX0_manyBefore, Cond.code yX0_manyBefore cX0_manyBefore 6 (some .int)]
def wsL_areRanked_r2 : List Cond := [Cond.methodLink RX0 57 yX0_sortKey, Cond.static yX0_sortKey, Cond.code yX0_sortKey cX0_sortKey 3 (some .int), Cond.fieldLink RX0 60 "GaugeBlocks$State" "warmth" "[I", Cond.fieldLink RX0 15 "GaugeBlocks$State" "nominal" "[I", Cond.methodLink RX0 63 yX3_sizeOfError, Cond.instanceMethod yX3_sizeOfError, Cond.selects RX3 yX3_sizeOfError yX3_sizeOfError, Cond.initialized RX3, Cond.code yX3_sizeOfError cX3_sizeOfError 2 (some .int), Cond.methodLink RX3 78 Lib.Math.abs.name, Cond.static Lib.Math.abs.name, Cond.initialized "java/lang/Math", Cond.code Lib.Math.abs.name Lib.Math.abs.code 1 (some .int), Cond.methodLink RX3 74 yX3_errorOf, Cond.instanceMethod yX3_errorOf, Cond.selects RX3 yX3_errorOf yX3_errorOf, Cond.code yX3_errorOf cX3_errorOf 2 (some .int), Cond.fieldLink RX3 15 "GaugeBlocks$State" "deviation" "[I", Cond.fieldLink RX3 18 "GaugeBlocks$State" "wear" "[I", Cond.methodLink RL 81 yL_key, Cond.static yL_key, Cond.initialized RL, Cond.code yL_key cL_key 6 (some .int)]
def wsL_areRanked_r3 : List Cond := [Cond.methodLink RL 9 yL_size, Cond.static yL_size, Cond.code yL_size cL_size 1 (some .int), Cond.methodLink RL 59 yL_free, Cond.static yL_free, Cond.code yL_free cL_free 4 (some .int), Cond.methodLink RL 15 yL_where, Cond.static yL_where, Cond.code yL_where cL_where 5 (some .int), Cond.methodLink RL 85 yX4_lengths, Cond.instanceMethod yX4_lengths, Cond.selects RX4 yX4_lengths yX4_lengths, Cond.code yX4_lengths cX4_lengths 2 (some .int), Cond.methodLink RX4 236 yX0_differentLengths, Cond.static yX0_differentLengths, Cond.code yX0_differentLengths cX0_differentLengths 2 (some .int), Cond.methodLink RX0 66 yX0_lengthOfRank, Cond.static yX0_lengthOfRank, Cond.code yX0_lengthOfRank cX0_lengthOfRank 4 (some .int), Cond.methodLink RX0 70 yX0_shortestAbove, Cond.static yX0_shortestAbove, Cond.code yX0_shortestAbove cX0_shortestAbove 5 (some .int), Cond.methodLink RX0 37 yX3_isFree, Cond.instanceMethod yX3_isFree]
def wsL_areRanked_r4 : List Cond := [Cond.selects RX3 yX3_isFree yX3_isFree, Cond.code yX3_isFree cX3_isFree 2 (some .boolean), Cond.fieldLink RX3 24 "GaugeBlocks$State" "stack" "[I", Cond.methodLink RX4 240 yX0_lengthOfRank]
def wsL_areRanked : List Cond := .code yL_areRanked cL_areRanked 17 (some .boolean) :: ((wsL_areRanked_r1 ++ (wsL_areRanked_r2 ++ (wsL_areRanked_r3 ++ wsL_areRanked_r4))) ++ wsX40 ++ wsX30 ++ (vx_atS RX4 149 "java/lang/IllegalArgumentException" ["java/lang/RuntimeException", "java/lang/Exception"]).filter goodWord)
def wsL_adds_r1 : List Cond := [Cond.constant RL 91 (99501), Cond.methodLink RL 43 yX4_count, Cond.instanceMethod yX4_count, Cond.selects RX4 yX4_count yX4_count, Cond.initialized RX4, Cond.code yX4_count cX4_count 2 (some .int), Cond.classLink RX4 145 "java/lang/IllegalArgumentException", Cond.initialized "java/lang/IllegalArgumentException", Cond.fieldLink RX4 12 "GaugeBlocks" "state" "LGaugeBlocks$State;", Cond.fieldLink RX4 68 "GaugeBlocks$State" "blocks" "I", Cond.fieldLink RX4 243 "GaugeBlocks$State" "minutes" "I", Cond.fieldLink RX4 246 "GaugeBlocks$State" "wrings" "I", Cond.fieldLink RX4 249 "GaugeBlocks$State" "takeOffs" "I", Cond.fieldLink RX4 255 "GaugeBlocks$State" "refusals" "I", Cond.fieldLink RX4 19 "GaugeBlocks" "saved" "LGaugeBlocks$SavedStates;", Cond.fieldLink RX4 173 "GaugeBlocks$SavedStates" "many" "I", Cond.fieldLink RX4 30 "GaugeBlocks" "text" "LGaugeBlocks$OrderText;", Cond.fieldLink RX4 131 "GaugeBlocks$OrderText" "length" "I", Cond.methodLink RX4 209 yX3_blocksIn, Cond.instanceMethod yX3_blocksIn, Cond.selects RX3 yX3_blocksIn yX3_blocksIn, Cond.initialized RX3, Cond.code yX3_blocksIn cX3_blocksIn 4 (some .int), Cond.fieldLink RX3 50 "GaugeBlocks$State" "blocks" "I"]
def wsL_adds_r2 : List Cond := [Cond.fieldLink RX3 24 "GaugeBlocks$State" "stack" "[I", Cond.methodLink RX4 252 yX3_wearOfAll, Cond.instanceMethod yX3_wearOfAll, Cond.selects RX3 yX3_wearOfAll yX3_wearOfAll, Cond.code yX3_wearOfAll cX3_wearOfAll 3 (some .int), Cond.fieldLink RX3 18 "GaugeBlocks$State" "wear" "[I", Cond.methodLink RX4 258 yX3_blocksOfGrade, Cond.instanceMethod yX3_blocksOfGrade, Cond.selects RX3 yX3_blocksOfGrade yX3_blocksOfGrade, Cond.code yX3_blocksOfGrade cX3_blocksOfGrade 4 (some .int), Cond.methodLink RX3 103 yX3_gradeOf, Cond.instanceMethod yX3_gradeOf, Cond.selects RX3 yX3_gradeOf yX3_gradeOf, Cond.code yX3_gradeOf cX3_gradeOf 3 (some .int), Cond.methodLink RX3 83 yX3_sizeOfError, Cond.instanceMethod yX3_sizeOfError, Cond.selects RX3 yX3_sizeOfError yX3_sizeOfError, Cond.code yX3_sizeOfError cX3_sizeOfError 2 (some .int), Cond.methodLink RX3 78 Lib.Math.abs.name, Cond.static Lib.Math.abs.name, Cond.initialized "java/lang/Math", Cond.code Lib.Math.abs.name Lib.Math.abs.code 1 (some .int), Cond.methodLink RX3 74 yX3_errorOf, Cond.instanceMethod yX3_errorOf]
def wsL_adds_r3 : List Cond := [Cond.selects RX3 yX3_errorOf yX3_errorOf, Cond.code yX3_errorOf cX3_errorOf 2 (some .int), Cond.fieldLink RX3 15 "GaugeBlocks$State" "deviation" "[I", Cond.methodLink RL 88 yL_low, Cond.static yL_low, Cond.initialized RL, Cond.code yL_low cL_low 2 (some .int), Cond.constant RL 8 (2147483647), Cond.methodLink RL 92 yX4_block, Cond.instanceMethod yX4_block, Cond.selects RX4 yX4_block yX4_block, Cond.code yX4_block cX4_block 3 (some .int), Cond.classLink RX4 43 "java/lang/IllegalStateException", Cond.initialized "java/lang/IllegalStateException", Cond.constant RX4 34 (100000), Cond.methodLink RX4 35 yX4_checkRange, Cond.static yX4_checkRange, Cond.code yX4_checkRange cX4_checkRange 3 none, Cond.methodLink RX4 39 yX3_isFull, Cond.instanceMethod yX3_isFull, Cond.selects RX3 yX3_isFull yX3_isFull, Cond.code yX3_isFull cX3_isFull 1 (some .boolean), Cond.methodLink RX4 50 yX2_push, Cond.instanceMethod yX2_push]
def wsL_adds_r4 : List Cond := [Cond.selects RX2 yX2_push yX2_push, Cond.initialized RX2, Cond.code yX2_push cX2_push 2 none, Cond.fieldLink RX2 18 "GaugeBlocks$SavedStates" "many" "I", Cond.fieldLink RX2 11 "GaugeBlocks$SavedStates" "states" "[LGaugeBlocks$State;", Cond.methodLink RX2 22 yX2_dropOldest, Cond.instanceMethod yX2_dropOldest, Cond.selects RX2 yX2_dropOldest yX2_dropOldest, Cond.code yX2_dropOldest cX2_dropOldest 3 none, Cond.methodLink RX2 25 yX3_copyFrom, Cond.instanceMethod yX3_copyFrom, Cond.selects RX3 yX3_copyFrom yX3_copyFrom, Cond.code yX3_copyFrom cX3_copyFrom 2 none, Cond.fieldLink RX3 9 "GaugeBlocks$State" "nominal" "[I", Cond.methodLink RX3 44 arraycopyName, Cond.native arraycopyName, Cond.static arraycopyName, Cond.initialized "java/lang/System", Cond.fieldLink RX3 21 "GaugeBlocks$State" "warmth" "[I", Cond.fieldLink RX3 27 "GaugeBlocks$State" "place" "[I", Cond.fieldLink RX3 30 "GaugeBlocks$State" "timesWrung" "[I", Cond.fieldLink RX3 41 "GaugeBlocks$State" "settings" "[I", Cond.fieldLink RX3 54 "GaugeBlocks$State" "minutes" "I", Cond.fieldLink RX3 57 "GaugeBlocks$State" "wrings" "I"]
def wsL_adds_r5 : List Cond := [Cond.fieldLink RX3 60 "GaugeBlocks$State" "takeOffs" "I", Cond.fieldLink RX3 63 "GaugeBlocks$State" "refusals" "I", Cond.methodLink RX4 54 yX3_addBlock, Cond.instanceMethod yX3_addBlock, Cond.selects RX3 yX3_addBlock yX3_addBlock, Cond.code yX3_addBlock cX3_addBlock 4 (some .int), Cond.methodLink RX3 66 yX3_isFull]
def wsL_adds : List Cond := .code yL_adds cL_adds 9 (some .boolean) :: ((wsL_adds_r1 ++ (wsL_adds_r2 ++ (wsL_adds_r3 ++ (wsL_adds_r4 ++ wsL_adds_r5)))) ++ wsX40 ++ wsX30 ++ wsX20 ++ wsX10 ++ (vx_atS RX4 149 "java/lang/IllegalArgumentException" ["java/lang/RuntimeException", "java/lang/Exception"]).filter goodWord ++ (vx_atS RX4 47 "java/lang/IllegalStateException" ["java/lang/RuntimeException", "java/lang/Exception"]).filter goodWord)
def wsL_moves : List Cond := .code yL_moves cL_moves 3 none :: ([])
def wsL_discards_r1 : List Cond := [Cond.methodLink RL 15 yL_where, Cond.static yL_where, Cond.initialized RL, Cond.code yL_where cL_where 5 (some .int), Cond.methodLink RL 43 yX4_count, Cond.instanceMethod yX4_count, Cond.selects RX4 yX4_count yX4_count, Cond.initialized RX4, Cond.code yX4_count cX4_count 2 (some .int), Cond.classLink RX4 145 "java/lang/IllegalArgumentException", Cond.initialized "java/lang/IllegalArgumentException", Cond.fieldLink RX4 12 "GaugeBlocks" "state" "LGaugeBlocks$State;", Cond.fieldLink RX4 68 "GaugeBlocks$State" "blocks" "I", Cond.fieldLink RX4 243 "GaugeBlocks$State" "minutes" "I", Cond.fieldLink RX4 246 "GaugeBlocks$State" "wrings" "I", Cond.fieldLink RX4 249 "GaugeBlocks$State" "takeOffs" "I", Cond.fieldLink RX4 255 "GaugeBlocks$State" "refusals" "I", Cond.fieldLink RX4 19 "GaugeBlocks" "saved" "LGaugeBlocks$SavedStates;", Cond.fieldLink RX4 173 "GaugeBlocks$SavedStates" "many" "I", Cond.fieldLink RX4 30 "GaugeBlocks" "text" "LGaugeBlocks$OrderText;", Cond.fieldLink RX4 131 "GaugeBlocks$OrderText" "length" "I", Cond.methodLink RX4 209 yX3_blocksIn, Cond.instanceMethod yX3_blocksIn, Cond.selects RX3 yX3_blocksIn yX3_blocksIn]
def wsL_discards_r2 : List Cond := [Cond.initialized RX3, Cond.code yX3_blocksIn cX3_blocksIn 4 (some .int), Cond.fieldLink RX3 50 "GaugeBlocks$State" "blocks" "I", Cond.fieldLink RX3 24 "GaugeBlocks$State" "stack" "[I", Cond.methodLink RX4 252 yX3_wearOfAll, Cond.instanceMethod yX3_wearOfAll, Cond.selects RX3 yX3_wearOfAll yX3_wearOfAll, Cond.code yX3_wearOfAll cX3_wearOfAll 3 (some .int), Cond.fieldLink RX3 18 "GaugeBlocks$State" "wear" "[I", Cond.methodLink RX4 258 yX3_blocksOfGrade, Cond.instanceMethod yX3_blocksOfGrade, Cond.selects RX3 yX3_blocksOfGrade yX3_blocksOfGrade, Cond.code yX3_blocksOfGrade cX3_blocksOfGrade 4 (some .int), Cond.methodLink RX3 103 yX3_gradeOf, Cond.instanceMethod yX3_gradeOf, Cond.selects RX3 yX3_gradeOf yX3_gradeOf, Cond.code yX3_gradeOf cX3_gradeOf 3 (some .int), Cond.methodLink RX3 83 yX3_sizeOfError, Cond.instanceMethod yX3_sizeOfError, Cond.selects RX3 yX3_sizeOfError yX3_sizeOfError, Cond.code yX3_sizeOfError cX3_sizeOfError 2 (some .int), Cond.methodLink RX3 78 Lib.Math.abs.name, Cond.static Lib.Math.abs.name, Cond.initialized "java/lang/Math"]
def wsL_discards_r3 : List Cond := [Cond.code Lib.Math.abs.name Lib.Math.abs.code 1 (some .int), Cond.methodLink RX3 74 yX3_errorOf, Cond.instanceMethod yX3_errorOf, Cond.selects RX3 yX3_errorOf yX3_errorOf, Cond.code yX3_errorOf cX3_errorOf 2 (some .int), Cond.fieldLink RX3 15 "GaugeBlocks$State" "deviation" "[I", Cond.methodLink RL 95 yL_moves, Cond.static yL_moves, Cond.code yL_moves cL_moves 3 none, Cond.methodLink RL 99 yX4_discard, Cond.instanceMethod yX4_discard, Cond.selects RX4 yX4_discard yX4_discard, Cond.code yX4_discard cX4_discard 2 (some .int), Cond.methodLink RX4 58 yX4_checkBlock, Cond.instanceMethod yX4_checkBlock, Cond.selects RX4 yX4_checkBlock yX4_checkBlock, Cond.code yX4_checkBlock cX4_checkBlock 2 none, Cond.classLink RX4 288 "java/lang/IndexOutOfBoundsException", Cond.initialized "java/lang/IndexOutOfBoundsException", Cond.methodLink RX4 170 yX3_hasBlock, Cond.instanceMethod yX3_hasBlock, Cond.selects RX3 yX3_hasBlock yX3_hasBlock, Cond.code yX3_hasBlock cX3_hasBlock 2 (some .boolean), Cond.methodLink RX4 62 yX4_checkFree]
def wsL_discards_r4 : List Cond := [Cond.instanceMethod yX4_checkFree, Cond.selects RX4 yX4_checkFree yX4_checkFree, Cond.code yX4_checkFree cX4_checkFree 2 none, Cond.classLink RX4 43 "java/lang/IllegalStateException", Cond.initialized "java/lang/IllegalStateException", Cond.methodLink RX4 297 yX3_isFree, Cond.instanceMethod yX3_isFree, Cond.selects RX3 yX3_isFree yX3_isFree, Cond.code yX3_isFree cX3_isFree 2 (some .boolean), Cond.methodLink RX4 50 yX2_push, Cond.instanceMethod yX2_push, Cond.selects RX2 yX2_push yX2_push, Cond.initialized RX2, Cond.code yX2_push cX2_push 2 none, Cond.fieldLink RX2 18 "GaugeBlocks$SavedStates" "many" "I", Cond.fieldLink RX2 11 "GaugeBlocks$SavedStates" "states" "[LGaugeBlocks$State;", Cond.methodLink RX2 22 yX2_dropOldest, Cond.instanceMethod yX2_dropOldest, Cond.selects RX2 yX2_dropOldest yX2_dropOldest, Cond.code yX2_dropOldest cX2_dropOldest 3 none, Cond.methodLink RX2 25 yX3_copyFrom, Cond.instanceMethod yX3_copyFrom, Cond.selects RX3 yX3_copyFrom yX3_copyFrom, Cond.code yX3_copyFrom cX3_copyFrom 2 none]
def wsL_discards_r5 : List Cond := [Cond.fieldLink RX3 9 "GaugeBlocks$State" "nominal" "[I", Cond.methodLink RX3 44 arraycopyName, Cond.native arraycopyName, Cond.static arraycopyName, Cond.initialized "java/lang/System", Cond.fieldLink RX3 21 "GaugeBlocks$State" "warmth" "[I", Cond.fieldLink RX3 27 "GaugeBlocks$State" "place" "[I", Cond.fieldLink RX3 30 "GaugeBlocks$State" "timesWrung" "[I", Cond.fieldLink RX3 41 "GaugeBlocks$State" "settings" "[I", Cond.fieldLink RX3 54 "GaugeBlocks$State" "minutes" "I", Cond.fieldLink RX3 57 "GaugeBlocks$State" "wrings" "I", Cond.fieldLink RX3 60 "GaugeBlocks$State" "takeOffs" "I", Cond.fieldLink RX3 63 "GaugeBlocks$State" "refusals" "I", Cond.methodLink RX4 65 yX3_removeBlock, Cond.instanceMethod yX3_removeBlock, Cond.selects RX3 yX3_removeBlock yX3_removeBlock, Cond.code yX3_removeBlock cX3_removeBlock 2 none, Cond.methodLink RX3 70 yX3_closeGap, Cond.instanceMethod yX3_closeGap, Cond.selects RX3 yX3_closeGap yX3_closeGap, Cond.code yX3_closeGap cX3_closeGap 4 none]
def wsL_discards : List Cond := .code yL_discards cL_discards 10 (some .boolean) :: ((wsL_discards_r1 ++ (wsL_discards_r2 ++ (wsL_discards_r3 ++ (wsL_discards_r4 ++ wsL_discards_r5)))) ++ wsX40 ++ wsX30 ++ wsX20 ++ wsX10 ++ (vx_atS RX4 149 "java/lang/IllegalArgumentException" ["java/lang/RuntimeException", "java/lang/Exception"]).filter goodWord ++ (vx_atS RX4 292 "java/lang/IndexOutOfBoundsException" ["java/lang/RuntimeException", "java/lang/Exception"]).filter goodWord ++ (vx_atS RX4 47 "java/lang/IllegalStateException" ["java/lang/RuntimeException", "java/lang/Exception"]).filter goodWord)
def wsL_makes_r1 : List Cond := [Cond.methodLink RL 70 yX4_stackOf, Cond.instanceMethod yX4_stackOf, Cond.selects RX4 yX4_stackOf yX4_stackOf, Cond.initialized RX4, Cond.code yX4_stackOf cX4_stackOf 3 (some .int), Cond.classLink RX4 145 "java/lang/IllegalArgumentException", Cond.initialized "java/lang/IllegalArgumentException", Cond.fieldLink RX4 12 "GaugeBlocks" "state" "LGaugeBlocks$State;", Cond.methodLink RX4 103 yX4_checkStack, Cond.static yX4_checkStack, Cond.code yX4_checkStack cX4_checkStack 1 none, Cond.classLink RX4 288 "java/lang/IndexOutOfBoundsException", Cond.initialized "java/lang/IndexOutOfBoundsException", Cond.methodLink RX4 109 yX3_heightOf, Cond.instanceMethod yX3_heightOf, Cond.selects RX3 yX3_heightOf yX3_heightOf, Cond.initialized RX3, Cond.code yX3_heightOf cX3_heightOf 2 (some .int), Cond.methodLink RX3 125 yX3_blocksIn, Cond.instanceMethod yX3_blocksIn, Cond.selects RX3 yX3_blocksIn yX3_blocksIn, Cond.code yX3_blocksIn cX3_blocksIn 4 (some .int), Cond.fieldLink RX3 50 "GaugeBlocks$State" "blocks" "I", Cond.fieldLink RX3 24 "GaugeBlocks$State" "stack" "[I"]
def wsL_makes_r2 : List Cond := [Cond.methodLink RX3 128 yJ6_bitCount_0f7a4, Cond.static yJ6_bitCount_0f7a4, Cond.initialized RJ6, Cond.code yJ6_bitCount_0f7a4 cJ6_bitCount_0f7a4 1 (some .int), Cond.constant RJ6 265 (1431655765), Cond.constant RJ6 266 (858993459), Cond.constant RJ6 267 (252645135), Cond.methodLink RX4 209 yX3_blocksIn, Cond.methodLink RX4 212 yX3_nominalOfSet, Cond.instanceMethod yX3_nominalOfSet, Cond.selects RX3 yX3_nominalOfSet yX3_nominalOfSet, Cond.code yX3_nominalOfSet cX3_nominalOfSet 4 (some .int), Cond.fieldLink RX3 9 "GaugeBlocks$State" "nominal" "[I", Cond.methodLink RX4 215 yX3_trueLengthOfStack, Cond.instanceMethod yX3_trueLengthOfStack, Cond.selects RX3 yX3_trueLengthOfStack yX3_trueLengthOfStack, Cond.code yX3_trueLengthOfStack cX3_trueLengthOfStack 6 (some .int), Cond.fieldLink RX3 41 "GaugeBlocks$State" "settings" "[I", Cond.methodLink RX3 133 yX3_trueLengthOf, Cond.instanceMethod yX3_trueLengthOf, Cond.selects RX3 yX3_trueLengthOf yX3_trueLengthOf, Cond.code yX3_trueLengthOf cX3_trueLengthOf 4 (some .int), Cond.fieldLink RX3 21 "GaugeBlocks$State" "warmth" "[I", Cond.fieldLink RX3 15 "GaugeBlocks$State" "deviation" "[I"]
def wsL_makes_r3 : List Cond := [Cond.fieldLink RX3 18 "GaugeBlocks$State" "wear" "[I", Cond.methodLink RX3 93 yX3_cooled, Cond.static yX3_cooled, Cond.code yX3_cooled cX3_cooled 4 (some .int), Cond.methodLink RX4 218 yX3_blockAt, Cond.instanceMethod yX3_blockAt, Cond.selects RX3 yX3_blockAt yX3_blockAt, Cond.code yX3_blockAt cX3_blockAt 4 (some .int), Cond.fieldLink RX3 27 "GaugeBlocks$State" "place" "[I", Cond.methodLink RX4 221 yX3_greatestGradeIn, Cond.instanceMethod yX3_greatestGradeIn, Cond.selects RX3 yX3_greatestGradeIn yX3_greatestGradeIn, Cond.code yX3_greatestGradeIn cX3_greatestGradeIn 4 (some .int), Cond.methodLink RX3 86 Lib.Math.max.name, Cond.static Lib.Math.max.name, Cond.initialized "java/lang/Math", Cond.code Lib.Math.max.name Lib.Math.max.code 2 (some .int), Cond.methodLink RX3 103 yX3_gradeOf, Cond.instanceMethod yX3_gradeOf, Cond.selects RX3 yX3_gradeOf yX3_gradeOf, Cond.code yX3_gradeOf cX3_gradeOf 3 (some .int), Cond.methodLink RX3 83 yX3_sizeOfError, Cond.instanceMethod yX3_sizeOfError, Cond.selects RX3 yX3_sizeOfError yX3_sizeOfError]
def wsL_makes_r4 : List Cond := [Cond.code yX3_sizeOfError cX3_sizeOfError 2 (some .int), Cond.methodLink RX3 78 Lib.Math.abs.name, Cond.static Lib.Math.abs.name, Cond.code Lib.Math.abs.name Lib.Math.abs.code 1 (some .int), Cond.methodLink RX3 74 yX3_errorOf, Cond.instanceMethod yX3_errorOf, Cond.selects RX3 yX3_errorOf yX3_errorOf, Cond.code yX3_errorOf cX3_errorOf 2 (some .int), Cond.methodLink RX4 224 yX3_sizeOfDifference, Cond.instanceMethod yX3_sizeOfDifference, Cond.selects RX3 yX3_sizeOfDifference yX3_sizeOfDifference, Cond.code yX3_sizeOfDifference cX3_sizeOfDifference 2 (some .int), Cond.methodLink RX3 136 yX3_trueLengthOfStack, Cond.methodLink RX3 139 yX3_nominalOfSet, Cond.methodLink RL 59 yL_free, Cond.static yL_free, Cond.initialized RL, Cond.code yL_free cL_free 4 (some .int), Cond.methodLink RL 15 yL_where, Cond.static yL_where, Cond.code yL_where cL_where 5 (some .int), Cond.methodLink RL 102 yL_fewest, Cond.static yL_fewest, Cond.code yL_fewest cL_fewest 6 (some .int)]
def wsL_makes_r5 : List Cond := [Cond.methodLink RL 31 yL_ones, Cond.static yL_ones, Cond.code yL_ones cL_ones 3 (some .int), Cond.methodLink RL 34 yL_sum, Cond.static yL_sum, Cond.code yL_sum cL_sum 4 (some .int), Cond.methodLink RL 106 yL_wrings, Cond.static yL_wrings, Cond.code yL_wrings cL_wrings 9 (some .int), Cond.methodLink RL 23 yL_reason, Cond.static yL_reason, Cond.code yL_reason cL_reason 7 (some .int), Cond.methodLink RL 19 yL_grade, Cond.static yL_grade, Cond.code yL_grade cL_grade 4 (some .int), Cond.methodLink RL 9 yL_size, Cond.static yL_size, Cond.code yL_size cL_size 1 (some .int), Cond.methodLink RL 27 yL_rubs, Cond.static yL_rubs, Cond.code yL_rubs cL_rubs 7 none, Cond.methodLink RL 110 yX4_make, Cond.instanceMethod yX4_make, Cond.selects RX4 yX4_make yX4_make]
def wsL_makes_r6 : List Cond := [Cond.code yX4_make cX4_make 4 (some .int), Cond.classLink RX4 43 "java/lang/IllegalStateException", Cond.initialized "java/lang/IllegalStateException", Cond.fieldLink RX4 19 "GaugeBlocks" "saved" "LGaugeBlocks$SavedStates;", Cond.methodLink RX4 117 yX4_checkLength, Cond.static yX4_checkLength, Cond.code yX4_checkLength cX4_checkLength 1 none, Cond.constant RX4 287 (600000), Cond.methodLink RX4 35 yX4_checkRange, Cond.static yX4_checkRange, Cond.code yX4_checkRange cX4_checkRange 3 none, Cond.methodLink RX4 50 yX2_push, Cond.instanceMethod yX2_push, Cond.selects RX2 yX2_push yX2_push, Cond.initialized RX2, Cond.code yX2_push cX2_push 2 none, Cond.fieldLink RX2 18 "GaugeBlocks$SavedStates" "many" "I", Cond.fieldLink RX2 11 "GaugeBlocks$SavedStates" "states" "[LGaugeBlocks$State;", Cond.methodLink RX2 22 yX2_dropOldest, Cond.instanceMethod yX2_dropOldest, Cond.selects RX2 yX2_dropOldest yX2_dropOldest, Cond.code yX2_dropOldest cX2_dropOldest 3 none, Cond.methodLink RX2 25 yX3_copyFrom, Cond.instanceMethod yX3_copyFrom]
def wsL_makes_r7 : List Cond := [Cond.selects RX3 yX3_copyFrom yX3_copyFrom, Cond.code yX3_copyFrom cX3_copyFrom 2 none, Cond.methodLink RX3 44 arraycopyName, Cond.native arraycopyName, Cond.static arraycopyName, Cond.initialized "java/lang/System", Cond.fieldLink RX3 30 "GaugeBlocks$State" "timesWrung" "[I", Cond.fieldLink RX3 54 "GaugeBlocks$State" "minutes" "I", Cond.fieldLink RX3 57 "GaugeBlocks$State" "wrings" "I", Cond.fieldLink RX3 60 "GaugeBlocks$State" "takeOffs" "I", Cond.fieldLink RX3 63 "GaugeBlocks$State" "refusals" "I", Cond.methodLink RX4 122 yX0_fewestFor, Cond.static yX0_fewestFor, Cond.initialized RX0, Cond.code yX0_fewestFor cX0_fewestFor 5 (some .int), Cond.fieldLink RX0 15 "GaugeBlocks$State" "nominal" "[I", Cond.methodLink RX0 9 yX3_blocksIn, Cond.methodLink RX0 19 yX0_leastSet, Cond.static yX0_leastSet, Cond.code yX0_leastSet cX0_leastSet 8 (some .int), Cond.constant RX0 25 (100000), Cond.methodLink RX4 128 yX3_wringSet, Cond.instanceMethod yX3_wringSet, Cond.selects RX3 yX3_wringSet yX3_wringSet]
def wsL_makes_r8 : List Cond := [Cond.code yX3_wringSet cX3_wringSet 5 (some .int), Cond.methodLink RX3 113 yX3_tryToWring, Cond.instanceMethod yX3_tryToWring, Cond.selects RX3 yX3_tryToWring yX3_tryToWring, Cond.code yX3_tryToWring cX3_tryToWring 4 (some .int), Cond.methodLink RX3 106 yX3_reasonToRefuse, Cond.instanceMethod yX3_reasonToRefuse, Cond.selects RX3 yX3_reasonToRefuse yX3_reasonToRefuse, Cond.code yX3_reasonToRefuse cX3_reasonToRefuse 3 (some .int), Cond.methodLink RX3 96 yX3_isFree, Cond.instanceMethod yX3_isFree, Cond.selects RX3 yX3_isFree yX3_isFree, Cond.code yX3_isFree cX3_isFree 2 (some .boolean), Cond.methodLink RX3 100 yX3_heightOf, Cond.methodLink RX3 109 yX3_putOnTop, Cond.instanceMethod yX3_putOnTop, Cond.selects RX3 yX3_putOnTop yX3_putOnTop, Cond.code yX3_putOnTop cX3_putOnTop 4 none, Cond.methodLink RX3 116 yX3_blockAt, Cond.methodLink RX3 119 yX3_slide, Cond.instanceMethod yX3_slide, Cond.selects RX3 yX3_slide yX3_slide, Cond.code yX3_slide cX3_slide 3 none, Cond.methodLink RX3 122 yX3_warm]
def wsL_makes_r9 : List Cond := [Cond.instanceMethod yX3_warm, Cond.selects RX3 yX3_warm yX3_warm, Cond.code yX3_warm cX3_warm 3 none, Cond.methodLink RX3 90 Lib.Math.min.name, Cond.static Lib.Math.min.name, Cond.code Lib.Math.min.name Lib.Math.min.code 2 (some .int)]
def wsL_makes : List Cond := .code yL_makes cL_makes 14 (some .boolean) :: ((wsL_makes_r1 ++ (wsL_makes_r2 ++ (wsL_makes_r3 ++ (wsL_makes_r4 ++ (wsL_makes_r5 ++ (wsL_makes_r6 ++ (wsL_makes_r7 ++ (wsL_makes_r8 ++ wsL_makes_r9)))))))) ++ wsX40 ++ wsX30 ++ wsX20 ++ (vx_atS RX4 149 "java/lang/IllegalArgumentException" ["java/lang/RuntimeException", "java/lang/Exception"]).filter goodWord ++ (vx_atS RX4 292 "java/lang/IndexOutOfBoundsException" ["java/lang/RuntimeException", "java/lang/Exception"]).filter goodWord ++ (vx_atS RX4 47 "java/lang/IllegalStateException" ["java/lang/RuntimeException", "java/lang/Exception"]).filter goodWord)
def wsL_acts_r1 : List Cond := [Cond.methodLink RL 88 yL_low, Cond.static yL_low, Cond.initialized RL, Cond.code yL_low cL_low 2 (some .int), Cond.constant RL 8 (2147483647), Cond.methodLink RL 113 yL_adds, Cond.static yL_adds, Cond.code yL_adds cL_adds 9 (some .boolean), Cond.constant RL 91 (99501), Cond.methodLink RL 43 yX4_count, Cond.instanceMethod yX4_count, Cond.selects RX4 yX4_count yX4_count, Cond.initialized RX4, Cond.code yX4_count cX4_count 2 (some .int), Cond.classLink RX4 145 "java/lang/IllegalArgumentException", Cond.initialized "java/lang/IllegalArgumentException", Cond.fieldLink RX4 12 "GaugeBlocks" "state" "LGaugeBlocks$State;", Cond.fieldLink RX4 68 "GaugeBlocks$State" "blocks" "I", Cond.fieldLink RX4 243 "GaugeBlocks$State" "minutes" "I", Cond.fieldLink RX4 246 "GaugeBlocks$State" "wrings" "I", Cond.fieldLink RX4 249 "GaugeBlocks$State" "takeOffs" "I", Cond.fieldLink RX4 255 "GaugeBlocks$State" "refusals" "I", Cond.fieldLink RX4 19 "GaugeBlocks" "saved" "LGaugeBlocks$SavedStates;", Cond.fieldLink RX4 173 "GaugeBlocks$SavedStates" "many" "I"]
def wsL_acts_r2 : List Cond := [Cond.fieldLink RX4 30 "GaugeBlocks" "text" "LGaugeBlocks$OrderText;", Cond.fieldLink RX4 131 "GaugeBlocks$OrderText" "length" "I", Cond.methodLink RX4 209 yX3_blocksIn, Cond.instanceMethod yX3_blocksIn, Cond.selects RX3 yX3_blocksIn yX3_blocksIn, Cond.initialized RX3, Cond.code yX3_blocksIn cX3_blocksIn 4 (some .int), Cond.fieldLink RX3 50 "GaugeBlocks$State" "blocks" "I", Cond.fieldLink RX3 24 "GaugeBlocks$State" "stack" "[I", Cond.methodLink RX4 252 yX3_wearOfAll, Cond.instanceMethod yX3_wearOfAll, Cond.selects RX3 yX3_wearOfAll yX3_wearOfAll, Cond.code yX3_wearOfAll cX3_wearOfAll 3 (some .int), Cond.fieldLink RX3 18 "GaugeBlocks$State" "wear" "[I", Cond.methodLink RX4 258 yX3_blocksOfGrade, Cond.instanceMethod yX3_blocksOfGrade, Cond.selects RX3 yX3_blocksOfGrade yX3_blocksOfGrade, Cond.code yX3_blocksOfGrade cX3_blocksOfGrade 4 (some .int), Cond.methodLink RX3 103 yX3_gradeOf, Cond.instanceMethod yX3_gradeOf, Cond.selects RX3 yX3_gradeOf yX3_gradeOf, Cond.code yX3_gradeOf cX3_gradeOf 3 (some .int), Cond.methodLink RX3 83 yX3_sizeOfError, Cond.instanceMethod yX3_sizeOfError]
def wsL_acts_r3 : List Cond := [Cond.selects RX3 yX3_sizeOfError yX3_sizeOfError, Cond.code yX3_sizeOfError cX3_sizeOfError 2 (some .int), Cond.methodLink RX3 78 Lib.Math.abs.name, Cond.static Lib.Math.abs.name, Cond.initialized "java/lang/Math", Cond.code Lib.Math.abs.name Lib.Math.abs.code 1 (some .int), Cond.methodLink RX3 74 yX3_errorOf, Cond.instanceMethod yX3_errorOf, Cond.selects RX3 yX3_errorOf yX3_errorOf, Cond.code yX3_errorOf cX3_errorOf 2 (some .int), Cond.fieldLink RX3 15 "GaugeBlocks$State" "deviation" "[I", Cond.methodLink RL 92 yX4_block, Cond.instanceMethod yX4_block, Cond.selects RX4 yX4_block yX4_block, Cond.code yX4_block cX4_block 3 (some .int), Cond.classLink RX4 43 "java/lang/IllegalStateException", Cond.initialized "java/lang/IllegalStateException", Cond.constant RX4 34 (100000), Cond.methodLink RX4 35 yX4_checkRange, Cond.static yX4_checkRange, Cond.code yX4_checkRange cX4_checkRange 3 none, Cond.methodLink RX4 39 yX3_isFull, Cond.instanceMethod yX3_isFull, Cond.selects RX3 yX3_isFull yX3_isFull]
def wsL_acts_r4 : List Cond := [Cond.code yX3_isFull cX3_isFull 1 (some .boolean), Cond.methodLink RX4 50 yX2_push, Cond.instanceMethod yX2_push, Cond.selects RX2 yX2_push yX2_push, Cond.initialized RX2, Cond.code yX2_push cX2_push 2 none, Cond.fieldLink RX2 18 "GaugeBlocks$SavedStates" "many" "I", Cond.fieldLink RX2 11 "GaugeBlocks$SavedStates" "states" "[LGaugeBlocks$State;", Cond.methodLink RX2 22 yX2_dropOldest, Cond.instanceMethod yX2_dropOldest, Cond.selects RX2 yX2_dropOldest yX2_dropOldest, Cond.code yX2_dropOldest cX2_dropOldest 3 none, Cond.methodLink RX2 25 yX3_copyFrom, Cond.instanceMethod yX3_copyFrom, Cond.selects RX3 yX3_copyFrom yX3_copyFrom, Cond.code yX3_copyFrom cX3_copyFrom 2 none, Cond.fieldLink RX3 9 "GaugeBlocks$State" "nominal" "[I", Cond.methodLink RX3 44 arraycopyName, Cond.native arraycopyName, Cond.static arraycopyName, Cond.initialized "java/lang/System", Cond.fieldLink RX3 21 "GaugeBlocks$State" "warmth" "[I", Cond.fieldLink RX3 27 "GaugeBlocks$State" "place" "[I", Cond.fieldLink RX3 30 "GaugeBlocks$State" "timesWrung" "[I"]
def wsL_acts_r5 : List Cond := [Cond.fieldLink RX3 41 "GaugeBlocks$State" "settings" "[I", Cond.fieldLink RX3 54 "GaugeBlocks$State" "minutes" "I", Cond.fieldLink RX3 57 "GaugeBlocks$State" "wrings" "I", Cond.fieldLink RX3 60 "GaugeBlocks$State" "takeOffs" "I", Cond.fieldLink RX3 63 "GaugeBlocks$State" "refusals" "I", Cond.methodLink RX4 54 yX3_addBlock, Cond.instanceMethod yX3_addBlock, Cond.selects RX3 yX3_addBlock yX3_addBlock, Cond.code yX3_addBlock cX3_addBlock 4 (some .int), Cond.methodLink RX3 66 yX3_isFull, Cond.methodLink RL 117 yL_discards, Cond.static yL_discards, Cond.code yL_discards cL_discards 10 (some .boolean), Cond.methodLink RL 15 yL_where, Cond.static yL_where, Cond.code yL_where cL_where 5 (some .int), Cond.methodLink RL 95 yL_moves, Cond.static yL_moves, Cond.code yL_moves cL_moves 3 none, Cond.methodLink RL 99 yX4_discard, Cond.instanceMethod yX4_discard, Cond.selects RX4 yX4_discard yX4_discard, Cond.code yX4_discard cX4_discard 2 (some .int), Cond.methodLink RX4 58 yX4_checkBlock]
def wsL_acts_r6 : List Cond := [Cond.instanceMethod yX4_checkBlock, Cond.selects RX4 yX4_checkBlock yX4_checkBlock, Cond.code yX4_checkBlock cX4_checkBlock 2 none, Cond.classLink RX4 288 "java/lang/IndexOutOfBoundsException", Cond.initialized "java/lang/IndexOutOfBoundsException", Cond.methodLink RX4 170 yX3_hasBlock, Cond.instanceMethod yX3_hasBlock, Cond.selects RX3 yX3_hasBlock yX3_hasBlock, Cond.code yX3_hasBlock cX3_hasBlock 2 (some .boolean), Cond.methodLink RX4 62 yX4_checkFree, Cond.instanceMethod yX4_checkFree, Cond.selects RX4 yX4_checkFree yX4_checkFree, Cond.code yX4_checkFree cX4_checkFree 2 none, Cond.methodLink RX4 297 yX3_isFree, Cond.instanceMethod yX3_isFree, Cond.selects RX3 yX3_isFree yX3_isFree, Cond.code yX3_isFree cX3_isFree 2 (some .boolean), Cond.methodLink RX4 65 yX3_removeBlock, Cond.instanceMethod yX3_removeBlock, Cond.selects RX3 yX3_removeBlock yX3_removeBlock, Cond.code yX3_removeBlock cX3_removeBlock 2 none, Cond.methodLink RX3 70 yX3_closeGap, Cond.instanceMethod yX3_closeGap, Cond.selects RX3 yX3_closeGap yX3_closeGap]
def wsL_acts_r7 : List Cond := [Cond.code yX3_closeGap cX3_closeGap 4 none, Cond.methodLink RL 121 yX4_calibrate, Cond.instanceMethod yX4_calibrate, Cond.selects RX4 yX4_calibrate yX4_calibrate, Cond.code yX4_calibrate cX4_calibrate 2 (some .int), Cond.methodLink RX4 72 yX3_turnWearIntoDeviation, Cond.instanceMethod yX3_turnWearIntoDeviation, Cond.selects RX3 yX3_turnWearIntoDeviation yX3_turnWearIntoDeviation, Cond.code yX3_turnWearIntoDeviation cX3_turnWearIntoDeviation 2 none, Cond.methodLink RX3 86 Lib.Math.max.name, Cond.static Lib.Math.max.name, Cond.code Lib.Math.max.name Lib.Math.max.code 2 (some .int), Cond.methodLink RX4 75 yX3_gradeOf, Cond.methodLink RL 19 yL_grade, Cond.static yL_grade, Cond.code yL_grade cL_grade 4 (some .int), Cond.methodLink RL 9 yL_size, Cond.static yL_size, Cond.code yL_size cL_size 1 (some .int), Cond.methodLink RL 124 yX4_hold, Cond.instanceMethod yX4_hold, Cond.selects RX4 yX4_hold yX4_hold, Cond.code yX4_hold cX4_hold 3 (some .int), Cond.fieldLink RX4 83 "GaugeBlocks$State" "warmth" "[I"]
def wsL_acts_r8 : List Cond := [Cond.methodLink RX4 79 yX3_warm, Cond.instanceMethod yX3_warm, Cond.selects RX3 yX3_warm yX3_warm, Cond.code yX3_warm cX3_warm 3 none, Cond.methodLink RX3 90 Lib.Math.min.name, Cond.static Lib.Math.min.name, Cond.code Lib.Math.min.name Lib.Math.min.code 2 (some .int), Cond.methodLink RL 53 yL_cool, Cond.static yL_cool, Cond.code yL_cool cL_cool 4 (some .int), Cond.methodLink RL 127 yX4_rest, Cond.instanceMethod yX4_rest, Cond.selects RX4 yX4_rest yX4_rest, Cond.code yX4_rest cX4_rest 2 (some .int), Cond.methodLink RX4 87 yX3_letPass, Cond.instanceMethod yX3_letPass, Cond.selects RX3 yX3_letPass yX3_letPass, Cond.code yX3_letPass cX3_letPass 3 none, Cond.methodLink RX3 93 yX3_cooled, Cond.static yX3_cooled, Cond.code yX3_cooled cX3_cooled 4 (some .int), Cond.methodLink RX4 90 yX3_greatestWarmth, Cond.instanceMethod yX3_greatestWarmth, Cond.selects RX3 yX3_greatestWarmth yX3_greatestWarmth]
def wsL_acts_r9 : List Cond := [Cond.code yX3_greatestWarmth cX3_greatestWarmth 3 (some .int), Cond.methodLink RL 130 yX4_set, Cond.instanceMethod yX4_set, Cond.selects RX4 yX4_set yX4_set, Cond.code yX4_set cX4_set 4 (some .int), Cond.fieldLink RX4 97 "GaugeBlocks" "SETTINGS_MAX" "[I", Cond.fieldLink RX4 100 "GaugeBlocks$State" "settings" "[I", Cond.methodLink RX4 94 yX4_checkSetting, Cond.static yX4_checkSetting, Cond.code yX4_checkSetting cX4_checkSetting 1 none, Cond.methodLink RL 70 yX4_stackOf, Cond.instanceMethod yX4_stackOf, Cond.selects RX4 yX4_stackOf yX4_stackOf, Cond.code yX4_stackOf cX4_stackOf 3 (some .int), Cond.methodLink RX4 103 yX4_checkStack, Cond.static yX4_checkStack, Cond.code yX4_checkStack cX4_checkStack 1 none, Cond.methodLink RX4 109 yX3_heightOf, Cond.instanceMethod yX3_heightOf, Cond.selects RX3 yX3_heightOf yX3_heightOf, Cond.code yX3_heightOf cX3_heightOf 2 (some .int), Cond.methodLink RX3 125 yX3_blocksIn, Cond.methodLink RX3 128 yJ6_bitCount_0f7a4, Cond.static yJ6_bitCount_0f7a4]
def wsL_acts_r10 : List Cond := [Cond.initialized RJ6, Cond.code yJ6_bitCount_0f7a4 cJ6_bitCount_0f7a4 1 (some .int), Cond.constant RJ6 265 (1431655765), Cond.constant RJ6 266 (858993459), Cond.constant RJ6 267 (252645135), Cond.methodLink RX4 212 yX3_nominalOfSet, Cond.instanceMethod yX3_nominalOfSet, Cond.selects RX3 yX3_nominalOfSet yX3_nominalOfSet, Cond.code yX3_nominalOfSet cX3_nominalOfSet 4 (some .int), Cond.methodLink RX4 215 yX3_trueLengthOfStack, Cond.instanceMethod yX3_trueLengthOfStack, Cond.selects RX3 yX3_trueLengthOfStack yX3_trueLengthOfStack, Cond.code yX3_trueLengthOfStack cX3_trueLengthOfStack 6 (some .int), Cond.methodLink RX3 133 yX3_trueLengthOf, Cond.instanceMethod yX3_trueLengthOf, Cond.selects RX3 yX3_trueLengthOf yX3_trueLengthOf, Cond.code yX3_trueLengthOf cX3_trueLengthOf 4 (some .int), Cond.methodLink RX4 218 yX3_blockAt, Cond.instanceMethod yX3_blockAt, Cond.selects RX3 yX3_blockAt yX3_blockAt, Cond.code yX3_blockAt cX3_blockAt 4 (some .int), Cond.methodLink RX4 221 yX3_greatestGradeIn, Cond.instanceMethod yX3_greatestGradeIn, Cond.selects RX3 yX3_greatestGradeIn yX3_greatestGradeIn]
def wsL_acts_r11 : List Cond := [Cond.code yX3_greatestGradeIn cX3_greatestGradeIn 4 (some .int), Cond.methodLink RX4 224 yX3_sizeOfDifference, Cond.instanceMethod yX3_sizeOfDifference, Cond.selects RX3 yX3_sizeOfDifference yX3_sizeOfDifference, Cond.code yX3_sizeOfDifference cX3_sizeOfDifference 2 (some .int), Cond.methodLink RX3 136 yX3_trueLengthOfStack, Cond.methodLink RX3 139 yX3_nominalOfSet, Cond.methodLink RL 27 yL_rubs, Cond.static yL_rubs, Cond.code yL_rubs cL_rubs 7 none, Cond.methodLink RL 133 yX4_takeOff, Cond.instanceMethod yX4_takeOff, Cond.selects RX4 yX4_takeOff yX4_takeOff, Cond.code yX4_takeOff cX4_takeOff 2 (some .int), Cond.methodLink RX4 114 yX3_takeTopOff, Cond.instanceMethod yX3_takeTopOff, Cond.selects RX3 yX3_takeTopOff yX3_takeTopOff, Cond.code yX3_takeTopOff cX3_takeTopOff 4 (some .int), Cond.methodLink RX3 100 yX3_heightOf, Cond.methodLink RX3 116 yX3_blockAt, Cond.methodLink RX3 119 yX3_slide, Cond.instanceMethod yX3_slide, Cond.selects RX3 yX3_slide yX3_slide, Cond.code yX3_slide cX3_slide 3 none]
def wsL_acts_r12 : List Cond := [Cond.methodLink RX3 122 yX3_warm, Cond.methodLink RL 136 yL_makes, Cond.static yL_makes, Cond.code yL_makes cL_makes 14 (some .boolean), Cond.methodLink RL 59 yL_free, Cond.static yL_free, Cond.code yL_free cL_free 4 (some .int), Cond.methodLink RL 102 yL_fewest, Cond.static yL_fewest, Cond.code yL_fewest cL_fewest 6 (some .int), Cond.methodLink RL 31 yL_ones, Cond.static yL_ones, Cond.code yL_ones cL_ones 3 (some .int), Cond.methodLink RL 34 yL_sum, Cond.static yL_sum, Cond.code yL_sum cL_sum 4 (some .int), Cond.methodLink RL 106 yL_wrings, Cond.static yL_wrings, Cond.code yL_wrings cL_wrings 9 (some .int), Cond.methodLink RL 23 yL_reason, Cond.static yL_reason, Cond.code yL_reason cL_reason 7 (some .int), Cond.methodLink RL 110 yX4_make, Cond.instanceMethod yX4_make]
def wsL_acts_r13 : List Cond := [Cond.selects RX4 yX4_make yX4_make, Cond.code yX4_make cX4_make 4 (some .int), Cond.methodLink RX4 117 yX4_checkLength, Cond.static yX4_checkLength, Cond.code yX4_checkLength cX4_checkLength 1 none, Cond.constant RX4 287 (600000), Cond.methodLink RX4 122 yX0_fewestFor, Cond.static yX0_fewestFor, Cond.initialized RX0, Cond.code yX0_fewestFor cX0_fewestFor 5 (some .int), Cond.fieldLink RX0 15 "GaugeBlocks$State" "nominal" "[I", Cond.methodLink RX0 9 yX3_blocksIn, Cond.methodLink RX0 19 yX0_leastSet, Cond.static yX0_leastSet, Cond.code yX0_leastSet cX0_leastSet 8 (some .int), Cond.constant RX0 25 (100000), Cond.methodLink RX4 128 yX3_wringSet, Cond.instanceMethod yX3_wringSet, Cond.selects RX3 yX3_wringSet yX3_wringSet, Cond.code yX3_wringSet cX3_wringSet 5 (some .int), Cond.methodLink RX3 113 yX3_tryToWring, Cond.instanceMethod yX3_tryToWring, Cond.selects RX3 yX3_tryToWring yX3_tryToWring, Cond.code yX3_tryToWring cX3_tryToWring 4 (some .int)]
def wsL_acts_r14 : List Cond := [Cond.methodLink RX3 106 yX3_reasonToRefuse, Cond.instanceMethod yX3_reasonToRefuse, Cond.selects RX3 yX3_reasonToRefuse yX3_reasonToRefuse, Cond.code yX3_reasonToRefuse cX3_reasonToRefuse 3 (some .int), Cond.methodLink RX3 96 yX3_isFree, Cond.methodLink RX3 109 yX3_putOnTop, Cond.instanceMethod yX3_putOnTop, Cond.selects RX3 yX3_putOnTop yX3_putOnTop, Cond.code yX3_putOnTop cX3_putOnTop 4 none, Cond.methodLink RL 140 yX4_refusal, Cond.instanceMethod yX4_refusal, Cond.selects RX4 yX4_refusal yX4_refusal, Cond.code yX4_refusal cX4_refusal 3 (some .int), Cond.methodLink RX4 263 yX3_reasonToRefuse, Cond.methodLink RL 143 yX4_wring, Cond.instanceMethod yX4_wring, Cond.selects RX4 yX4_wring yX4_wring, Cond.code yX4_wring cX4_wring 3 (some .int), Cond.methodLink RX4 106 yX3_tryToWring]
def wsL_acts : List Cond := .code yL_acts cL_acts 19 (some .boolean) :: ((wsL_acts_r1 ++ (wsL_acts_r2 ++ (wsL_acts_r3 ++ (wsL_acts_r4 ++ (wsL_acts_r5 ++ (wsL_acts_r6 ++ (wsL_acts_r7 ++ (wsL_acts_r8 ++ (wsL_acts_r9 ++ (wsL_acts_r10 ++ (wsL_acts_r11 ++ (wsL_acts_r12 ++ (wsL_acts_r13 ++ wsL_acts_r14))))))))))))) ++ wsX40 ++ wsX30 ++ wsX20 ++ wsX10 ++ (vx_atS RX4 149 "java/lang/IllegalArgumentException" ["java/lang/RuntimeException", "java/lang/Exception"]).filter goodWord ++ (vx_atS RX4 47 "java/lang/IllegalStateException" ["java/lang/RuntimeException", "java/lang/Exception"]).filter goodWord ++ (vx_atS RX4 292 "java/lang/IndexOutOfBoundsException" ["java/lang/RuntimeException", "java/lang/Exception"]).filter goodWord)
abbrev vwCl : List vw_C := [(RX1, TX1, 6), (RX2, TX2, 2), (RX3, TX3, 13), (RX4, TX4, 4)]
