/-! the judgement of the walks: gG k ws lv cs sl pc st -- from the frame at pc with the listed locals lv and the stack st, in any heap that holds the world ws, the machine comes to the end that k asks -/
abbrev Kt : Type := Program × Launch × Env × Room × State × MethodId × Array Value × List Frame × Method × Code × Nat × va_G × (Nat → Prop) × (State → Prop)
abbrev kP (k : Kt) : Program := k.1
abbrev kL (k : Kt) : Launch := k.2.1
abbrev kE (k : Kt) : Env := k.2.2.1
abbrev kR (k : Kt) : Room := k.2.2.2.1
abbrev kS (k : Kt) : State := k.2.2.2.2.1
abbrev kM (k : Kt) : MethodId := k.2.2.2.2.2.1
abbrev kA (k : Kt) : Array Value := k.2.2.2.2.2.2.1
abbrev kB (k : Kt) : List Frame := k.2.2.2.2.2.2.2.1
abbrev kMe (k : Kt) : Method := k.2.2.2.2.2.2.2.2.1
abbrev kC (k : Kt) : Code := k.2.2.2.2.2.2.2.2.2.1
abbrev kN (k : Kt) : Nat := k.2.2.2.2.2.2.2.2.2.2.1
abbrev kD (k : Kt) : va_G := k.2.2.2.2.2.2.2.2.2.2.2.1
abbrev kF (k : Kt) : Nat → Prop := k.2.2.2.2.2.2.2.2.2.2.2.2.1
abbrev kQ (k : Kt) : State → Prop := k.2.2.2.2.2.2.2.2.2.2.2.2.2
def gG (k : Kt) (ws : va_W) (lv : List (Nat × Value)) (cs sl pc : Nat) (st : List Value) : Prop :=
  ∀ (H : Heap) (locs : List Loc) (ls : Array Slot), va_P (kD k) vwCl ws H → va_D (kF k) ws → va_S (kF k) (kS k).heap H locs → lv_has ls (kN k) lv →
    W (kP k) (kL k) (kE k) (kR k) (kS k) (kM k) (kA k) (kB k) (kMe k) (kC k) H locs cs sl (kQ k) (F0 (kM k) pc ls st)
def gX (k : Kt) (ws : va_W) (lv : List (Nat × Value)) (cs sl pc : Nat) (st : List Value) (E : String) : Prop :=
  ∀ (H : Heap) (locs : List Loc) (ls : Array Slot) (ce : Cell) (q9 : Nat), va_P (kD k) vwCl ws H → va_D (kF k) ws → va_S (kF k) (kS k).heap H locs → lv_has ls (kN k) lv →
    H[q9]? = some ce → ce.vm = .none → (kS k).vm.findClass E = some ce.cls →
    vx_W (kP k) (kL k) (kE k) (kR k) (kS k) (kM k) (kA k) (kB k) (kMe k) (kC k) H locs cs sl (kQ k) (F0 (kM k) pc ls st) q9
/-- what a walk knows of its start: the machine, the code, the tables, the room, the ambient statics -/
def gC (k : Kt) (cc : ByteArray) (nL : Nat) (own : String) (Ts : List Cond) (rm : Room) (nm : String) : Prop :=
  (kP k).tables.exec = Jvm.exec ∧ (kC k).code = cc ∧ (kC k).maxLocals = kN k ∧ (kS k).vm.findClass own = some (kM k).cls ∧ (∀ w ∈ Ts, w.before (kA k) (kS k) = true) ∧
  va_K (kD k) vwCl (tysD (kD k)) (kS k) ∧ (∀ q : Nat, (kS k).heap.size ≤ q → kF k q) ∧ (kMe k).locks = false ∧ kR k = rm ∧ (kMe k).name = nm ∧ gAmb (kF k) (kS k) (kS k).heap ∧ (kL k).stackTraces = false ∧ kN k = nL
section GC
variable {k : Kt} {cc : ByteArray} {nL : Nat} {own nm : String} {Ts : List Cond} {rm : Room}
theorem gC.x (C : gC k cc nL own Ts rm nm) : (kP k).tables.exec = Jvm.exec := C.1
theorem gC.b (C : gC k cc nL own Ts rm nm) : (kC k).code = cc := C.2.1
theorem gC.ml (C : gC k cc nL own Ts rm nm) : (kC k).maxLocals = kN k := C.2.2.1
theorem gC.ow (C : gC k cc nL own Ts rm nm) : (kS k).vm.findClass own = some (kM k).cls := C.2.2.2.1
theorem gC.ts (C : gC k cc nL own Ts rm nm) : ∀ w ∈ Ts, w.before (kA k) (kS k) = true := C.2.2.2.2.1
theorem gC.K (C : gC k cc nL own Ts rm nm) : va_K (kD k) vwCl (tysD (kD k)) (kS k) := C.2.2.2.2.2.1
theorem gC.A (C : gC k cc nL own Ts rm nm) : ∀ q : Nat, (kS k).heap.size ≤ q → kF k q := C.2.2.2.2.2.2.1
theorem gC.lk (C : gC k cc nL own Ts rm nm) : (kMe k).locks = false := C.2.2.2.2.2.2.2.1
theorem gC.R (C : gC k cc nL own Ts rm nm) : kR k = rm := C.2.2.2.2.2.2.2.2.1
theorem gC.na (C : gC k cc nL own Ts rm nm) : (kMe k).name = nm := C.2.2.2.2.2.2.2.2.2.1
theorem gC.amb (C : gC k cc nL own Ts rm nm) : gAmb (kF k) (kS k) (kS k).heap := C.2.2.2.2.2.2.2.2.2.2.1
theorem gC.tr (C : gC k cc nL own Ts rm nm) : (kL k).stackTraces = false := C.2.2.2.2.2.2.2.2.2.2.2.1
theorem gC.n (C : gC k cc nL own Ts rm nm) : kN k = nL := C.2.2.2.2.2.2.2.2.2.2.2.2
end GC
theorem fm_of_map {α β : Type} {f : α → Option β} : ∀ {is : List α} {w : List β}, is.map f = w.map some → is.filterMap f = w
  | [], [], _ => rfl
  | [], _ :: _, h => by cases h
  | _ :: _, [], h => by cases h
  | a :: is, b :: w, h => by
    rw [List.map_cons, List.map_cons, List.cons.injEq] at h
    rw [List.filterMap_cons, h.1]
    show b :: is.filterMap f = b :: w
    rw [fm_of_map h.2]
section GR
variable {k : Kt} {cc : ByteArray} {nL : Nat} {own nm : String} {Ts : List Cond} {rm : Room} {ws : va_W} {lv : List (Nat × Value)} {cs sl pc : Nat} {st : List Value}
theorem g_iconst (C : gC k cc nL own Ts rm nm) {n : Int} {v : Int32} (d : decode cc pc = .ok (.iconst n, 1)) (hv : Int32.ofInt n = v) (h : gG k ws lv cs sl (pc + 1) (.int v :: st)) : gG k ws lv cs sl pc (st) :=
  fun H locs ls hP hD hS hl => lv_iconst C.x C.b d hv (h H locs ls hP hD hS hl)
theorem g_bipush (C : gC k cc nL own Ts rm nm) {n : Int} {v : Int32} (d : decode cc pc = .ok (.bipush n, 2)) (hv : (Int8.ofInt n).toInt32 = v) (h : gG k ws lv cs sl (pc + 2) (.int v :: st)) : gG k ws lv cs sl pc (st) :=
  fun H locs ls hP hD hS hl => lv_bipush C.x C.b d hv (h H locs ls hP hD hS hl)
theorem g_sipush (C : gC k cc nL own Ts rm nm) {n : Int} {v : Int32} (d : decode cc pc = .ok (.sipush n, 3)) (hv : (Int16.ofInt n).toInt32 = v) (h : gG k ws lv cs sl (pc + 3) (.int v :: st)) : gG k ws lv cs sl pc (st) :=
  fun H locs ls hP hD hS hl => lv_sipush C.x C.b d hv (h H locs ls hP hD hS hl)
theorem g_ldc (C : gC k cc nL own Ts rm nm) {ix : Nat} {v : Int32} (d : decode cc pc = .ok (.ldc ix, 2)) (hc : Jvm.Cond.constant own ix v ∈ Ts) (h : gG k ws lv cs sl (pc + 2) (.int v :: st)) : gG k ws lv cs sl pc st :=
  fun H locs ls hP hD hS hl => lv_ldc C.x C.b C.ow (C.ts _ hc) d (h H locs ls hP hD hS hl)
def lvg : List (Nat × Value) → Nat → Option Value
  | [], _ => none
  | (j, v) :: r, i => match Nat.beq j i with
    | true => some v
    | false => lvg r i
theorem lvg_mem {v : Value} {i : Nat} : ∀ {l : List (Nat × Value)}, lvg l i = some v → (i, v) ∈ l
  | [], h => by cases h
  | (j, u) :: r, h => by
    unfold lvg at h
    cases e : Nat.beq j i with
    | true =>
      rw [e] at h
      have e2 := Nat.eq_of_beq_eq_true e
      subst e2
      cases h
      exact List.mem_cons_self
    | false =>
      rw [e] at h
      exact List.mem_cons_of_mem _ (lvg_mem h)
theorem lvg_at {v : Value} {i nL : Nat} {l : List (Nat × Value)} {ls : Array Slot} (hl : lv_has ls nL l) (h : lvg l i = some v) : ls[i]? = some (.val v) := hl.2.2 _ (lvg_mem h)
theorem g_iload_n (C : gC k cc nL own Ts rm nm) {j : Fin 4} {x : Int32} (d : decode cc pc = .ok (.iload_n j, 1)) (hx : lvg lv (j : Nat) = some (.int x)) (h : gG k ws lv cs sl (pc + 1) (.int x :: st)) : gG k ws lv cs sl pc st :=
  fun H locs ls hP hD hS hl => lv_iload_n C.x C.b d rfl (lvg_at hl hx) (h H locs ls hP hD hS hl)
theorem g_iload (C : gC k cc nL own Ts rm nm) {j : Nat} {x : Int32} (d : decode cc pc = .ok (.iload j, 2)) (hx : lvg lv j = some (.int x)) (h : gG k ws lv cs sl (pc + 2) (.int x :: st)) : gG k ws lv cs sl pc st :=
  fun H locs ls hP hD hS hl => lv_iload C.x C.b d (lvg_at hl hx) (h H locs ls hP hD hS hl)
theorem g_aload_n (C : gC k cc nL own Ts rm nm) {j : Fin 4} {x : Nat} (d : decode cc pc = .ok (.aload_n j, 1)) (hx : lvg lv (j : Nat) = some (.ref x)) (h : gG k ws lv cs sl (pc + 1) (.ref x :: st)) : gG k ws lv cs sl pc st :=
  fun H locs ls hP hD hS hl => lv_aload_n C.x C.b d rfl (lvg_at hl hx) (h H locs ls hP hD hS hl)
theorem g_aload (C : gC k cc nL own Ts rm nm) {j : Nat} {x : Nat} (d : decode cc pc = .ok (.aload j, 2)) (hx : lvg lv j = some (.ref x)) (h : gG k ws lv cs sl (pc + 2) (.ref x :: st)) : gG k ws lv cs sl pc st :=
  fun H locs ls hP hD hS hl => lv_aload C.x C.b d (lvg_at hl hx) (h H locs ls hP hD hS hl)
theorem g_istore_n (C : gC k cc nL own Ts rm nm) {j : Fin 4} {x : Int32} {lv' : List (Nat × Value)} (d : decode cc pc = .ok (.istore_n j, 1)) (hn : (j : Nat) < nL) (e : ((j : Nat), Value.int x) :: lv.filter (fun q => !(q.1 == (j : Nat)) && !(q.1 + 1 == (j : Nat) && q.2.category == 2)) = lv') (h : gG k ws lv' cs sl (pc + 1) st) : gG k ws lv cs sl pc (Value.int x :: st) :=
  fun H locs ls hP hD hS hl => lv_istore_n C.x C.b d rfl hl (C.n ▸ hn) e (fun ls hl => h H locs ls hP hD hS hl)
theorem g_istore (C : gC k cc nL own Ts rm nm) {j : Nat} {x : Int32} {lv' : List (Nat × Value)} (d : decode cc pc = .ok (.istore j, 2)) (hn : j < nL) (e : (j, Value.int x) :: lv.filter (fun q => !(q.1 == j) && !(q.1 + 1 == j && q.2.category == 2)) = lv') (h : gG k ws lv' cs sl (pc + 2) st) : gG k ws lv cs sl pc (Value.int x :: st) :=
  fun H locs ls hP hD hS hl => lv_istore C.x C.b d hl (C.n ▸ hn) e (fun ls hl => h H locs ls hP hD hS hl)
theorem g_astore_n (C : gC k cc nL own Ts rm nm) {j : Fin 4} {x : Nat} {lv' : List (Nat × Value)} (d : decode cc pc = .ok (.astore_n j, 1)) (hn : (j : Nat) < nL) (e : ((j : Nat), Value.ref x) :: lv.filter (fun q => !(q.1 == (j : Nat)) && !(q.1 + 1 == (j : Nat) && q.2.category == 2)) = lv') (h : gG k ws lv' cs sl (pc + 1) st) : gG k ws lv cs sl pc (Value.ref x :: st) :=
  fun H locs ls hP hD hS hl => lv_astore_n C.x C.b d rfl hl (C.n ▸ hn) e (fun ls hl => h H locs ls hP hD hS hl)
theorem g_astore (C : gC k cc nL own Ts rm nm) {j : Nat} {x : Nat} {lv' : List (Nat × Value)} (d : decode cc pc = .ok (.astore j, 2)) (hn : j < nL) (e : (j, Value.ref x) :: lv.filter (fun q => !(q.1 == j) && !(q.1 + 1 == j && q.2.category == 2)) = lv') (h : gG k ws lv' cs sl (pc + 2) st) : gG k ws lv cs sl pc (Value.ref x :: st) :=
  fun H locs ls hP hD hS hl => lv_astore C.x C.b d hl (C.n ▸ hn) e (fun ls hl => h H locs ls hP hD hS hl)
theorem lvg_idx {v : Value} {i : Nat} {l : List (Nat × Value)} (h : lvg l i = some v) : ∃ p : Nat, l[p]? = some (i, v) := List.getElem?_of_mem (lvg_mem h)
theorem g_iinc (C : gC k cc nL own Ts rm nm) {j : Nat} {n : Int} {x v : Int32} {lv' : List (Nat × Value)} (d : decode cc pc = .ok (.iinc j n, 3)) (hx : lvg lv j = some (.int x)) (hv : x + Int32.ofInt n = v) (hn : j < nL) (e : (j, Value.int v) :: lv.filter (fun q => !(q.1 == j) && !(q.1 + 1 == j && q.2.category == 2)) = lv') (h : gG k ws lv' cs sl (pc + 3) st) : gG k ws lv cs sl pc st :=
  fun H locs ls hP hD hS hl => by
    obtain ⟨p, hp⟩ := lvg_idx hx
    exact lv_iinc C.x C.b d hl hp hv (C.n ▸ hn) e (fun ls hl => h H locs ls hP hD hS hl)
theorem g_iadd (C : gC k cc nL own Ts rm nm) {x y : Int32} (d : decode cc pc = .ok (.iadd, 1)) (h : gG k ws lv cs sl (pc + 1) (.int (x + y) :: st)) : gG k ws lv cs sl pc (.int y :: .int x :: st) :=
  fun H locs ls hP hD hS hl => lv_iadd C.x C.b d (h H locs ls hP hD hS hl)
theorem g_isub (C : gC k cc nL own Ts rm nm) {x y : Int32} (d : decode cc pc = .ok (.isub, 1)) (h : gG k ws lv cs sl (pc + 1) (.int (x - y) :: st)) : gG k ws lv cs sl pc (.int y :: .int x :: st) :=
  fun H locs ls hP hD hS hl => lv_isub C.x C.b d (h H locs ls hP hD hS hl)
theorem g_imul (C : gC k cc nL own Ts rm nm) {x y : Int32} (d : decode cc pc = .ok (.imul, 1)) (h : gG k ws lv cs sl (pc + 1) (.int (x * y) :: st)) : gG k ws lv cs sl pc (.int y :: .int x :: st) :=
  fun H locs ls hP hD hS hl => lv_imul C.x C.b d (h H locs ls hP hD hS hl)
theorem g_iand (C : gC k cc nL own Ts rm nm) {x y : Int32} (d : decode cc pc = .ok (.iand, 1)) (h : gG k ws lv cs sl (pc + 1) (.int (x &&& y) :: st)) : gG k ws lv cs sl pc (.int y :: .int x :: st) :=
  fun H locs ls hP hD hS hl => lv_iand C.x C.b d (h H locs ls hP hD hS hl)
theorem g_ior (C : gC k cc nL own Ts rm nm) {x y : Int32} (d : decode cc pc = .ok (.ior, 1)) (h : gG k ws lv cs sl (pc + 1) (.int (x ||| y) :: st)) : gG k ws lv cs sl pc (.int y :: .int x :: st) :=
  fun H locs ls hP hD hS hl => lv_ior C.x C.b d (h H locs ls hP hD hS hl)
theorem g_ixor (C : gC k cc nL own Ts rm nm) {x y : Int32} (d : decode cc pc = .ok (.ixor, 1)) (h : gG k ws lv cs sl (pc + 1) (.int (x ^^^ y) :: st)) : gG k ws lv cs sl pc (.int y :: .int x :: st) :=
  fun H locs ls hP hD hS hl => lv_ixor C.x C.b d (h H locs ls hP hD hS hl)
theorem g_ishl (C : gC k cc nL own Ts rm nm) {x y : Int32} (d : decode cc pc = .ok (.ishl, 1)) (h : gG k ws lv cs sl (pc + 1) (.int (x <<< (y &&& 31)) :: st)) : gG k ws lv cs sl pc (.int y :: .int x :: st) :=
  fun H locs ls hP hD hS hl => lv_ishl C.x C.b d (h H locs ls hP hD hS hl)
theorem g_ishr (C : gC k cc nL own Ts rm nm) {x y : Int32} (d : decode cc pc = .ok (.ishr, 1)) (h : gG k ws lv cs sl (pc + 1) (.int (x >>> (y &&& 31)) :: st)) : gG k ws lv cs sl pc (.int y :: .int x :: st) :=
  fun H locs ls hP hD hS hl => lv_ishr C.x C.b d (h H locs ls hP hD hS hl)
theorem g_idiv (C : gC k cc nL own Ts rm nm) {x y : Int32} (d : decode cc pc = .ok (.idiv, 1)) (hne : ¬ y = 0) (h : gG k ws lv cs sl (pc + 1) (.int (x / y) :: st)) : gG k ws lv cs sl pc (.int y :: .int x :: st) :=
  fun H locs ls hP hD hS hl => lv_idiv C.x C.b d hne (h H locs ls hP hD hS hl)
theorem g_irem (C : gC k cc nL own Ts rm nm) {x y : Int32} (d : decode cc pc = .ok (.irem, 1)) (hne : ¬ y = 0) (h : gG k ws lv cs sl (pc + 1) (.int (x - x / y * y) :: st)) : gG k ws lv cs sl pc (.int y :: .int x :: st) :=
  fun H locs ls hP hD hS hl => lv_irem C.x C.b d hne (h H locs ls hP hD hS hl)
theorem g_ineg (C : gC k cc nL own Ts rm nm) {x : Int32} (d : decode cc pc = .ok (.ineg, 1)) (h : gG k ws lv cs sl (pc + 1) (.int (-x) :: st)) : gG k ws lv cs sl pc (.int x :: st) :=
  fun H locs ls hP hD hS hl => lv_ineg C.x C.b d (h H locs ls hP hD hS hl)
theorem g_iushr (C : gC k cc nL own Ts rm nm) {x y : Int32} (d : decode cc pc = .ok (.iushr, 1)) (h : gG k ws lv cs sl (pc + 1) (.int ((x.toUInt32 >>> (y.toUInt32 &&& Int32.toUInt32 31)).toInt32) :: st)) : gG k ws lv cs sl pc (.int y :: .int x :: st) :=
  fun H locs ls hP hD hS hl => lv_iushr C.x C.b d rfl (h H locs ls hP hD hS hl)
theorem g_i2l (C : gC k cc nL own Ts rm nm) {x : Int32} (d : decode cc pc = .ok (.i2l, 1)) (h : gG k ws lv cs sl (pc + 1) (.long x.toInt64 :: st)) : gG k ws lv cs sl pc (.int x :: st) :=
  fun H locs ls hP hD hS hl => lv_i2l C.x C.b d rfl (h H locs ls hP hD hS hl)
theorem g_lcmp_pre : True := trivial
theorem g_dup (C : gC k cc nL own Ts rm nm) {v : Value} (d : decode cc pc = .ok (.dup, 1)) (hv : v.category = 1) (h : gG k ws lv cs sl (pc + 1) (v :: v :: st)) : gG k ws lv cs sl pc (v :: st) :=
  fun H locs ls hP hD hS hl => lv_dup C.x C.b d hv (h H locs ls hP hD hS hl)
theorem g_dup_x1 (C : gC k cc nL own Ts rm nm) {v u : Value} (d : decode cc pc = .ok (.dup_x1, 1)) (hv : v.category = 1) (hu : u.category = 1) (h : gG k ws lv cs sl (pc + 1) (v :: u :: v :: st)) : gG k ws lv cs sl pc (v :: u :: st) :=
  fun H locs ls hP hD hS hl => lv_dup_x1 C.x C.b d hv hu (h H locs ls hP hD hS hl)
theorem g_dup2 (C : gC k cc nL own Ts rm nm) {v u : Value} (d : decode cc pc = .ok (.dup2, 1)) (hv : v.category = 1) (hu : u.category = 1) (h : gG k ws lv cs sl (pc + 1) (v :: u :: v :: u :: st)) : gG k ws lv cs sl pc (v :: u :: st) :=
  fun H locs ls hP hD hS hl => lv_dup2_11 C.x C.b d hv hu (h H locs ls hP hD hS hl)
theorem g_pop (C : gC k cc nL own Ts rm nm) {v : Value} (d : decode cc pc = .ok (.pop, 1)) (hv : v.category = 1) (h : gG k ws lv cs sl (pc + 1) (st)) : gG k ws lv cs sl pc (v :: st) :=
  fun H locs ls hP hD hS hl => lv_pop C.x C.b d hv (h H locs ls hP hD hS hl)
theorem g_null (C : gC k cc nL own Ts rm nm)  (d : decode cc pc = .ok (.aconst_null, 1)) (h : gG k ws lv cs sl (pc + 1) (.null :: st)) : gG k ws lv cs sl pc (st) :=
  fun H locs ls hP hD hS hl => lv_null C.x C.b d (h H locs ls hP hD hS hl)
theorem g_goto (C : gC k cc nL own Ts rm nm) {off : Int} {tgt : Nat} (d : decode cc pc = .ok (.goto off, 3)) (ht : (pc : Int) + off = (tgt : Int)) (h : gG k ws lv cs sl tgt st) : gG k ws lv cs sl pc st :=
  fun H locs ls hP hD hS hl => lv_goto C.x C.b d ht (h H locs ls hP hD hS hl)
theorem g_icmp_eq {α : Type} {X Y : Option α} {r : α} {x y : Int32} (hf : (if x = y then X else Y) = some r) (C : gC k cc nL own Ts rm nm) {off : Int} {tgt : Nat} (d : decode cc pc = .ok (.if_icmp .eq off, 3)) (ht : (pc : Int) + off = (tgt : Int)) (kt : X = some r → gG k ws lv cs sl tgt st) (kf : Y = some r → gG k ws lv cs sl (pc + 3) st) : gG k ws lv cs sl pc (.int y :: .int x :: st) :=
  fun H locs ls hP hD hS hl => lv_icmp_eq C.x C.b d ht (fun c => kt (by rw [if_pos c] at hf; exact hf) H locs ls hP hD hS hl) (fun c => kf (by rw [if_neg c] at hf; exact hf) H locs ls hP hD hS hl)
theorem g_if_eq {α : Type} {X Y : Option α} {r : α} {x : Int32} (hf : (if x = 0 then X else Y) = some r) (C : gC k cc nL own Ts rm nm) {off : Int} {tgt : Nat} (d : decode cc pc = .ok (.ifCond .eq off, 3)) (ht : (pc : Int) + off = (tgt : Int)) (kt : X = some r → gG k ws lv cs sl tgt st) (kf : Y = some r → gG k ws lv cs sl (pc + 3) st) : gG k ws lv cs sl pc (.int x :: st) :=
  fun H locs ls hP hD hS hl => lv_if_eq C.x C.b d ht (fun c => kt (by rw [if_pos c] at hf; exact hf) H locs ls hP hD hS hl) (fun c => kf (by rw [if_neg c] at hf; exact hf) H locs ls hP hD hS hl)
theorem g_icmp_ne {α : Type} {X Y : Option α} {r : α} {x y : Int32} (hf : (if x = y then X else Y) = some r) (C : gC k cc nL own Ts rm nm) {off : Int} {tgt : Nat} (d : decode cc pc = .ok (.if_icmp .ne off, 3)) (ht : (pc : Int) + off = (tgt : Int)) (kt : Y = some r → gG k ws lv cs sl tgt st) (kf : X = some r → gG k ws lv cs sl (pc + 3) st) : gG k ws lv cs sl pc (.int y :: .int x :: st) :=
  fun H locs ls hP hD hS hl => lv_icmp_ne C.x C.b d ht (fun c => kt (by rw [if_neg c] at hf; exact hf) H locs ls hP hD hS hl) (fun c => kf (by rw [if_pos c] at hf; exact hf) H locs ls hP hD hS hl)
theorem g_if_ne {α : Type} {X Y : Option α} {r : α} {x : Int32} (hf : (if x = 0 then X else Y) = some r) (C : gC k cc nL own Ts rm nm) {off : Int} {tgt : Nat} (d : decode cc pc = .ok (.ifCond .ne off, 3)) (ht : (pc : Int) + off = (tgt : Int)) (kt : Y = some r → gG k ws lv cs sl tgt st) (kf : X = some r → gG k ws lv cs sl (pc + 3) st) : gG k ws lv cs sl pc (.int x :: st) :=
  fun H locs ls hP hD hS hl => lv_if_ne C.x C.b d ht (fun c => kt (by rw [if_neg c] at hf; exact hf) H locs ls hP hD hS hl) (fun c => kf (by rw [if_pos c] at hf; exact hf) H locs ls hP hD hS hl)
theorem g_icmp_lt {α : Type} {X Y : Option α} {r : α} {x y : Int32} (hf : (if x < y then X else Y) = some r) (C : gC k cc nL own Ts rm nm) {off : Int} {tgt : Nat} (d : decode cc pc = .ok (.if_icmp .lt off, 3)) (ht : (pc : Int) + off = (tgt : Int)) (kt : X = some r → gG k ws lv cs sl tgt st) (kf : Y = some r → gG k ws lv cs sl (pc + 3) st) : gG k ws lv cs sl pc (.int y :: .int x :: st) :=
  fun H locs ls hP hD hS hl => lv_icmp_lt C.x C.b d ht (fun c => kt (by rw [if_pos c] at hf; exact hf) H locs ls hP hD hS hl) (fun c => kf (by rw [if_neg c] at hf; exact hf) H locs ls hP hD hS hl)
theorem g_if_lt {α : Type} {X Y : Option α} {r : α} {x : Int32} (hf : (if x < 0 then X else Y) = some r) (C : gC k cc nL own Ts rm nm) {off : Int} {tgt : Nat} (d : decode cc pc = .ok (.ifCond .lt off, 3)) (ht : (pc : Int) + off = (tgt : Int)) (kt : X = some r → gG k ws lv cs sl tgt st) (kf : Y = some r → gG k ws lv cs sl (pc + 3) st) : gG k ws lv cs sl pc (.int x :: st) :=
  fun H locs ls hP hD hS hl => lv_if_lt C.x C.b d ht (fun c => kt (by rw [if_pos c] at hf; exact hf) H locs ls hP hD hS hl) (fun c => kf (by rw [if_neg c] at hf; exact hf) H locs ls hP hD hS hl)
theorem g_icmp_ge {α : Type} {X Y : Option α} {r : α} {x y : Int32} (hf : (if y ≤ x then X else Y) = some r) (C : gC k cc nL own Ts rm nm) {off : Int} {tgt : Nat} (d : decode cc pc = .ok (.if_icmp .ge off, 3)) (ht : (pc : Int) + off = (tgt : Int)) (kt : X = some r → gG k ws lv cs sl tgt st) (kf : Y = some r → gG k ws lv cs sl (pc + 3) st) : gG k ws lv cs sl pc (.int y :: .int x :: st) :=
  fun H locs ls hP hD hS hl => lv_icmp_ge C.x C.b d ht (fun c => kt (by rw [if_pos c] at hf; exact hf) H locs ls hP hD hS hl) (fun c => kf (by rw [if_neg c] at hf; exact hf) H locs ls hP hD hS hl)
theorem g_if_ge {α : Type} {X Y : Option α} {r : α} {x : Int32} (hf : (if 0 ≤ x then X else Y) = some r) (C : gC k cc nL own Ts rm nm) {off : Int} {tgt : Nat} (d : decode cc pc = .ok (.ifCond .ge off, 3)) (ht : (pc : Int) + off = (tgt : Int)) (kt : X = some r → gG k ws lv cs sl tgt st) (kf : Y = some r → gG k ws lv cs sl (pc + 3) st) : gG k ws lv cs sl pc (.int x :: st) :=
  fun H locs ls hP hD hS hl => lv_if_ge C.x C.b d ht (fun c => kt (by rw [if_pos c] at hf; exact hf) H locs ls hP hD hS hl) (fun c => kf (by rw [if_neg c] at hf; exact hf) H locs ls hP hD hS hl)
theorem g_icmp_gt {α : Type} {X Y : Option α} {r : α} {x y : Int32} (hf : (if y < x then X else Y) = some r) (C : gC k cc nL own Ts rm nm) {off : Int} {tgt : Nat} (d : decode cc pc = .ok (.if_icmp .gt off, 3)) (ht : (pc : Int) + off = (tgt : Int)) (kt : X = some r → gG k ws lv cs sl tgt st) (kf : Y = some r → gG k ws lv cs sl (pc + 3) st) : gG k ws lv cs sl pc (.int y :: .int x :: st) :=
  fun H locs ls hP hD hS hl => lv_icmp_gt C.x C.b d ht (fun c => kt (by rw [if_pos c] at hf; exact hf) H locs ls hP hD hS hl) (fun c => kf (by rw [if_neg c] at hf; exact hf) H locs ls hP hD hS hl)
theorem g_if_gt {α : Type} {X Y : Option α} {r : α} {x : Int32} (hf : (if 0 < x then X else Y) = some r) (C : gC k cc nL own Ts rm nm) {off : Int} {tgt : Nat} (d : decode cc pc = .ok (.ifCond .gt off, 3)) (ht : (pc : Int) + off = (tgt : Int)) (kt : X = some r → gG k ws lv cs sl tgt st) (kf : Y = some r → gG k ws lv cs sl (pc + 3) st) : gG k ws lv cs sl pc (.int x :: st) :=
  fun H locs ls hP hD hS hl => lv_if_gt C.x C.b d ht (fun c => kt (by rw [if_pos c] at hf; exact hf) H locs ls hP hD hS hl) (fun c => kf (by rw [if_neg c] at hf; exact hf) H locs ls hP hD hS hl)
theorem g_icmp_le {α : Type} {X Y : Option α} {r : α} {x y : Int32} (hf : (if x ≤ y then X else Y) = some r) (C : gC k cc nL own Ts rm nm) {off : Int} {tgt : Nat} (d : decode cc pc = .ok (.if_icmp .le off, 3)) (ht : (pc : Int) + off = (tgt : Int)) (kt : X = some r → gG k ws lv cs sl tgt st) (kf : Y = some r → gG k ws lv cs sl (pc + 3) st) : gG k ws lv cs sl pc (.int y :: .int x :: st) :=
  fun H locs ls hP hD hS hl => lv_icmp_le C.x C.b d ht (fun c => kt (by rw [if_pos c] at hf; exact hf) H locs ls hP hD hS hl) (fun c => kf (by rw [if_neg c] at hf; exact hf) H locs ls hP hD hS hl)
theorem g_if_le {α : Type} {X Y : Option α} {r : α} {x : Int32} (hf : (if x ≤ 0 then X else Y) = some r) (C : gC k cc nL own Ts rm nm) {off : Int} {tgt : Nat} (d : decode cc pc = .ok (.ifCond .le off, 3)) (ht : (pc : Int) + off = (tgt : Int)) (kt : X = some r → gG k ws lv cs sl tgt st) (kf : Y = some r → gG k ws lv cs sl (pc + 3) st) : gG k ws lv cs sl pc (.int x :: st) :=
  fun H locs ls hP hD hS hl => lv_if_le C.x C.b d ht (fun c => kt (by rw [if_pos c] at hf; exact hf) H locs ls hP hD hS hl) (fun c => kf (by rw [if_neg c] at hf; exact hf) H locs ls hP hD hS hl)
/-- a boolean as the machine's int -/
def b2i (b : Bool) : Int32 := match b with
  | true => 1
  | false => 0
theorem b2i_0 (b : Bool) : b2i b = 0 ↔ b = false := by cases b <;> decide
theorem g_ifB_eq {α : Type} {X Y : Option α} {r : α} {b : Bool} (hf : (if b = true then X else Y) = some r) (C : gC k cc nL own Ts rm nm) {off : Int} {tgt : Nat} (d : decode cc pc = .ok (.ifCond .eq off, 3)) (ht : (pc : Int) + off = (tgt : Int)) (kt : Y = some r → gG k ws lv cs sl tgt st) (kf : X = some r → gG k ws lv cs sl (pc + 3) st) : gG k ws lv cs sl pc (.int (b2i b) :: st) :=
  fun H locs ls hP hD hS hl => lv_if_eq C.x C.b d ht (fun c => kt (by rw [(b2i_0 b).mp c] at hf; exact hf) H locs ls hP hD hS hl) (fun c => kf (by
    cases b with
    | false => exact absurd rfl c
    | true => exact hf) H locs ls hP hD hS hl)
theorem g_ifB_ne {α : Type} {X Y : Option α} {r : α} {b : Bool} (hf : (if b = true then X else Y) = some r) (C : gC k cc nL own Ts rm nm) {off : Int} {tgt : Nat} (d : decode cc pc = .ok (.ifCond .ne off, 3)) (ht : (pc : Int) + off = (tgt : Int)) (kt : X = some r → gG k ws lv cs sl tgt st) (kf : Y = some r → gG k ws lv cs sl (pc + 3) st) : gG k ws lv cs sl pc (.int (b2i b) :: st) :=
  fun H locs ls hP hD hS hl => lv_if_ne C.x C.b d ht (fun c => kt (by
    cases b with
    | false => exact absurd rfl c
    | true => exact hf) H locs ls hP hD hS hl) (fun c => kf (by rw [(b2i_0 b).mp c] at hf; exact hf) H locs ls hP hD hS hl)
/-- a place is looked at: within, or there is no answer -/
def ck {α : Type} (i : Int32) (n : Nat) (X : Option α) : Option α := if i < 0 ∨ n ≤ i.toNatClampNeg then none else X
theorem ck_e {α : Type} {i : Int32} {n : Nat} {X : Option α} {r : α} (h : ck i n X = some r) : vp_in i n ∧ X = some r := by
  unfold ck at h
  by_cases c : i < 0 ∨ n ≤ i.toNatClampNeg
  · rw [if_pos c] at h; cases h
  · rw [if_neg c] at h; exact ⟨c, h⟩
/-- a divisor is looked at -/
def cz {α : Type} (y : Int32) (X : Option α) : Option α := if y = 0 then none else X
theorem cz_e {α : Type} {y : Int32} {X : Option α} {r : α} (h : cz y X = some r) : ¬ y = 0 ∧ X = some r := by
  unfold cz at h
  by_cases c : y = 0
  · rw [if_pos c] at h; cases h
  · rw [if_neg c] at h; exact ⟨c, h⟩
theorem bd_e {α β : Type} {o : Option α} {X : α → Option β} {r : β} (h : o.bind X = some r) : ∃ u, o = some u ∧ X u = some r := Option.bind_eq_some_iff.mp h
theorem g_idivz {α : Type} {X : Option α} {r : α} {x y : Int32} (hf : cz y X = some r) (C : gC k cc nL own Ts rm nm) (d : decode cc pc = .ok (.idiv, 1)) (h : X = some r → gG k ws lv cs sl (pc + 1) (.int (x / y) :: st)) : gG k ws lv cs sl pc (.int y :: .int x :: st) :=
  fun H locs ls hP hD hS hl => lv_idiv C.x C.b d (cz_e hf).1 (h (cz_e hf).2 H locs ls hP hD hS hl)
theorem g_iremz {α : Type} {X : Option α} {r : α} {x y : Int32} (hf : cz y X = some r) (C : gC k cc nL own Ts rm nm) (d : decode cc pc = .ok (.irem, 1)) (h : X = some r → gG k ws lv cs sl (pc + 1) (.int (x - x / y * y) :: st)) : gG k ws lv cs sl pc (.int y :: .int x :: st) :=
  fun H locs ls hP hD hS hl => lv_irem C.x C.b d (cz_e hf).1 (h (cz_e hf).2 H locs ls hP hD hS hl)
-- the world in other words, fewer cells or another order
theorem g_perm (is : List Nat) {ws' : va_W} (hs : is.map (fun i => ws[i]?) = ws'.map some) (hn : va_nd is = true) (h : gG k ws' lv cs sl pc st) : gG k ws lv cs sl pc st :=
  fun H locs ls hP hD hS hl => h H locs ls (hP.sub is (fm_of_map hs)) (hD.sub is hn hs) hS hl
theorem g_world {ws' : va_W} (e : ws = ws') (h : gG k ws' lv cs sl pc st) : gG k ws lv cs sl pc st := e ▸ h
theorem g_stack {st' : List Value} (e : st = st') (h : gG k ws lv cs sl pc st') : gG k ws lv cs sl pc st := e ▸ h
theorem g_lv (is : List Nat) {lv' : List (Nat × Value)} (hs : lv_pick lv is = lv') (h : gG k ws lv' cs sl pc st) : gG k ws lv cs sl pc st :=
  fun H locs ls hP hD hS hl => h H locs ls hP hD hS (lv_sub hl is hs)
theorem g_widen {c2 s2 : Nat} (h1 : cs ≤ c2) (h2 : sl ≤ s2) (h : gG k ws lv c2 s2 pc st) : gG k ws lv cs sl pc st :=
  fun H locs ls hP hD hS hl => W.widen h1 h2 (h H locs ls hP hD hS hl)
-- fields and arrays
theorem g_getf (C : gC k cc nL own Ts rm nm) {E ref : String} {T : u_T} {N ci ix a : Nat} (q : Nat) {fs : List Value} (he : ws[q]? = some (a, .inr (ci, fs))) (hc : vwCl[ci]? = some (E, T, N)) (hin : ∀ w ∈ u_ws E T N, w ∈ Ts) (j : Nat) (hj : j < N) (hl9 : Cond.fieldLink own ix ref (T j).2.1 (T j).2.2.1 ∈ Ts) (hsame : (T j).1 = ref) {v : Value} (hv : fs[j]? = some v) (d : decode cc pc = .ok (.getfield ix, 3)) (h : gG k ws lv cs sl (pc + 3) (v :: st)) : gG k ws lv cs sl pc (.ref a :: st) :=
  fun H locs ls hP hD hS hl => va_get C.x C.b C.ts hin C.ow C.K hP q he hc j hj (C.ts _ hl9) (fun _ h9 => hsame ▸ h9) hv d (h H locs ls hP hD hS hl)
theorem g_putf (C : gC k cc nL own Ts rm nm) {E ref : String} {T : u_T} {N ci ix a : Nat} (q : Nat) {fs : List Value} (he : ws[q]? = some (a, .inr (ci, fs))) (hc : vwCl[ci]? = some (E, T, N)) (hin : ∀ w ∈ u_ws E T N, w ∈ Ts) (ty0 : Nat → FieldType) (hty : ∀ k, k < N → parseFieldDescriptor (T k).2.2.1 = some (ty0 k)) (hnm : ∀ a, a < N → ∀ b, b < N → a ≠ b → (T a).2.1 ≠ (T b).2.1) (j : Nat) (hj : j < N) (hl9 : Cond.fieldLink own ix ref (T j).2.1 (T j).2.2.1 ∈ Ts) (hsame : (T j).1 = ref) (hfin : (T j).2.2.2 = false) {ty : FieldType} {v : Value} (hd9 : parseFieldDescriptor (T j).2.2.1 = some ty) (hn : narrow ty v = v) (hfit : fits ty v = true) (hlen : j < fs.length) (d : decode cc pc = .ok (.putfield ix, 3)) {ws' : va_W} (e : ws.set q (a, .inr (ci, fs.set j v)) = ws') (h : gG k ws' lv cs sl (pc + 3) st) : gG k ws lv cs sl pc (v :: .ref a :: st) :=
  fun H locs ls hP hD hS hl => va_put C.x C.b C.ts hin ty0 hty hnm C.ow C.K hP hD hS q he hc j hj (C.ts _ hl9) (fun _ h9 => hsame ▸ h9) hfin hd9 hn hfit hlen d (fun H1 locs1 hP hD hS => h H1 locs1 ls (e ▸ hP) (e ▸ hD) hS hl)
theorem g_putF (C : gC k cc nL own Ts rm "<init>") {E : String} {T : u_T} {N ci ix a : Nat} (q : Nat) {fs : List Value} (he : ws[q]? = some (a, .inr (ci, fs))) (hc : vwCl[ci]? = some (E, T, N)) (hin : ∀ w ∈ u_ws E T N, w ∈ Ts) (ty0 : Nat → FieldType) (hty : ∀ k, k < N → parseFieldDescriptor (T k).2.2.1 = some (ty0 k)) (hnm : ∀ a, a < N → ∀ b, b < N → a ≠ b → (T a).2.1 ≠ (T b).2.1) (j : Nat) (hj : j < N) (hl9 : Cond.fieldLink own ix own (T j).2.1 (T j).2.2.1 ∈ Ts) (hsame : (T j).1 = own) (hfin : (T j).2.2.2 = true) {ty : FieldType} {v : Value} (hd9 : parseFieldDescriptor (T j).2.2.1 = some ty) (hn : narrow ty v = v) (hfit : fits ty v = true) (hlen : j < fs.length) (d : decode cc pc = .ok (.putfield ix, 3)) {ws' : va_W} (e : ws.set q (a, .inr (ci, fs.set j v)) = ws') (h : gG k ws' lv cs sl (pc + 3) st) : gG k ws lv cs sl pc (v :: .ref a :: st) :=
  fun H locs ls hP hD hS hl => va_putF C.x C.b C.ts hin ty0 hty hnm C.ow C.K hP hD hS q he hc j hj (C.ts _ hl9) (fun _ h9 => hsame ▸ h9) hfin C.na hsame hd9 hn hfit hlen d (fun H1 locs1 hP hD hS => h H1 locs1 ls (e ▸ hP) (e ▸ hD) hS hl)
theorem g_iald {α : Type} {X : Option α} {r : α} {i : Int32} {n : Nat} (hf : ck i n X = some r) (C : gC k cc nL own Ts rm nm) (q : Nat) {a : Nat} {f : Nat → Int32} (ha : ws[q]? = some (a, .inl ((kD k).1 100, n, .inl f))) (d : decode cc pc = .ok (.iaload, 1)) (h : X = some r → gG k ws lv cs sl (pc + 1) (.int (f i.toNatClampNeg) :: st)) : gG k ws lv cs sl pc (.int i :: .ref a :: st) :=
  fun H locs ls hP hD hS hl => va_iald C.x C.b C.K hP q 0 ha rfl (ck_e hf).1 d (h (ck_e hf).2 H locs ls hP hD hS hl)
theorem g_iast {α : Type} {X : Option α} {r : α} {i x : Int32} {n : Nat} (hf : ck i n X = some r) (C : gC k cc nL own Ts rm nm) (q : Nat) {a : Nat} {f : Nat → Int32} (ha : ws[q]? = some (a, .inl ((kD k).1 100, n, .inl f))) (d : decode cc pc = .ok (.iastore, 1)) {ws' : va_W} (e : ws.set q (a, .inl ((kD k).1 100, n, .inl (upd f i.toNatClampNeg x))) = ws') (h : X = some r → gG k ws' lv cs sl (pc + 1) st) : gG k ws lv cs sl pc (.int x :: .int i :: .ref a :: st) :=
  fun H locs ls hP hD hS hl => va_iast C.x C.b C.K hP hD hS q 0 ha rfl (ck_e hf).1 d (fun H1 locs1 hP hD hS => h (ck_e hf).2 H1 locs1 ls (e ▸ hP) (e ▸ hD) hS hl)
theorem g_aldq {i : Int32} {n : Nat} (hin : vp_in i n) (C : gC k cc nL own Ts rm nm) (q : Nat) {a : Nat} {f : Nat → Option Nat} {v : Value} (ha : ws[q]? = some (a, .inl ((kD k).1 103, n, .inr (.inr (.inr (.inr f)))))) (hv : va_rf (f i.toNatClampNeg) = v) (d : decode cc pc = .ok (.aaload, 1)) (h : gG k ws lv cs sl (pc + 1) (v :: st)) : gG k ws lv cs sl pc (.int i :: .ref a :: st) :=
  fun H locs ls hP hD hS hl => va_aldq C.x C.b C.K hP q 1 ha rfl hin d (by rw [hv]; exact h H locs ls hP hD hS hl)
theorem g_alen (C : gC k cc nL own Ts rm nm) (q t0 : Nat) {a : Nat} {cA : ClassId} {x : vp_A} {ty : FieldType} (ha : ws[q]? = some (a, .inl (cA, x))) (ht : (tysD (kD k))[t0]? = some (cA, ty)) {v : Int32} (hv : Int32.ofNat x.1 = v) (d : decode cc pc = .ok (.arraylength, 1)) (h : gG k ws lv cs sl (pc + 1) (.int v :: st)) : gG k ws lv cs sl pc (.ref a :: st) :=
  fun H locs ls hP hD hS hl => va_alen C.x C.b C.K hP q t0 ha ht hv d (h H locs ls hP hD hS hl)
theorem g_ifnull (C : gC k cc nL own Ts rm nm) {a : Nat} {off : Int} (d : decode cc pc = .ok (.ifnull off, 3)) (h : gG k ws lv cs sl (pc + 3) st) : gG k ws lv cs sl pc (.ref a :: st) :=
  fun H locs ls hP hD hS hl => lv_ifnull C.x C.b d (h H locs ls hP hD hS hl)
theorem g_ifnullN (C : gC k cc nL own Ts rm nm) {off : Int} {tgt : Nat} (d : decode cc pc = .ok (.ifnull off, 3)) (ht : (pc : Int) + off = (tgt : Int)) (h : gG k ws lv cs sl tgt st) : gG k ws lv cs sl pc (.null :: st) :=
  fun H locs ls hP hD hS hl => lv_ifnullN C.x C.b d ht (h H locs ls hP hD hS hl)
theorem g_ifnonnull (C : gC k cc nL own Ts rm nm) {a : Nat} {off : Int} {tgt : Nat} (d : decode cc pc = .ok (.ifnonnull off, 3)) (ht : (pc : Int) + off = (tgt : Int)) (h : gG k ws lv cs sl tgt st) : gG k ws lv cs sl pc (.ref a :: st) :=
  fun H locs ls hP hD hS hl => lv_ifnonnull C.x C.b d ht (h H locs ls hP hD hS hl)
theorem g_ifnonnullN (C : gC k cc nL own Ts rm nm) {off : Int} (d : decode cc pc = .ok (.ifnonnull off, 3)) (h : gG k ws lv cs sl (pc + 3) st) : gG k ws lv cs sl pc (.null :: st) :=
  fun H locs ls hP hD hS hl => lv_ifnonnullN C.x C.b d (h H locs ls hP hD hS hl)
end GR
-- contracts: from the cells w0 and the arguments: it returns as Post says, or throws as PX says; the cells then; nothing else is written
def TQ (D : va_G) (w0 : va_W) (Post : Option Value → va_W → Prop) (sz : Nat) : Array Value → State → Outcome → State → Prop := fun _ st oc t =>
  (∃ (rv : Option Value) (w1 : va_W), oc = .returned rv ∧ Post rv w1 ∧ va_P D vwCl w1 t.heap ∧ va_K D vwCl (tysD D) t ∧ va_D (va_A w0 sz) w1) ∧ va_F (va_A w0 sz) st t
def TX (D : va_G) (w0 : va_W) (PX : String → va_W → Prop) (sz : Nat) : String → State → State → Prop := fun E st t =>
  (∃ w1 : va_W, PX E w1 ∧ va_P D vwCl w1 t.heap ∧ va_K D vwCl (tysD D) t ∧ va_D (va_A w0 sz) w1) ∧ va_F (va_A w0 sz) st t
def TB (D : va_G) (w0 : va_W) (sz : Nat) : State → Prop := fun U => U.heap.size = sz ∧ va_P D vwCl w0 U.heap ∧ va_K D vwCl (tysD D) U ∧ va_D (fun _ => True) w0 ∧ gAmb (va_A w0 sz) U U.heap
def Tc (l : Launch) (D : va_G) (y : MethodName) (ws : List Cond) (rm : Room) (args : List Value) (w0 : va_W) (Post : Option Value → va_W → Prop) (PX : String → va_W → Prop) (mc ms : Nat) : Prop :=
  ∀ sz : Nat, vx_Met l y ws rm (va_Pc args (TB D w0 sz)) (TQ D w0 Post sz) (TX D w0 PX sz) mc ms (va_A w0 sz)
def gE (k : Kt) (w0 : va_W) (Post : Option Value → va_W → Prop) (PX : String → va_W → Prop) (mc ms : Nat) (ret : Option FieldType) (tab : List ExceptionTableEntry) : Prop :=
  (kMe k).sig.returnType = ret ∧ (kC k).exceptionTable.toList = tab ∧ kF k = va_A w0 (kS k).heap.size ∧
  kQ k = vx_MQ (kB k) (TQ (kD k) w0 Post (kS k).heap.size) (TX (kD k) w0 PX (kS k).heap.size) (kA k) (kS k) mc ms (va_A w0 (kS k).heap.size)
theorem TB_blind {D : va_G} {w0 : va_W} {sz : Nat} {args : List Value} : FrameBlind (va_Pc args (TB D w0 sz)) := fun a U g mk q => by
  obtain ⟨q0, q1, qP, qK, qD, qA⟩ := q
  exact ⟨q0, q1, qP, va_K.moved (u := U) (U := U.calling g mk a) (Vm.Alike.refl U.vm) qK, qD, gAmb.same (u := U) (U := U.calling g mk a) rfl qA⟩
theorem TB_of {k : Kt} {cc : ByteArray} {nL : Nat} {own nm : String} {Ts : List Cond} {rm : Room} {ws wc : va_W} {H : Heap} {locs : List Loc} (C : gC k cc nL own Ts rm nm) (isC : List Nat) (hC : isC.map (fun i => ws[i]?) = wc.map some) (hn : va_nd isC = true) (hP : va_P (kD k) vwCl ws H) (hD : va_D (kF k) ws) (hS : va_S (kF k) (kS k).heap H locs) :
    ∀ U : State, U.heap = H → (kS k).WarmedH U.vm → TB (kD k) wc H.size U := by
  intro U hU hW
  have hF := va_free hD hS C.A isC hC
  refine ⟨by rw [hU], ?_, va_K.moved hW.alike C.K, (hD.sub isC hn hC).weaken (fun _ _ _ _ => trivial), ?_⟩
  · rw [hU]; exact hP.sub isC (fm_of_map hC)
  · rw [hU]
    exact ((gAmb.warm hW C.amb).kept (fun a h1 h2 => hS.2.1 a h1 h2)).narrow hF
section GT
variable {k : Kt} {cc : ByteArray} {nL : Nat} {own nm : String} {Ts : List Cond} {rm : Room} {ws : va_W} {lv : List (Nat × Value)} {cs sl pc : Nat} {st : List Value} {w0 : va_W} {Post : Option Value → va_W → Prop} {PX : String → va_W → Prop} {mc ms : Nat} {ret : Option FieldType} {tab : List ExceptionTableEntry}
theorem TQ_of (C : gC k cc nL own Ts rm nm) (hF : kF k = va_A w0 (kS k).heap.size) {H : Heap} {locs : List Loc} {rv : Option Value} (hp : Post rv ws) (hP : va_P (kD k) vwCl ws H) (hD : va_D (kF k) ws) (hS : va_S (kF k) (kS k).heap H locs) :
    ∀ t : State, t.heap = H → (kS k).WarmedH t.vm → TQ (kD k) w0 Post (kS k).heap.size (kA k) (kS k) (.returned rv) t := by
  intro t ht hW
  rw [hF] at hD hS
  exact ⟨⟨rv, ws, rfl, hp, by rw [ht]; exact hP, va_K.moved hW.alike C.K, hD⟩, hS.F ht⟩
theorem g_iret (C : gC k cc nL own Ts rm nm) {v : Int32} (E : gE k w0 Post PX mc ms (some .int) tab) (d : decode cc pc = .ok (.ireturn, 1)) (hc : cs ≤ mc) (hs : sl ≤ ms) (hp : Post (some (.int v)) ws) : gG k ws lv cs sl pc [.int v] := by
  intro H locs ls hP hD hS hl
  have hlk := C.lk
  have hq := TQ_of C E.2.2.1 hp hP hD hS
  have hf : ∀ q ∈ locs, va_A w0 (kS k).heap.size q.base := by rw [← E.2.2.1]; exact hS.2.2
  refine W.widen hc hs ?_
  rw [E.2.2.2]
  exact vx_ret (W.iret C.x C.b E.1 hq hf d (hlocks := hlk))
theorem g_bret (C : gC k cc nL own Ts rm nm) {b : Bool} (E : gE k w0 Post PX mc ms (some .boolean) tab) (d : decode cc pc = .ok (.ireturn, 1)) (hc : cs ≤ mc) (hs : sl ≤ ms) (hp : Post (some (.int (b2i b))) ws) : gG k ws lv cs sl pc [.int (b2i b)] := by
  intro H locs ls hP hD hS hl
  have hlk := C.lk
  have hq := TQ_of C E.2.2.1 hp hP hD hS
  have hf : ∀ q ∈ locs, va_A w0 (kS k).heap.size q.base := by rw [← E.2.2.1]; exact hS.2.2
  refine W.widen hc hs ?_
  rw [E.2.2.2]
  exact vx_ret (W.zret C.x C.b E.1 (by cases b <;> rfl) hq hf d (hlocks := hlk))
theorem g_vret (C : gC k cc nL own Ts rm nm) (E : gE k w0 Post PX mc ms none tab) (d : decode cc pc = .ok (.return_, 1)) (hc : cs ≤ mc) (hs : sl ≤ ms) (hp : Post none ws) : gG k ws lv cs sl pc [] := by
  intro H locs ls hP hD hS hl
  have hlk := C.lk
  have hq := TQ_of C E.2.2.1 hp hP hD hS
  have hf : ∀ q ∈ locs, va_A w0 (kS k).heap.size q.base := by rw [← E.2.2.1]; exact hS.2.2
  refine W.widen hc hs ?_
  rw [E.2.2.2]
  exact vx_ret (W.vret C.x C.b E.1 hq hf d (hlocks := hlk))
theorem g_dret (C : gC k cc nL own Ts rm nm) {v : UInt64} (E : gE k w0 Post PX mc ms (some .double) tab) (d : decode cc pc = .ok (.dreturn, 1)) (hc : cs ≤ mc) (hs : sl ≤ ms) (hp : Post (some (.double v)) ws) : gG k ws lv cs sl pc [.double v] := by
  intro H locs ls hP hD hS hl
  have hlk := C.lk
  have hq := TQ_of C E.2.2.1 hp hP hD hS
  have hf : ∀ q ∈ locs, va_A w0 (kS k).heap.size q.base := by rw [← E.2.2.1]; exact hS.2.2
  refine W.widen hc hs ?_
  rw [E.2.2.2]
  exact vx_ret (W.dret C.x C.b E.1 hq hf d (hlocks := hlk))
/-- an exception that no row of the (empty) table takes goes on to the caller -/
theorem g_out (C : gC k cc nL own Ts rm nm) {X : String} (E : gE k w0 Post PX mc ms ret []) (hc : cs ≤ mc) (hs : sl ≤ ms) (hp : PX X ws) : gX k ws lv cs sl pc st X := by
  intro H locs ls ce q9 hP hD hS hl h1 h2 h3
  have hlk := C.lk
  have hf : ∀ q ∈ locs, va_A w0 (kS k).heap.size q.base := by rw [← E.2.2.1]; exact hS.2.2
  rw [E.2.2.1] at hD hS
  rw [E.2.2.2]
  exact vx_out (fun x hx => by rw [E.2.1] at hx; cases hx) hlk h1 h2 h3 (fun t ht hv => ⟨⟨ws, hp, by rw [ht]; exact hP, va_K.moved hv C.K, hD⟩, hS.F ht⟩) hf hc hs
theorem Tc_of {l : Launch} {D : va_G} {y : MethodName} {ws ws' : List Cond} {rm : Room} {args : List Value} {w0 : va_W} {Post : Option Value → va_W → Prop} {PX : String → va_W → Prop} {mc ms : Nat} {cc : ByteArray} {maxL : Nat} {ret : Option FieldType} (htr : l.stackTraces = false) (hy : plainName y.cls = true) (hw : ws = Cond.code y cc maxL ret :: ws') (hlen : (lg_sl args).length ≤ maxL)
    (body : ∀ k : Kt, gC k cc maxL y.cls ws rm y.name → gE k w0 Post PX mc ms ret [] → kL k = l → kD k = D → gG k w0 (lv_args 0 args) 0 0 0 []) : Tc l D y ws rm args w0 Post PX mc ms := by
  intro sz
  refine vx_ofW hy hw ?_
  intro p e s m args' below meth c s₁ B hml hex hv
  obtain ⟨rfl, hsz, hP, hK, hD0, hAmb⟩ := hv
  subst hsz
  have hts := atoms_spec (ws := ws) B.pre
  have hown : s.vm.findClass y.cls = some m.cls := findClass_of_methodNamed B.named
  have hnm : meth.name = y.name := (name_of_methodNamed B.named B.method).1
  have hl := lv_entry args hlen
  have hex' : c.exceptionTable.toList = [] := by
    cases h : c.exceptionTable.toList with
    | nil => rfl
    | cons x r => exact (hex x (by rw [h]; exact List.mem_cons_self)).elim
  rw [lg_entry_eq]
  exact body (p, l, e, (headSpec ws rm).room, s, m, args.toArray, below, meth, c, maxL, D, va_A w0 s.heap.size, vx_MQ below (TQ D w0 Post s.heap.size) (TX D w0 PX s.heap.size) args.toArray s mc ms (va_A w0 s.heap.size))
    ⟨B.exec, B.bytes, hml, hown, hts, hK, fun q h => Or.inr h, B.notSynchronized, rfl, hnm, hAmb, htr, rfl⟩ ⟨B.returns, hex', rfl, rfl⟩ rfl rfl s.heap [] _ hP hD0.self va_S.rf hl
end GT
-- calls
def gRun (k : Kt) (ws : va_W) (lv : List (Nat × Value)) (cs sl pc : Nat) (st0 rest : List Value) (wc : va_W) (Post : Option Value → va_W → Prop) (PX : String → va_W → Prop) (mc ms : Nat) : Prop :=
  ∀ (H : Heap) (locs : List Loc) (ls : Array Slot), va_P (kD k) vwCl ws H → va_D (kF k) ws → va_S (kF k) (kS k).heap H locs → lv_has ls (kN k) lv →
    ∃ a : Array Value, vx_Run (kP k) (kL k) (kE k) (kR k) (kS k) (kM k) (kA k) (kB k) (kMe k) (kC k) H locs cs sl mc ms (F0 (kM k) pc ls st0) rest (TQ (kD k) wc Post H.size a) (TX (kD k) wc PX H.size) (va_A wc H.size)
section GB
variable {k : Kt} {cc : ByteArray} {nL : Nat} {own nm : String} {Ts : List Cond} {rm rc : Room} {ws wc : va_W} {lv : List (Nat × Value)} {cs sl pc mc ms n ix maxL : Nat} {st0 rest As : List Value} {Post : Option Value → va_W → Prop} {PX : String → va_W → Prop} {ret : Option FieldType} {y : MethodName} {wy : List Cond} {bytes : ByteArray}
theorem gr_V (C : gC k cc nL own Ts rm nm) {E : String} {T : u_T} {N ci b : Nat} {fs : List Value} (hM : Tc (kL k) (kD k) y wy rc (.ref b :: As) wc Post PX mc ms) (cw : (∀ w ∈ Ts, w.before (kA k) (kS k) = true) → CallW rm (kS k) (kA k) own E ix y bytes maxL ret wy rc mc ms n) (q : Nat) (he : ws[q]? = some (b, .inr (ci, fs))) (hcl : vwCl[ci]? = some (E, T, N)) (isC : List Nat) (hC : isC.map (fun i => ws[i]?) = wc.map some) (hnd : va_nd isC = true)
    (hn : As.length = n) (hst : st0 = As.reverse ++ .ref b :: rest) (hW : (rest.map fun v => v.category).sum ≤ 8) (d : decode cc pc = .ok (.invokevirtual ix, 3)) (hf : cs + mc ≤ rm.cells ∧ sl + ms ≤ rm.slots) : gRun k ws lv cs sl pc st0 rest wc Post PX mc ms := by
  intro H locs ls hP hD hS hl
  refine ⟨_, vx_runV ⟨C.x, C.b, C.ml, C.ow, C.ts⟩ (hM H.size) (C.R ▸ cw C.ts) ⟨TB_blind, va_recv C.K hP hcl he, fun U hU hW => ⟨rfl, TB_of C isC hC hnd hP hD hS U hU hW⟩⟩ rfl hn hl.1 hst ?_ d (C.R ▸ hf)⟩
  show 2 * 0 + _ ≤ 8
  omega
theorem gr_S (C : gC k cc nL own Ts rm nm) (hM : Tc (kL k) (kD k) y wy rc As wc Post PX mc ms) (cw : (∀ w ∈ Ts, w.before (kA k) (kS k) = true) → CallB rm (kS k) (kA k) own ix y bytes maxL ret wy rc mc ms n ∧ (Cond.static y).before (kA k) (kS k) = true) (isC : List Nat) (hC : isC.map (fun i => ws[i]?) = wc.map some) (hnd : va_nd isC = true)
    (hn : As.length = n) (hst : st0 = As.reverse ++ rest) (hW : (rest.map fun v => v.category).sum ≤ 8) (d : decode cc pc = .ok (.invokestatic ix, 3)) (hf : cs + mc ≤ rm.cells ∧ sl + ms ≤ rm.slots) : gRun k ws lv cs sl pc st0 rest wc Post PX mc ms := by
  intro H locs ls hP hD hS hl
  refine ⟨_, vx_runS ⟨C.x, C.b, C.ml, C.ow, C.ts⟩ (hM H.size) (C.R ▸ cw C.ts) ⟨TB_blind, fun U hU hW => ⟨rfl, TB_of C isC hC hnd hP hD hS U hU hW⟩⟩ rfl hn hl.1 hst ?_ d (C.R ▸ hf)⟩
  show 2 * 0 + _ ≤ 8
  omega
theorem gr_I (C : gC k cc nL own Ts rm nm) {b : Nat} (hM : Tc (kL k) (kD k) y wy rc (.ref b :: As) wc Post PX mc ms) (cw : (∀ w ∈ Ts, w.before (kA k) (kS k) = true) → CallB rm (kS k) (kA k) own ix y bytes maxL none wy rc mc ms n ∧ y.name = "<init>" ∧ (Cond.instanceMethod y).before (kA k) (kS k) = true) (isC : List Nat) (hC : isC.map (fun i => ws[i]?) = wc.map some) (hnd : va_nd isC = true)
    (hn : As.length = n) (hst : st0 = As.reverse ++ .ref b :: rest) (hW : (rest.map fun v => v.category).sum ≤ 8) (d : decode cc pc = .ok (.invokespecial ix, 3)) (hf : cs + mc ≤ rm.cells ∧ sl + ms ≤ rm.slots) : gRun k ws lv cs sl pc st0 rest wc Post PX mc ms := by
  intro H locs ls hP hD hS hl
  refine ⟨_, vx_runI ⟨C.x, C.b, C.ml, C.ow, C.ts⟩ (hM H.size) (C.R ▸ cw C.ts) ⟨TB_blind, fun U hU hW => ⟨rfl, TB_of C isC hC hnd hP hD hS U hU hW⟩⟩ rfl hn hl.1 hst ?_ d (C.R ▸ hf)⟩
  show 2 * 0 + _ ≤ 8
  omega
theorem gr_IN (C : gC k cc nL own Ts rm nm) {b : Nat} {host : String} (hM : Tc (kL k) (kD k) y wy rc (.ref b :: As) wc Post PX mc ms) (cw : (∀ w ∈ Ts, w.before (kA k) (kS k) = true) → va_CN rm (kS k) (kA k) own ix y host bytes maxL none wy rc mc ms n ∧ y.name = "<init>" ∧ (Cond.instanceMethod y).before (kA k) (kS k) = true) (isC : List Nat) (hC : isC.map (fun i => ws[i]?) = wc.map some) (hnd : va_nd isC = true)
    (hn : As.length = n) (hst : st0 = As.reverse ++ .ref b :: rest) (hW : (rest.map fun v => v.category).sum ≤ 8) (d : decode cc pc = .ok (.invokespecial ix, 3)) (hf : cs + mc ≤ rm.cells ∧ sl + ms ≤ rm.slots) : gRun k ws lv cs sl pc st0 rest wc Post PX mc ms := by
  intro H locs ls hP hD hS hl
  refine ⟨_, vx_runIN ⟨C.x, C.b, C.ml, C.ow, C.ts⟩ (hM H.size) (C.R ▸ cw C.ts) ⟨TB_blind, fun U hU hW => ⟨rfl, TB_of C isC hC hnd hP hD hS U hU hW⟩⟩ rfl hn hl.1 hst ?_ d (C.R ▸ hf)⟩
  show 2 * 0 + _ ≤ 8
  omega
/-- behind a call: the cells that the callee had are w1 now, the others wr stand as they were -/
theorem g_callG (C : gC k cc nL own Ts rm nm) (run : gRun k ws lv cs sl pc st0 rest wc Post PX mc ms) (isC isR : List Nat) {wr : va_W} (hC : isC.map (fun i => ws[i]?) = wc.map some) (hR : isR.map (fun i => ws[i]?) = wr.map some) (hn : va_nd isR = true) (hdis : ∀ i ∈ isR, i ∉ isC)
    (kx : ∀ (X : String) (w1 : va_W), PX X w1 → gX k (wr ++ w1) lv (cs + mc) (sl + ms) pc rest X) (kk : ∀ (rv : Option Value) (w1 : va_W), Post rv w1 → gG k (wr ++ w1) lv (cs + mc) (sl + ms) (pc + 3) (rv.toList ++ rest)) : gG k ws lv cs sl pc st0 := by
  intro H locs ls hP hD hS hl T hT X
  obtain ⟨a, run⟩ := run H locs ls hP hD hS hl
  have hF := va_free hD hS C.A isC hC
  rcases run T hT X with ⟨v, st₀, t, T', L, h0, X', hL, e1, e2, ⟨⟨rv, w1, hv, hp, hP1, hK1, hD1⟩, hFr⟩, stp⟩ | ⟨q, st₀, t, T', L, E, ce, h0, X', hL, e1, e2, ⟨⟨w1, hp, hP1, hK1, hD1⟩, hFr⟩, hce, hcv, hcl, stp⟩
  · cases hv
    obtain ⟨k1, k2, k3⟩ := vx_keep h0 e1 hS (fun q _ h => hF q h) hF hL hFr
    obtain ⟨hP2, hD2⟩ := va_join (H1 := T'.heap) hP hD isC isR hC hR hn hdis k2 hF (by rw [e1]; exact hP1) hD1
    obtain ⟨t2, a1, b1⟩ := kk v w1 hp T'.heap (locs ++ L) ls hP2 hD2 k3 hl T' rfl X'
    exact ⟨t2, stp t2 a1, b1⟩
  · obtain ⟨k1, k2, k3⟩ := vx_keep h0 e1 hS (fun q _ h => hF q h) hF hL hFr
    obtain ⟨hP2, hD2⟩ := va_join (H1 := T'.heap) hP hD isC isR hC hR hn hdis k2 hF (by rw [e1]; exact hP1) hD1
    obtain ⟨t2, a1, b1⟩ := kx E w1 hp T'.heap (locs ++ L) ls ce q hP2 hD2 k3 hl (by rw [e1]; exact hce) hcv hcl T' rfl X'
    exact ⟨t2, stp.trans a1, b1⟩
/-- a world whose callee part came back as it was -/
theorem gw_back {D : va_G} {A : Nat → Prop} {H H1 : Heap} (isC : List Nat) (hC : isC.map (fun i => ws[i]?) = wc.map some) (hP : va_P D vwCl ws H) (hD : va_D A ws) (hk : ∀ q : Nat, q < H.size → ¬ va_A wc H.size q → H1[q]? = H[q]?) (hP1 : va_P D vwCl wc H1) : va_P D vwCl ws H1 := by
  intro i q hq
  by_cases hi : i ∈ isC
  · obtain ⟨j, hj⟩ := List.getElem?_of_mem hi
    have h1 : (isC.map (fun i => ws[i]?))[j]? = some (some q) := by rw [List.getElem?_map, hj]; show some ws[i]? = _; rw [hq]
    rw [hC, List.getElem?_map] at h1
    cases hw : wc[j]? with
    | none => rw [hw] at h1; cases h1
    | some z =>
      rw [hw] at h1
      cases h1
      exact hP1 j _ hw
  · refine (hP i q hq).kept (hk q.1 (hP i q hq).lt ?_)
    rintro (⟨j, e, h⟩ | h)
    · have h1 : (isC.map (fun i => ws[i]?))[j]? = some (some (q.1, e)) := by rw [hC, List.getElem?_map, h]; rfl
      rw [List.getElem?_map] at h1
      cases hz : isC[j]? with
      | none => rw [hz] at h1; cases h1
      | some i2 =>
        rw [hz] at h1
        have h2 : ws[i2]? = some (q.1, e) := Option.some.inj h1
        have h3 := hD.1 i i2 q (q.1, e) hq h2 rfl
        subst h3
        exact hi (List.mem_of_getElem? hz)
    · have := (hP i q hq).lt
      omega
/-- a reader: its cells stand as they were -/
theorem g_callR {α β : Type} {o : Option α} {X : α → Option β} {r : β} (hf : o.bind X = some r) (C : gC k cc nL own Ts rm nm) (vf : α → Option Value) (run : ∀ u, o = some u → gRun k ws lv cs sl pc st0 rest wc (fun rv w => rv = vf u ∧ w = wc) (fun _ _ => False) mc ms) (isC : List Nat) (hC : isC.map (fun i => ws[i]?) = wc.map some) {pc' cs' sl' : Nat} (hpc : pc + 3 = pc') (hcs : cs + mc = cs') (hsl : sl + ms = sl') (stk : α → List Value) (hstk : ∀ u, (vf u).toList ++ rest = stk u)
    (kk : ∀ u, X u = some r → gG k ws lv cs' sl' pc' (stk u)) : gG k ws lv cs sl pc st0 := by
  obtain ⟨u, hu, hf⟩ := bd_e hf
  subst hpc
  subst hcs
  subst hsl
  intro H locs ls hP hD hS hl T hT Y
  obtain ⟨a, run⟩ := run u hu H locs ls hP hD hS hl
  have hF := va_free hD hS C.A isC hC
  rcases run T hT Y with ⟨v, st₀, t, T', L, h0, X', hL, e1, e2, ⟨⟨rv, w1, hv, ⟨hp1, hp2⟩, hP1, hK1, hD1⟩, hFr⟩, stp⟩ | ⟨q, st₀, t, T', L, E, ce, h0, X', hL, e1, e2, ⟨⟨w1, hp, hP1, hK1, hD1⟩, hFr⟩, hce, hcv, hcl, stp⟩
  · cases hv
    subst hp2
    obtain ⟨k1, k2, k3⟩ := vx_keep h0 e1 hS (fun q _ h => hF q h) hF hL hFr
    have hP2 : va_P (kD k) vwCl ws T'.heap := gw_back isC hC hP hD k2 (by rw [e1]; exact hP1)
    obtain ⟨t2, a1, b1⟩ := kk u hf T'.heap (locs ++ L) ls hP2 hD k3 hl T' rfl X'
    refine ⟨t2, stp t2 ?_, b1⟩
    rw [hp1, hstk u]
    exact a1
  · exact hp.elim
/-- a reader that may throw -/
theorem g_callT {α β : Type} {o : Option (Nat ⊕ α)} {XL : Nat → Option β} {XR : α → Option β} {r : β} (hf : o.bind (fun u => Sum.elim XL XR u) = some r) (C : gC k cc nL own Ts rm nm) (xn : Nat → String) (vf : α → Option Value) (run : ∀ u, o = some u → gRun k ws lv cs sl pc st0 rest wc (fun rv w => ∃ b, u = .inr b ∧ rv = vf b ∧ w = wc) (fun E w => ∃ e, u = .inl e ∧ E = xn e ∧ w = wc) mc ms) (isC : List Nat) (hC : isC.map (fun i => ws[i]?) = wc.map some) {pc' cs' sl' : Nat} (hpc : pc + 3 = pc') (hcs : cs + mc = cs') (hsl : sl + ms = sl') (stk : α → List Value) (hstk : ∀ u, (vf u).toList ++ rest = stk u)
    (kx : ∀ e, XL e = some r → gX k ws lv cs' sl' pc rest (xn e)) (kk : ∀ u, XR u = some r → gG k ws lv cs' sl' pc' (stk u)) : gG k ws lv cs sl pc st0 := by
  obtain ⟨u, hu, hf⟩ := bd_e hf
  subst hpc
  subst hcs
  subst hsl
  intro H locs ls hP hD hS hl T hT Y
  obtain ⟨a, run⟩ := run u hu H locs ls hP hD hS hl
  have hF := va_free hD hS C.A isC hC
  rcases run T hT Y with ⟨v, st₀, t, T', L, h0, X', hL, e1, e2, ⟨⟨rv, w1, hv, ⟨b, rfl, hp1, hp2⟩, hP1, hK1, hD1⟩, hFr⟩, stp⟩ | ⟨q, st₀, t, T', L, E, ce, h0, X', hL, e1, e2, ⟨⟨w1, ⟨b, rfl, rfl, hp2⟩, hP1, hK1, hD1⟩, hFr⟩, hce, hcv, hcl, stp⟩
  · cases hv
    subst hp2
    obtain ⟨k1, k2, k3⟩ := vx_keep h0 e1 hS (fun q _ h => hF q h) hF hL hFr
    have hP2 : va_P (kD k) vwCl ws T'.heap := gw_back isC hC hP hD k2 (by rw [e1]; exact hP1)
    obtain ⟨t2, a1, b1⟩ := kk b hf T'.heap (locs ++ L) ls hP2 hD k3 hl T' rfl X'
    refine ⟨t2, stp t2 ?_, b1⟩
    rw [hp1, hstk b]
    exact a1
  · subst hp2
    obtain ⟨k1, k2, k3⟩ := vx_keep h0 e1 hS (fun q _ h => hF q h) hF hL hFr
    have hP2 : va_P (kD k) vwCl ws T'.heap := gw_back isC hC hP hD k2 (by rw [e1]; exact hP1)
    obtain ⟨t2, a1, b1⟩ := kx b hf T'.heap (locs ++ L) ls ce q hP2 hD k3 hl (by rw [e1]; exact hce) hcv hcl T' rfl X'
    exact ⟨t2, stp.trans a1, b1⟩
end GB
section GM
variable {k : Kt} {cc : ByteArray} {nL : Nat} {own nm : String} {Ts : List Cond} {rm rc : Room} {ws wc : va_W} {lv : List (Nat × Value)} {cs sl pc mc ms n ix maxL : Nat} {st st0 rest As : List Value} {w0 : va_W} {Post : Option Value → va_W → Prop} {PX : String → va_W → Prop} {ret : Option FieldType}
/-- a writer: its cells come back as w1, at the same addresses; the world is laid in its old order again -/
theorem g_callW {α β : Type} {o : Option α} {X : α → Option β} {r : β} (hf : o.bind X = some r) (C : gC k cc nL own Ts rm nm) (vf : α → Option Value) (w1 : α → va_W) (run : ∀ u, o = some u → gRun k ws lv cs sl pc st0 rest wc (fun rv w => rv = vf u ∧ w = w1 u) (fun _ _ => False) mc ms) (isC isR : List Nat) {wr : va_W} (hC : isC.map (fun i => ws[i]?) = wc.map some) (hR : isR.map (fun i => ws[i]?) = wr.map some) (hn : va_nd isR = true) (hdis : ∀ i ∈ isR, i ∉ isC) (perm : List Nat) (hpn : va_nd perm = true) {ws' : α → va_W} (hp : ∀ u, perm.map (fun i => (wr ++ w1 u)[i]?) = (ws' u).map some) {pc' cs' sl' : Nat} (hpc : pc + 3 = pc') (hcs : cs + mc = cs') (hsl : sl + ms = sl') (stk : α → List Value) (hstk : ∀ u, (vf u).toList ++ rest = stk u)
    (kk : ∀ u, X u = some r → gG k (ws' u) lv cs' sl' pc' (stk u)) : gG k ws lv cs sl pc st0 := by
  obtain ⟨u, hu, hf⟩ := bd_e hf
  subst hpc
  subst hcs
  subst hsl
  refine g_callG C (run u hu) isC isR hC hR hn hdis (fun _ _ h => h.elim) (fun rv w h => ?_)
  obtain ⟨rfl, rfl⟩ := h
  rw [hstk u]
  exact g_perm perm (hp u) hpn (kk u hf)
theorem g_callP {α β : Type} {o : Option α} {X : α → Option β} {r : β} (hf : o.bind X = some r) (C : gC k cc nL own Ts rm nm) (vf : α → Option Value) (w1 : α → (Nat → Nat) → va_W) (run : ∀ u, o = some u → gRun k ws lv cs sl pc st0 rest wc (fun rv w => rv = vf u ∧ ∃ a : Nat → Nat, w = w1 u a) (fun _ _ => False) mc ms) (isC isR : List Nat) {wr : va_W} (hC : isC.map (fun i => ws[i]?) = wc.map some) (hR : isR.map (fun i => ws[i]?) = wr.map some) (hn : va_nd isR = true) (hdis : ∀ i ∈ isR, i ∉ isC) (perm : List Nat) (hpn : va_nd perm = true) {ws' : α → (Nat → Nat) → va_W} (hp : ∀ u a, perm.map (fun i => (wr ++ w1 u a)[i]?) = (ws' u a).map some) {pc' cs' sl' : Nat} (hpc : pc + 3 = pc') (hcs : cs + mc = cs') (hsl : sl + ms = sl') (stk : α → List Value) (hstk : ∀ u, (vf u).toList ++ rest = stk u)
    (kk : ∀ (u : α) (a : Nat → Nat), X u = some r → gG k (ws' u a) lv cs' sl' pc' (stk u)) : gG k ws lv cs sl pc st0 := by
  obtain ⟨u, hu, hf⟩ := bd_e hf
  subst hpc
  subst hcs
  subst hsl
  refine g_callG C (run u hu) isC isR hC hR hn hdis (fun _ _ h => h.elim) (fun rv w h => ?_)
  obtain ⟨rfl, a, rfl⟩ := h
  rw [hstk u]
  exact g_perm perm (hp u a) hpn (kk u a hf)
theorem g_stat (C : gC k cc nL own Ts rm nm) {ix : Nat} (hl9 : Cond.fieldLink own ix RX4 "SETTINGS_MAX" "[I" ∈ Ts) (d : decode cc pc = .ok (.getstatic ix, 3)) (h : ∀ t : Nat, va_T .int t 4 (fun k => .int (stM k)) (kF k) (kS k) (kS k).heap → gG k ws lv cs sl (pc + 3) (.ref t :: st)) : gG k ws lv cs sl pc st := by
  obtain ⟨t, hz, ht⟩ := C.amb.2.2.2.1
  exact fun H locs ls hP hD hS hl => va_gets C.x C.b hz hS C.ow (C.ts _ hl9) (fun _ h => h) d (h t ht H locs ls hP hD hS hl)
theorem g_tald {α : Type} {X : Option α} {r : α} {i : Int32} {n t : Nat} {f : Nat → Int32} (hf : ck i n X = some r) (C : gC k cc nL own Ts rm nm) (ht : va_T .int t n (fun k => .int (f k)) (kF k) (kS k) (kS k).heap) (d : decode cc pc = .ok (.iaload, 1)) (h : X = some r → gG k ws lv cs sl (pc + 1) (.int (f i.toNatClampNeg) :: st)) : gG k ws lv cs sl pc (.int i :: .ref t :: st) :=
  fun H locs ls hP hD hS hl => va_ti C.x C.b ht hS (ck_e hf).1 rfl d (h (ck_e hf).2 H locs ls hP hD hS hl)
theorem g_ldcw (C : gC k cc nL own Ts rm nm) {ix : Nat} {v : Int32} (d : decode cc pc = .ok (.ldc_w ix, 3)) (hc : Jvm.Cond.constant own ix v ∈ Ts) (h : gG k ws lv cs sl (pc + 3) (.int v :: st)) : gG k ws lv cs sl pc st :=
  fun H locs ls hP hD hS hl => lv_ldcw C.x C.b C.ow (C.ts _ hc) d (h H locs ls hP hD hS hl)
theorem g_split {α : Type} {X Y : Option α} {r : α} {x y : Int32} {G : Prop} (hf : (if x = y then X else Y) = some r) (h1 : x = y → X = some r → G) (h2 : ¬ x = y → Y = some r → G) : G := by
  by_cases c : x = y
  · rw [if_pos c] at hf; exact h1 c hf
  · rw [if_neg c] at hf; exact h2 c hf
theorem g_tsw (C : gC k cc nL own Ts rm nm) {dflt lo hi : Int} {offs : Array Int} {len : Nat} {x y : Int32} {off : Int} {tgt : Nat} (d : decode cc pc = .ok (.tableswitch dflt lo hi offs, len)) (e : x = y) (h1 : ¬ y.toInt < lo) (h2 : ¬ hi < y.toInt) (ho : offs[(y.toInt - lo).toNat]? = some off) (ht : (pc : Int) + off = (tgt : Int)) (h : gG k ws lv cs sl tgt st) : gG k ws lv cs sl pc (.int x :: st) := by
  subst e
  exact fun H locs ls hP hD hS hl => lv_tableIn C.x C.b d h1 h2 ho ht (h H locs ls hP hD hS hl)
theorem g_tswd (C : gC k cc nL own Ts rm nm) {dflt lo hi : Int} {offs : Array Int} {len : Nat} {x : Int32} {tgt : Nat} (d : decode cc pc = .ok (.tableswitch dflt lo hi offs, len)) (h1 : x.toInt < lo ∨ hi < x.toInt) (ht : (pc : Int) + dflt = (tgt : Int)) (h : gG k ws lv cs sl tgt st) : gG k ws lv cs sl pc (.int x :: st) :=
  fun H locs ls hP hD hS hl => lv_tableOut C.x C.b d h1 ht (h H locs ls hP hD hS hl)
theorem g_lsw (C : gC k cc nL own Ts rm nm) {dflt : Int} {ps : Array (Int × Int)} {len : Nat} {x y : Int32} {off : Int} {tgt : Nat} (d : decode cc pc = .ok (.lookupswitch dflt ps, len)) (e : x = y) (hp : (ps.toList.zip (ps.toList.drop 1)).all (fun (a, next) => a.1 < next.1) = true) (ho : Op.lookupswitch.offset ps.toList dflt y.toInt = off) (ht : (pc : Int) + off = (tgt : Int)) (h : gG k ws lv cs sl tgt st) : gG k ws lv cs sl pc (.int x :: st) := by
  subst e
  exact fun H locs ls hP hD hS hl => lv_lookup C.x C.b d hp ho ht (h H locs ls hP hD hS hl)
theorem g_lswd (C : gC k cc nL own Ts rm nm) {dflt : Int} {ps : Array (Int × Int)} {len : Nat} {x : Int32} {tgt : Nat} (d : decode cc pc = .ok (.lookupswitch dflt ps, len)) (ho : (ps.toList.zip (ps.toList.drop 1)).all (fun (a, next) => a.1 < next.1) = true ∧ Op.lookupswitch.offset ps.toList dflt x.toInt = dflt) (ht : (pc : Int) + dflt = (tgt : Int)) (h : gG k ws lv cs sl tgt st) : gG k ws lv cs sl pc (.int x :: st) :=
  fun H locs ls hP hD hS hl => lv_lookup C.x C.b d ho.1 ho.2 ht (h H locs ls hP hD hS hl)
def jabs (x : Int32) : Int32 := if 0 ≤ x then x else 0 - x
def jmin (x y : Int32) : Int32 := if y < x then y else x
def jmax (x y : Int32) : Int32 := if x < y then y else x
theorem g_abs (C : gC k cc nL own Ts rm nm) {x : Int32} {ix : Nat} (hw : Cond.methodLink own ix Lib.Math.abs.name ∈ Ts ∧ Cond.static Lib.Math.abs.name ∈ Ts ∧ Cond.initialized "java/lang/Math" ∈ Ts ∧ Cond.code Lib.Math.abs.name Lib.Math.abs.code 1 (some .int) ∈ Ts) (hfr : 1 ≤ rm.frames) (hlo : (st.map fun v => v.category).sum + 13 ≤ rm.locals) (hc : cs ≤ rm.cells) (hs : sl ≤ rm.slots) (d : decode cc pc = .ok (.invokestatic ix, 3)) (h : gG k ws lv cs sl (pc + 3) (.int (jabs x) :: st)) : gG k ws lv cs sl pc (.int x :: st) :=
  fun H locs ls hP hD hS hl => va_mabs C.x C.b (C.ml.trans hl.1.symm) C.ow (C.ts _ hw.1) (C.ts _ hw.2.1) (C.ts _ hw.2.2.1) (C.ts _ hw.2.2.2) (C.R ▸ hfr) (C.R ▸ hlo) (C.R ▸ hc) (C.R ▸ hs) d (h H locs ls hP hD hS hl)
theorem g_min (C : gC k cc nL own Ts rm nm) {x y : Int32} {ix : Nat} (hw : Cond.methodLink own ix Lib.Math.min.name ∈ Ts ∧ Cond.static Lib.Math.min.name ∈ Ts ∧ Cond.initialized "java/lang/Math" ∈ Ts ∧ Cond.code Lib.Math.min.name Lib.Math.min.code 2 (some .int) ∈ Ts) (hfr : 1 ≤ rm.frames) (hlo : (st.map fun v => v.category).sum + 13 ≤ rm.locals) (hc : cs ≤ rm.cells) (hs : sl ≤ rm.slots) (d : decode cc pc = .ok (.invokestatic ix, 3)) (h : gG k ws lv cs sl (pc + 3) (.int (jmin x y) :: st)) : gG k ws lv cs sl pc (.int y :: .int x :: st) :=
  fun H locs ls hP hD hS hl => va_mmin C.x C.b (C.ml.trans hl.1.symm) C.ow (C.ts _ hw.1) (C.ts _ hw.2.1) (C.ts _ hw.2.2.1) (C.ts _ hw.2.2.2) (C.R ▸ hfr) (C.R ▸ hlo) (C.R ▸ hc) (C.R ▸ hs) d (h H locs ls hP hD hS hl)
theorem g_max (C : gC k cc nL own Ts rm nm) {x y : Int32} {ix : Nat} (hw : Cond.methodLink own ix Lib.Math.max.name ∈ Ts ∧ Cond.static Lib.Math.max.name ∈ Ts ∧ Cond.initialized "java/lang/Math" ∈ Ts ∧ Cond.code Lib.Math.max.name Lib.Math.max.code 2 (some .int) ∈ Ts) (hfr : 1 ≤ rm.frames) (hlo : (st.map fun v => v.category).sum + 13 ≤ rm.locals) (hc : cs ≤ rm.cells) (hs : sl ≤ rm.slots) (d : decode cc pc = .ok (.invokestatic ix, 3)) (h : gG k ws lv cs sl (pc + 3) (.int (jmax x y) :: st)) : gG k ws lv cs sl pc (.int y :: .int x :: st) :=
  fun H locs ls hP hD hS hl => va_mmax C.x C.b (C.ml.trans hl.1.symm) C.ow (C.ts _ hw.1) (C.ts _ hw.2.1) (C.ts _ hw.2.2.1) (C.ts _ hw.2.2.2) (C.R ▸ hfr) (C.R ▸ hlo) (C.R ▸ hc) (C.R ▸ hs) d (h H locs ls hP hD hS hl)
theorem g_copyi (C : gC k cc nL own Ts rm nm) {ix a0 a n0 n1 N : Nat} {sp dp n : Int32} {f g : Nat → Int32} (hw : Cond.methodLink own ix arraycopyName ∈ Ts ∧ Cond.native arraycopyName ∈ Ts ∧ Cond.static arraycopyName ∈ Ts ∧ Cond.initialized "java/lang/System" ∈ Ts) (q0 q1 : Nat) (ha0 : ws[q0]? = some (a0, .inl ((kD k).1 100, n0, .inl f))) (ha1 : ws[q1]? = some (a, .inl ((kD k).1 100, n1, .inl g))) (hsp : sp = 0) (hdp : dp = 0) (hn0 : ¬ n < 0) (hN : n.toNatClampNeg = N) (h4 : 0 + N ≤ n0) (h5 : 0 + N ≤ n1)
    (hfr : 1 ≤ rm.frames) (hlo : (st.map fun v => v.category).sum + (nativeFrameWords "java/lang/System" "arraycopy" 5 + 11) ≤ rm.locals) (d : decode cc pc = .ok (.invokestatic ix, 3)) {ws' : va_W} (e : ws.set q1 (a, .inl ((kD k).1 100, n1, .inl (va_cpy f g 0 0 N))) = ws') (h : gG k ws' lv cs sl (pc + 3) st) : gG k ws lv cs sl pc (.int n :: .int dp :: .ref a :: .int sp :: .ref a0 :: st) := by
  subst hsp
  subst hdp
  subst hN
  have z : (0 : Int32).toNatClampNeg = 0 := by decide
  exact fun H locs ls hP hD hS hl => va_copyi C.x C.b (C.ml.trans hl.1.symm) C.ow (C.ts _ hw.1) (C.ts _ hw.2.1) (C.ts _ hw.2.2.1) (C.ts _ hw.2.2.2) C.K hP hD hS q0 q1 0 0 ha0 ha1 rfl rfl rfl (by decide) (by decide) hn0 (by rw [z]; exact h4) (by rw [z]; exact h5) (fun _ _ => rfl) (C.R ▸ hfr) (C.R ▸ hlo) d (fun H1 locs1 hP hD hS => by
    rw [z] at hP hD
    exact h H1 locs1 ls (e ▸ hP) (e ▸ hD) hS hl)
theorem g_i2d (C : gC k cc nL own Ts rm nm) {x : Int32} (d : decode cc pc = .ok (.i2d, 1)) (h : gG k ws lv cs sl (pc + 1) (.double (FP.i2d x) :: st)) : gG k ws lv cs sl pc (.int x :: st) :=
  fun H locs ls hP hD hS hl => lv_i2d C.x C.b d (h H locs ls hP hD hS hl)
theorem g_dconst0 (C : gC k cc nL own Ts rm nm) (d : decode cc pc = .ok (.dconst 0, 1)) (h : gG k ws lv cs sl (pc + 1) (.double FP.dconst0 :: st)) : gG k ws lv cs sl pc st :=
  fun H locs ls hP hD hS hl => lv_dconst0 C.x C.b d (h H locs ls hP hD hS hl)
/-- a quotient is looked at: a number, or there is no answer -/
def cd {α : Type} (x : UInt64) (X : Option α) : Option α := if x &&& 0x7fffffffffffffff ≤ 0x7ff0000000000000 then X else none
theorem cd_e {α : Type} {x : UInt64} {X : Option α} {r : α} (h : cd x X = some r) : vf_n64 x ∧ X = some r := by
  unfold cd at h
  by_cases c : x &&& 0x7fffffffffffffff ≤ 0x7ff0000000000000
  · rw [if_pos c] at h; exact ⟨c, h⟩
  · rw [if_neg c] at h; cases h
theorem g_ddiv {α : Type} {X : Option α} {r : α} {x y : UInt64} (hf : cd (FP.ddiv x y) X = some r) (C : gC k cc nL own Ts rm nm) (d : decode cc pc = .ok (.ddiv, 1)) (h : X = some r → gG k ws lv cs sl (pc + 1) (.double (FP.ddiv x y) :: st)) : gG k ws lv cs sl pc (.double y :: .double x :: st) :=
  fun H locs ls hP hD hS hl => lv_ddiv C.x C.b d (cd_e hf).1 (h (cd_e hf).2 H locs ls hP hD hS hl)
end GM
