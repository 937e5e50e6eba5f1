/-! rows of the law's walks: known branches, joins, its own arrays -/
def wA10 (D : va_G) (a : Nat) (g : Nat → Int32) : va_W := [(a, .inl (D.1 100, 10, .inl g))]
def wA9 (D : va_G) (a : Nat) (g : Nat → Int32) : va_W := [(a, .inl (D.1 100, 9, .inl g))]
def wA21 (D : va_G) (a : Nat) (g : Nat → Int32) : va_W := [(a, .inl (D.1 100, 21, .inl g))]
section RW5
variable {k : Kt} {cc : ByteArray} {nL : Nat} {own nm : String} {Ts : List Cond} {rm : Room} {ws : va_W} {lv : List (Nat × Value)} {cs sl pc : Nat} {st : List Value}
theorem g_ifT_eq (C : gC k cc nL own Ts rm nm) {x : Int32} {off : Int} {tgt : Nat} (d : decode cc pc = .ok (.ifCond .eq off, 3)) (ht : (pc : Int) + off = (tgt : Int)) (c : x = 0) (h : gG k ws lv cs sl tgt st) : gG k ws lv cs sl pc (.int x :: st) :=
  fun H locs ls hP hD hS hl => lv_if_eq C.x C.b d ht (fun _ => h H locs ls hP hD hS hl) (fun q => absurd c q)
theorem g_ifF_eq (C : gC k cc nL own Ts rm nm) {x : Int32} {off : Int} {tgt : Nat} (d : decode cc pc = .ok (.ifCond .eq off, 3)) (ht : (pc : Int) + off = (tgt : Int)) (c : ¬ (x = 0)) (h : gG k ws lv cs sl (pc + 3) st) : gG k ws lv cs sl pc (.int x :: st) :=
  fun H locs ls hP hD hS hl => lv_if_eq C.x C.b d ht (fun q => absurd q c) (fun _ => h H locs ls hP hD hS hl)
theorem g_ifT_ne (C : gC k cc nL own Ts rm nm) {x : Int32} {off : Int} {tgt : Nat} (d : decode cc pc = .ok (.ifCond .ne off, 3)) (ht : (pc : Int) + off = (tgt : Int)) (c : ¬ x = 0) (h : gG k ws lv cs sl tgt st) : gG k ws lv cs sl pc (.int x :: st) :=
  fun H locs ls hP hD hS hl => lv_if_ne C.x C.b d ht (fun _ => h H locs ls hP hD hS hl) (fun q => absurd q c)
theorem g_ifF_ne (C : gC k cc nL own Ts rm nm) {x : Int32} {off : Int} {tgt : Nat} (d : decode cc pc = .ok (.ifCond .ne off, 3)) (ht : (pc : Int) + off = (tgt : Int)) (c : ¬ (¬ x = 0)) (h : gG k ws lv cs sl (pc + 3) st) : gG k ws lv cs sl pc (.int x :: st) :=
  fun H locs ls hP hD hS hl => lv_if_ne C.x C.b d ht (fun q => absurd q c) (fun _ => h H locs ls hP hD hS hl)
theorem g_ifT_lt (C : gC k cc nL own Ts rm nm) {x : Int32} {off : Int} {tgt : Nat} (d : decode cc pc = .ok (.ifCond .lt off, 3)) (ht : (pc : Int) + off = (tgt : Int)) (c : x < 0) (h : gG k ws lv cs sl tgt st) : gG k ws lv cs sl pc (.int x :: st) :=
  fun H locs ls hP hD hS hl => lv_if_lt C.x C.b d ht (fun _ => h H locs ls hP hD hS hl) (fun q => absurd c q)
theorem g_ifF_lt (C : gC k cc nL own Ts rm nm) {x : Int32} {off : Int} {tgt : Nat} (d : decode cc pc = .ok (.ifCond .lt off, 3)) (ht : (pc : Int) + off = (tgt : Int)) (c : ¬ (x < 0)) (h : gG k ws lv cs sl (pc + 3) st) : gG k ws lv cs sl pc (.int x :: st) :=
  fun H locs ls hP hD hS hl => lv_if_lt C.x C.b d ht (fun q => absurd q c) (fun _ => h H locs ls hP hD hS hl)
theorem g_ifT_ge (C : gC k cc nL own Ts rm nm) {x : Int32} {off : Int} {tgt : Nat} (d : decode cc pc = .ok (.ifCond .ge off, 3)) (ht : (pc : Int) + off = (tgt : Int)) (c : 0 ≤ x) (h : gG k ws lv cs sl tgt st) : gG k ws lv cs sl pc (.int x :: st) :=
  fun H locs ls hP hD hS hl => lv_if_ge C.x C.b d ht (fun _ => h H locs ls hP hD hS hl) (fun q => absurd c q)
theorem g_ifF_ge (C : gC k cc nL own Ts rm nm) {x : Int32} {off : Int} {tgt : Nat} (d : decode cc pc = .ok (.ifCond .ge off, 3)) (ht : (pc : Int) + off = (tgt : Int)) (c : ¬ (0 ≤ x)) (h : gG k ws lv cs sl (pc + 3) st) : gG k ws lv cs sl pc (.int x :: st) :=
  fun H locs ls hP hD hS hl => lv_if_ge C.x C.b d ht (fun q => absurd q c) (fun _ => h H locs ls hP hD hS hl)
theorem g_ifT_gt (C : gC k cc nL own Ts rm nm) {x : Int32} {off : Int} {tgt : Nat} (d : decode cc pc = .ok (.ifCond .gt off, 3)) (ht : (pc : Int) + off = (tgt : Int)) (c : 0 < x) (h : gG k ws lv cs sl tgt st) : gG k ws lv cs sl pc (.int x :: st) :=
  fun H locs ls hP hD hS hl => lv_if_gt C.x C.b d ht (fun _ => h H locs ls hP hD hS hl) (fun q => absurd c q)
theorem g_ifF_gt (C : gC k cc nL own Ts rm nm) {x : Int32} {off : Int} {tgt : Nat} (d : decode cc pc = .ok (.ifCond .gt off, 3)) (ht : (pc : Int) + off = (tgt : Int)) (c : ¬ (0 < x)) (h : gG k ws lv cs sl (pc + 3) st) : gG k ws lv cs sl pc (.int x :: st) :=
  fun H locs ls hP hD hS hl => lv_if_gt C.x C.b d ht (fun q => absurd q c) (fun _ => h H locs ls hP hD hS hl)
theorem g_ifT_le (C : gC k cc nL own Ts rm nm) {x : Int32} {off : Int} {tgt : Nat} (d : decode cc pc = .ok (.ifCond .le off, 3)) (ht : (pc : Int) + off = (tgt : Int)) (c : x ≤ 0) (h : gG k ws lv cs sl tgt st) : gG k ws lv cs sl pc (.int x :: st) :=
  fun H locs ls hP hD hS hl => lv_if_le C.x C.b d ht (fun _ => h H locs ls hP hD hS hl) (fun q => absurd c q)
theorem g_ifF_le (C : gC k cc nL own Ts rm nm) {x : Int32} {off : Int} {tgt : Nat} (d : decode cc pc = .ok (.ifCond .le off, 3)) (ht : (pc : Int) + off = (tgt : Int)) (c : ¬ (x ≤ 0)) (h : gG k ws lv cs sl (pc + 3) st) : gG k ws lv cs sl pc (.int x :: st) :=
  fun H locs ls hP hD hS hl => lv_if_le C.x C.b d ht (fun q => absurd q c) (fun _ => h H locs ls hP hD hS hl)
theorem g_dcmp (C : gC k cc nL own Ts rm nm) {x y : UInt64} {op : CmpOp} (d : decode cc pc = .ok (.dcmp op, 1)) (h : gG k ws lv cs sl (pc + 1) (.int (Op.cmpValue (FP.dcmp x y) op) :: st)) : gG k ws lv cs sl pc (.double y :: .double x :: st) :=
  fun H locs ls hP hD hS hl => lv_dcmp C.x C.b d (h H locs ls hP hD hS hl)
end RW5
/-- two ways meet: what comes behind is walked once -/
theorem g_join {α β : Type} {o : Option α} {X : α → Option β} {r : β} {G : Prop} {Q : α → Prop} (hf : o.bind X = some r) (kk : ∀ u, X u = some r → Q u) (ka : ∀ u, o = some u → Q u → G) : G := by
  obtain ⟨u, h1, h2⟩ := bd_e hf
  exact ka u h1 (kk u h2)
theorem g_is1 {α : Type} {X : Option α} {r : α} {x : Int32} {G : Prop} (hf : (if x = (1 : Int32) then X else none) = some r) (h : x = 1 → X = some r → G) : G := by
  by_cases c : x = 1
  · rw [if_pos c] at hf; exact h c hf
  · rw [if_neg c] at hf; cases hf
section PMN
variable {B1 B2 B3 B4 B5 B6 B7 B8 B9 B10 B11 B12 B13 R : va_W}
theorem as4 : List.Perm (B1 ++ (B2 ++ (B3 ++ (B4 ++ (R))))) ((B1 ++ (B2 ++ (B3 ++ (B4)))) ++ R) := by rw [List.append_assoc, List.append_assoc, List.append_assoc]
theorem as5 : List.Perm (B1 ++ (B2 ++ (B3 ++ (B4 ++ (B5 ++ (R)))))) ((B1 ++ (B2 ++ (B3 ++ (B4 ++ (B5))))) ++ R) := by rw [List.append_assoc, List.append_assoc, List.append_assoc, List.append_assoc]
theorem as6 : List.Perm (B1 ++ (B2 ++ (B3 ++ (B4 ++ (B5 ++ (B6 ++ (R))))))) ((B1 ++ (B2 ++ (B3 ++ (B4 ++ (B5 ++ (B6)))))) ++ R) := by rw [List.append_assoc, List.append_assoc, List.append_assoc, List.append_assoc, List.append_assoc]
theorem as7 : List.Perm (B1 ++ (B2 ++ (B3 ++ (B4 ++ (B5 ++ (B6 ++ (B7 ++ (R)))))))) ((B1 ++ (B2 ++ (B3 ++ (B4 ++ (B5 ++ (B6 ++ (B7))))))) ++ R) := by rw [List.append_assoc, List.append_assoc, List.append_assoc, List.append_assoc, List.append_assoc, List.append_assoc]
theorem as8 : List.Perm (B1 ++ (B2 ++ (B3 ++ (B4 ++ (B5 ++ (B6 ++ (B7 ++ (B8 ++ (R))))))))) ((B1 ++ (B2 ++ (B3 ++ (B4 ++ (B5 ++ (B6 ++ (B7 ++ (B8)))))))) ++ R) := by rw [List.append_assoc, List.append_assoc, List.append_assoc, List.append_assoc, List.append_assoc, List.append_assoc, List.append_assoc]
theorem as9 : List.Perm (B1 ++ (B2 ++ (B3 ++ (B4 ++ (B5 ++ (B6 ++ (B7 ++ (B8 ++ (B9 ++ (R)))))))))) ((B1 ++ (B2 ++ (B3 ++ (B4 ++ (B5 ++ (B6 ++ (B7 ++ (B8 ++ (B9))))))))) ++ R) := by rw [List.append_assoc, List.append_assoc, List.append_assoc, List.append_assoc, List.append_assoc, List.append_assoc, List.append_assoc, List.append_assoc]
theorem as10 : List.Perm (B1 ++ (B2 ++ (B3 ++ (B4 ++ (B5 ++ (B6 ++ (B7 ++ (B8 ++ (B9 ++ (B10 ++ (R))))))))))) ((B1 ++ (B2 ++ (B3 ++ (B4 ++ (B5 ++ (B6 ++ (B7 ++ (B8 ++ (B9 ++ (B10)))))))))) ++ R) := by rw [List.append_assoc, List.append_assoc, List.append_assoc, List.append_assoc, List.append_assoc, List.append_assoc, List.append_assoc, List.append_assoc, List.append_assoc]
theorem as11 : List.Perm (B1 ++ (B2 ++ (B3 ++ (B4 ++ (B5 ++ (B6 ++ (B7 ++ (B8 ++ (B9 ++ (B10 ++ (B11 ++ (R)))))))))))) ((B1 ++ (B2 ++ (B3 ++ (B4 ++ (B5 ++ (B6 ++ (B7 ++ (B8 ++ (B9 ++ (B10 ++ (B11))))))))))) ++ R) := by rw [List.append_assoc, List.append_assoc, List.append_assoc, List.append_assoc, List.append_assoc, List.append_assoc, List.append_assoc, List.append_assoc, List.append_assoc, List.append_assoc]
theorem as12 : List.Perm (B1 ++ (B2 ++ (B3 ++ (B4 ++ (B5 ++ (B6 ++ (B7 ++ (B8 ++ (B9 ++ (B10 ++ (B11 ++ (B12 ++ (R))))))))))))) ((B1 ++ (B2 ++ (B3 ++ (B4 ++ (B5 ++ (B6 ++ (B7 ++ (B8 ++ (B9 ++ (B10 ++ (B11 ++ (B12)))))))))))) ++ R) := by rw [List.append_assoc, List.append_assoc, List.append_assoc, List.append_assoc, List.append_assoc, List.append_assoc, List.append_assoc, List.append_assoc, List.append_assoc, List.append_assoc, List.append_assoc]
end PMN
