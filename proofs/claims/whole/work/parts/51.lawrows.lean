/-! rows of the law's own body: its script, its comparisons, its calls -/
def LX (k : Kt) (b L : Nat) (xs : Nat → Int32) : Prop := va_X b L xs (kS k) (kS k).heap ∧ b < (kS k).heap.size ∧ ¬ kF k b
section LR
variable {k : Kt} {cc : ByteArray} {nL : Nat} {own nm : String} {Ts : List Cond} {rm : Room} {ws wc wr : va_W} {lv : List (Nat × Value)} {cs sl pc mc ms : Nat} {st st0 rest : List Value} {b L : Nat} {xs : Nat → Int32}
theorem g_xld (C : gC k cc nL own Ts rm nm) (X : LX k b L xs) {i v : Int32} (hin : vp_in i L) (hv : xs i.toNatClampNeg = v) (d : decode cc pc = .ok (.iaload, 1)) (h : gG k ws lv cs sl (pc + 1) (.int v :: st)) : gG k ws lv cs sl pc (.int i :: .ref b :: st) :=
  fun H locs ls hP hD hS hl => va_sld C.x C.b X.1 X.2.1 X.2.2 hS hin d (by rw [hv]; exact h H locs ls hP hD hS hl)
theorem g_xlen (C : gC k cc nL own Ts rm nm) (X : LX k b L xs) (d : decode cc pc = .ok (.arraylength, 1)) (h : gG k ws lv cs sl (pc + 1) (.int (Int32.ofNat L) :: st)) : gG k ws lv cs sl pc (.ref b :: st) :=
  fun H locs ls hP hD hS hl => va_slen C.x C.b X.1 X.2.1 X.2.2 hS d (h H locs ls hP hD hS hl)
theorem lg_cmp_self (x : Int64) : lg_cmp x x = 0 := by
  unfold lg_cmp
  simp [Int64.lt_irrefl]
theorem g_lcmp0 (C : gC k cc nL own Ts rm nm) {x y : Int64} (e : x = y) (d : decode cc pc = .ok (.lcmp, 1)) (h : gG k ws lv cs sl (pc + 1) (.int 0 :: st)) : gG k ws lv cs sl pc (.long y :: .long x :: st) := by
  subst e
  exact fun H locs ls hP hD hS hl => W.lcmp C.x C.b d (by rw [lg_cmp_self]; exact h H locs ls hP hD hS hl)
theorem g_dcmp (C : gC k cc nL own Ts rm nm) {x y : UInt64} {op : CmpOp} (d : decode cc pc = .ok (.dcmp op, 1)) (h : gG k ws lv cs sl (pc + 1) (.int (Op.cmpValue (FP.dcmp x y) op) :: st)) : gG k ws lv cs sl pc (.double y :: .double x :: st) :=
  fun H locs ls hP hD hS hl => lv_dcmp C.x C.b d (h H locs ls hP hD hS hl)
theorem g_dstore (C : gC k cc nL own Ts rm nm) {j : Nat} {x : UInt64} {lv' : List (Nat × Value)} (d : decode cc pc = .ok (.dstore j, 2)) (hn : j + 1 < nL) (e : (j, Value.double x) :: lv.filter (fun q => !(q.1 == j) && (!(q.1 == j + 1) && !(q.1 + 1 == j && q.2.category == 2))) = lv') (h : gG k ws lv' cs sl (pc + 2) st) : gG k ws lv cs sl pc (Value.double x :: st) :=
  fun H locs ls hP hD hS hl => lv_dstore C.x C.b d hl (C.n ▸ hn) e (fun ls hl => h H locs ls hP hD hS hl)
theorem g_dload (C : gC k cc nL own Ts rm nm) {j : Nat} {x : UInt64} (d : decode cc pc = .ok (.dload j, 2)) (hx : lvg lv j = some (.double x)) (h : gG k ws lv cs sl (pc + 2) (.double x :: st)) : gG k ws lv cs sl pc st :=
  fun H locs ls hP hD hS hl => lv_dload C.x C.b d (lvg_at hl hx) (h H locs ls hP hD hS hl)
theorem g_icmpeqC (C : gC k cc nL own Ts rm nm) {x y : Int32} {off : Int} {tgt : Nat} (c : x = y) (d : decode cc pc = .ok (.if_icmp .eq off, 3)) (ht : (pc : Int) + off = (tgt : Int)) (h : gG k ws lv cs sl tgt st) : gG k ws lv cs sl pc (.int y :: .int x :: st) :=
  fun H locs ls hP hD hS hl => lv_icmp_eq C.x C.b d ht (fun _ => h H locs ls hP hD hS hl) (fun q => absurd c q)
theorem g_ifneC (C : gC k cc nL own Ts rm nm) {x : Int32} {off : Int} {tgt : Nat} (d : decode cc pc = .ok (.ifCond .ne off, 3)) (ht : (pc : Int) + off = (tgt : Int)) (kt : x ≠ 0 → gG k ws lv cs sl tgt st) (kf : x = 0 → gG k ws lv cs sl (pc + 3) st) : gG k ws lv cs sl pc (.int x :: st) :=
  fun H locs ls hP hD hS hl => lv_if_ne C.x C.b d ht (fun c => kt c H locs ls hP hD hS hl) (fun c => kf c H locs ls hP hD hS hl)
theorem g_ifeqC (C : gC k cc nL own Ts rm nm) {x : Int32} {off : Int} {tgt : Nat} (d : decode cc pc = .ok (.ifCond .eq off, 3)) (ht : (pc : Int) + off = (tgt : Int)) (kt : x = 0 → gG k ws lv cs sl tgt st) (kf : x ≠ 0 → gG k ws lv cs sl (pc + 3) st) : gG k ws lv cs sl pc (.int x :: st) :=
  fun H locs ls hP hD hS hl => lv_if_eq C.x C.b d ht (fun c => kt c H locs ls hP hD hS hl) (fun c => kf c H locs ls hP hD hS hl)
theorem g_icmpgtC (C : gC k cc nL own Ts rm nm) {x y : Int32} {off : Int} {tgt : Nat} (d : decode cc pc = .ok (.if_icmp .gt off, 3)) (ht : (pc : Int) + off = (tgt : Int)) (kt : y < x → gG k ws lv cs sl tgt st) (kf : ¬ y < x → gG k ws lv cs sl (pc + 3) st) : gG k ws lv cs sl pc (.int y :: .int x :: st) :=
  fun H locs ls hP hD hS hl => lv_icmp_gt C.x C.b d ht (fun c => kt c H locs ls hP hD hS hl) (fun c => kf c H locs ls hP hD hS hl)
/-- a call of a method that throws nothing -/
theorem g_callV (C : gC k cc nL own Ts rm nm) {Post : Option Value → va_W → Prop} (hp : List.Perm ws (wc ++ wr)) (run : gRun k (wc ++ wr) lv cs sl pc st0 rest wc Post (fun _ _ => False) mc ms) (kk : ∀ (rv : Option Value) (w1 : va_W), Post rv w1 → gG k (w1 ++ wr) lv (cs + mc) (sl + ms) (pc + 3) (rv.toList ++ rest)) : gG k ws lv cs sl pc st0 :=
  g_Perm hp (g_callG C run (List.range wc.length) ((List.range wr.length).map (fun i => i + wc.length)) (rg_map wc wr) (rg_map2 wc wr) (rg_nd2 _ _) (rg_dis _ _) (fun _ _ h => h.elim) (fun rv w h => g_Perm List.perm_append_comm (kk rv w h)))
end LR
section PM2
variable {A B C E F G R : va_W}
theorem as4 : List.Perm (A ++ (B ++ (C ++ (E ++ R)))) ((A ++ (B ++ (C ++ E))) ++ R) := by rw [List.append_assoc, List.append_assoc, List.append_assoc]
theorem as5 : List.Perm (A ++ (B ++ (C ++ (E ++ (F ++ R))))) ((A ++ (B ++ (C ++ (E ++ F)))) ++ R) := by rw [List.append_assoc, List.append_assoc, List.append_assoc, List.append_assoc]
theorem as6 : List.Perm (A ++ (B ++ (C ++ (E ++ (F ++ (G ++ R)))))) ((A ++ (B ++ (C ++ (E ++ (F ++ G))))) ++ R) := by rw [List.append_assoc, List.append_assoc, List.append_assoc, List.append_assoc, List.append_assoc]
end PM2
def fN (a0 a1 : Nat → Nat) (n0 n1 : Option VS) : Nat → Option Nat := fun i => if i = 0 then n0.map (fun _ => a0 0) else if i = 1 then n1.map (fun _ => a1 0) else none
/-- all the cells of the law's body -/
def wAll (D : va_G) (rG rV rN rL : Nat) (aS aT aM aV a0 a1 : Nat → Nat) (v : VS) (z : VV) (tx : VT) (n0 n1 : Option VS) (m : VM) (g : Nat → Int64) : va_W := wL D rL g ++ (wG D rG (aS 0) rV rN (aT 0) ++ (wS D aS v ++ (wV D rV aV z ++ (wT D aT tx ++ (wN D rN (fN a0 a1 n0 n1) ++ (wO D a0 n0 ++ (wO D a1 n1 ++ wM D aM m)))))))
def lvW (b rG rL : Nat) (aM : Nat → Nat) (i : Int32) : List (Nat × Value) := [(4, .int i), (3, .ref rL), (2, .ref (aM 0)), (1, .ref rG), (0, .ref b)]
/-- what stands behind one call -/
def KK (k : Kt) (b rG rV rN rL : Nat) (aS aT aM : Nat → Nat) (q : Nat) (i : Int32) (cs sl : Nat) : Prop := ∀ (aV a0 a1 : Nat → Nat) (v : VS) (z : VV) (tx : VT) (n0 n1 : Option VS) (m : VM) (g : Nat → Int64), SM q v z tx n0 n1 m → gG k (wAll (kD k) rG rV rN rL aS aT aM aV a0 a1 v z tx n0 n1 m g) (lvW b rG rL aM i) cs sl 1811 []
abbrev okC (cs : List (Nat × Nat)) (cl : List (String × Int32)) : Prop := ∀ q ∈ cs, nI q.2 ≠ 0 ∧ (∃ t ∈ cl, xnm q.1 = t.1) ∧ ∀ t ∈ cl, xnm q.1 = t.1 → t.2 = nI q.2
theorem updL_0 (g : Nat → Int64) (i : Nat) (x : Int64) : vp_updL g i x i = x := by simp [vp_updL]
/-- the end of a helper's call, out of how the two sides stand: its number, and what lies in the row -/
theorem PH_out {α : Type} {D : va_G} {o : Nat} {g : Nat → Int64} {cs : List (Nat × Nat)} {cl : List (String × Int32)} (hok : okC cs cl) {r : Nat ⊕ α} {pv : α → Int32} {PW : α → va_W → Prop} {w0 : va_W} {rv : Option Value} {w : va_W} {m' : VM} {y : Int32} {SMy : α → Prop} {SMe : Prop}
    (hr : (∃ e kc, (e, kc) ∈ cs ∧ r = .inl e ∧ mThr m' = nI kc ∧ SMe) ∨ ∃ a, r = .inr a ∧ pv a = y ∧ mThr m' = 0 ∧ SMy a)
    (hp : PH D o g cl (fun rv w => ∃ a, r = .inr a ∧ rv = some (.int (pv a)) ∧ PW a w) (fun X w => ∃ e, r = .inl e ∧ X = xnm e ∧ w = w0) rv w) :
    ∃ (j : Int32) (g' : Nat → Int64) (w1 : va_W), rv = some (.int j) ∧ w = wL D o g' ++ w1 ∧ mThr m' = j ∧ (j = 0 → g' (Int32.toNatClampNeg 0) = y.toInt64) ∧ ((w1 = w0 ∧ SMe) ∨ ∃ a, PW a w1 ∧ SMy a) := by
  rcases hr with ⟨e, kc, hm, rfl, ht, hs⟩ | ⟨a, rfl, ha, ht, hs⟩
  · rcases hp with ⟨x, w1, ⟨a, h, -⟩, -⟩ | ⟨X, w1, j, ⟨e2, h1, h2, h3⟩, h4, h5, h6⟩
    · cases h
    · cases h1
      have h7 := hok _ hm
      have h8 : j = nI kc := h7.2.2 _ h4 h2.symm
      exact ⟨j, g, w1, h5, h6, by rw [ht, h8], fun q => absurd (h8.symm.trans q) h7.1, .inl ⟨h3, hs⟩⟩
  · rcases hp with ⟨x, w1, ⟨a2, h1, h2, h3⟩, h4, h5⟩ | ⟨X, w1, j, ⟨e2, h1, -⟩, -⟩
    · cases h1
      have h6 : x = pv a := by
        injection h2 with h2
        injection h2
      exact ⟨0, _, w1, h4, h5, ht, fun _ => by rw [updL_0, h6, ha], .inr ⟨a, h3, hs⟩⟩
    · cases h1
/-- what a helper's method throws is what the helper catches -/
theorem PX_in {α : Type} {cs : List (Nat × Nat)} {cl : List (String × Int32)} (hok : okC cs cl) {r : Nat ⊕ α} {w0 : va_W} {m' : VM} {y : Int32} {pv : α → Int32} {SMy : α → Prop} {SMe : Prop}
    (hr : (∃ e kc, (e, kc) ∈ cs ∧ r = .inl e ∧ mThr m' = nI kc ∧ SMe) ∨ ∃ a, r = .inr a ∧ pv a = y ∧ mThr m' = 0 ∧ SMy a) : ∀ (X : String) (w : va_W), (∃ e, r = .inl e ∧ X = xnm e ∧ w = w0) → ∃ t ∈ cl, X = t.1 := by
  rintro X w ⟨e, h1, h2, -⟩
  rcases hr with ⟨e2, kc, hm, rfl, -⟩ | ⟨a, rfl, -⟩
  · cases h1
    obtain ⟨t, ht, e3⟩ := (hok _ hm).2.1
    exact ⟨t, ht, h2.trans e3⟩
  · cases h1
