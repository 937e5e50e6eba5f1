/-! the law's own helpers: each calls one method and says by a number how it ended; the answer lies in the row -/
def wL (D : va_G) (o : Nat) (g : Nat → Int64) : va_W := [(o, .inl (D.1 101, 1, .inr (.inl g)))]
def PH (D : va_G) (o : Nat) (g : Nat → Int64) (cs : List (String × Int32)) (PC : Option Value → va_W → Prop) (PX : String → va_W → Prop) : Option Value → va_W → Prop := fun rv w => (∃ (x : Int32) (w1 : va_W), PC (some (.int x)) w1 ∧ rv = some (.int 0) ∧ w = wL D o (vp_updL g (Int32.toNatClampNeg 0) x.toInt64) ++ w1) ∨ ∃ (X : String) (w1 : va_W) (j : Int32), PX X w1 ∧ (X, j) ∈ cs ∧ rv = some (.int j) ∧ w = wL D o g ++ w1
theorem nc_ne : (∀ q ∈ gNc, q.1 ≠ q.2) := by decide +kernel
abbrev rmL_block : Room := { frames := 8, cells := 3, slots := 18, locals := 143 }
abbrev hhL_block : List (Nat × Nat × Nat × Nat) := [(0, 10, 13, 13), (0, 10, 17, 15)]
abbrev csL_block : List (String × Int32) := [(xIAE, 1), (xISE, 2)]
theorem ckL_block_13 : Cond.classLink RL 13 xIAE ∈ wsL_block := by decide +kernel
theorem ckL_block_15 : Cond.classLink RL 15 xISE ∈ wsL_block := by decide +kernel
theorem hsL_block : yL_block.cls ≠ "java/lang/invoke/MethodHandle" ∧ yL_block.cls ≠ "java/lang/invoke/VarHandle" ∧ (parseMethodDescriptor yL_block.desc).map (fun d => d.parameters.length) = some 4 := by decide +kernel
set_option maxRecDepth 100000 in
set_option maxHeartbeats 4000000 in
theorem wkL_block {k : Kt} (C : gC k cL_block 5 RL wsL_block rmL_block "block") (rG o : Nat) (g : Nat → Int64) (p1 : Int32) (p2 : Int32) (fs : List Value) (wt w0 : va_W) (hw : w0 = (rG, .inr (3, fs)) :: wt) (PC : Option Value → va_W → Prop) (PX : String → va_W → Prop) (hM : Tc (kL k) (kD k) yX4_block wsX4_block rmX4_block [.ref rG, .int p1, .int p2] w0 PC PX 3 18) (hc : ∀ rv w, PC rv w → ∃ x : Int32, rv = some (.int x)) (hx : ∀ X w, PX X w → X = xIAE ∨ X = xISE) (E : gEm k (wL (kD k) o g ++ w0) (PH (kD k) o g csL_block PC PX) 3 18 (some .int) (tableOf hhL_block)) : gG k (wL (kD k) o g ++ w0) [(0, .ref rG), (1, .int p1), (2, .int p2), (3, .ref o)] 0 0 0 [] := by
  refine g_aload_n (pc := 0) (x := o) C dL_block_0 rfl ?_
  refine g_iconst (pc := 1) (v := 0) C dL_block_1 (by decide) ?_
  refine g_aload_n (pc := 2) (x := rG) C dL_block_2 rfl ?_
  refine g_iload_n (pc := 3) (x := p1) C dL_block_3 rfl ?_
  refine g_iload_n (pc := 4) (x := p2) C dL_block_4 rfl ?_
  refine g_callG (pc := 5) (wc := w0) (wr := wL (kD k) o g) (rest := [.int 0, .ref o]) C (gr_V (y := yX4_block) (As := [.int p1, .int p2]) C hM (fun ht => cwV 2 ht gL_block_X4_block rfl rfl rfl hdX4_block ⟨(Nat.le_of_ble_eq_true rfl), (Nat.le_of_ble_eq_true rfl)⟩) 1 (by rw [hw]; rfl) rfl _ (rg_map2 (wL (kD k) o g) w0) (rg_nd2 _ _) rfl rfl (Nat.le_of_ble_eq_true rfl) dL_block_5 ⟨(Nat.le_of_ble_eq_true rfl), (Nat.le_of_ble_eq_true rfl)⟩) _ [0] (rg_map2 (wL (kD k) o g) w0) rfl (by decide) (fun i hi => by
    rw [List.mem_singleton.mp hi]
    intro q
    obtain ⟨j, -, e⟩ := List.mem_map.mp q
    exact absurd e (Nat.succ_ne_zero j)) (fun X w1 hp => ?_) (fun rv w1 hp => ?_)
  · rcases hx X w1 hp with rfl | rfl
    · refine g_catch (pc := 5) C E.2.1 [] ⟨0, 10, 13, 13⟩ [⟨0, 10, 17, 15⟩] rfl (fun z hz => absurd hz List.not_mem_nil) (by decide) (by decide) ckL_block_13 (by decide +kernel) (fun q => ?_)
      refine g_astore (pc := 13) (lv' := [(4, .ref q), (0, .ref rG), (1, .int p1), (2, .int p2), (3, .ref o)]) C dL_block_13 (by decide) rfl ?_
      refine g_iconst (pc := 15) (v := 1) C dL_block_15 (by decide) ?_
      exact g_iretm C E dL_block_16 (Nat.le_of_eq (Nat.zero_add _)) (Nat.le_of_eq (Nat.zero_add _)) (.inr ⟨_, w1, 1, hp, by decide, rfl, rfl⟩)
    · refine g_catch (pc := 5) C E.2.1 [⟨0, 10, 13, 13⟩] ⟨0, 10, 17, 15⟩ [] rfl (fun z hz => by
          rw [List.mem_singleton.mp hz]
          exact ⟨xIAE, by decide, ckL_block_13, by decide +kernel⟩) (by decide) (by decide) ckL_block_15 (by decide +kernel) (fun q => ?_)
      refine g_astore (pc := 17) (lv' := [(4, .ref q), (0, .ref rG), (1, .int p1), (2, .int p2), (3, .ref o)]) C dL_block_17 (by decide) rfl ?_
      refine g_iconst (pc := 19) (v := 2) C dL_block_19 (by decide) ?_
      exact g_iretm C E dL_block_20 (Nat.le_of_eq (Nat.zero_add _)) (Nat.le_of_eq (Nat.zero_add _)) (.inr ⟨_, w1, 2, hp, by decide, rfl, rfl⟩)
  · obtain ⟨x, rfl⟩ := hc rv w1 hp
    refine g_stack (st' := [.int x, .int 0, .ref o]) rfl ?_
    refine g_i2l (pc := 8) C dL_block_8 ?_
    refine g_last (pc := 9) (X := some ()) (r := ()) (i := 0) (n := 1) rfl C 0 rfl dL_block_9 (ws' := wL (kD k) o (vp_updL g (Int32.toNatClampNeg 0) x.toInt64) ++ w1) rfl (fun _ => ?_)
    refine g_goto (pc := 10) (tgt := 21) C dL_block_10 (by decide) ?_
    refine g_iconst (pc := 21) (v := 0) C dL_block_21 (by decide) ?_
    exact g_iretm C E dL_block_22 (Nat.le_of_eq (Nat.zero_add _)) (Nat.le_of_eq (Nat.zero_add _)) (.inl ⟨x, w1, hp, rfl, rfl⟩)
set_option maxRecDepth 100000 in
set_option maxHeartbeats 4000000 in
theorem cL_block_ (l : Launch) (htr : l.stackTraces = false) (D : va_G) (rG o : Nat) (g : Nat → Int64) (p1 : Int32) (p2 : Int32) (fs : List Value) (wt w0 : va_W) (hw : w0 = (rG, .inr (3, fs)) :: wt) (PC : Option Value → va_W → Prop) (PX : String → va_W → Prop) (hM : Tc l D yX4_block wsX4_block rmX4_block [.ref rG, .int p1, .int p2] w0 PC PX 3 18) (hc : ∀ rv w, PC rv w → ∃ x : Int32, rv = some (.int x)) (hx : ∀ X w, PX X w → X = xIAE ∨ X = xISE) : Tm l D yL_block wsL_block rmL_block [.ref rG, .int p1, .int p2, .ref o] (wL D o g ++ w0) (PH D o g csL_block PC PX) 3 18 := Tm_of htr (by decide +kernel) rfl (Nat.le_of_ble_eq_true rfl) (fun k C E hl hD => by subst hl; subst hD; exact wkL_block C rG o g p1 p2 fs wt w0 hw PC PX hM hc hx E)
abbrev rmL_discard : Room := { frames := 8, cells := 2, slots := 12, locals := 142 }
abbrev hhL_discard : List (Nat × Nat × Nat × Nat) := [(0, 9, 12, 21), (0, 9, 15, 15)]
abbrev csL_discard : List (String × Int32) := [(xIOB, 1), (xISE, 2)]
theorem ckL_discard_21 : Cond.classLink RL 21 xIOB ∈ wsL_discard := by decide +kernel
theorem ckL_discard_15 : Cond.classLink RL 15 xISE ∈ wsL_discard := by decide +kernel
theorem hsL_discard : yL_discard.cls ≠ "java/lang/invoke/MethodHandle" ∧ yL_discard.cls ≠ "java/lang/invoke/VarHandle" ∧ (parseMethodDescriptor yL_discard.desc).map (fun d => d.parameters.length) = some 3 := by decide +kernel
set_option maxRecDepth 100000 in
set_option maxHeartbeats 4000000 in
theorem wkL_discard {k : Kt} (C : gC k cL_discard 4 RL wsL_discard rmL_discard "discard") (rG o : Nat) (g : Nat → Int64) (p1 : Int32) (fs : List Value) (wt w0 : va_W) (hw : w0 = (rG, .inr (3, fs)) :: wt) (PC : Option Value → va_W → Prop) (PX : String → va_W → Prop) (hM : Tc (kL k) (kD k) yX4_discard wsX4_discard rmX4_discard [.ref rG, .int p1] w0 PC PX 2 12) (hc : ∀ rv w, PC rv w → ∃ x : Int32, rv = some (.int x)) (hx : ∀ X w, PX X w → X = xIOB ∨ X = xISE) (E : gEm k (wL (kD k) o g ++ w0) (PH (kD k) o g csL_discard PC PX) 2 12 (some .int) (tableOf hhL_discard)) : gG k (wL (kD k) o g ++ w0) [(0, .ref rG), (1, .int p1), (2, .ref o)] 0 0 0 [] := by
  refine g_aload_n (pc := 0) (x := o) C dL_discard_0 rfl ?_
  refine g_iconst (pc := 1) (v := 0) C dL_discard_1 (by decide) ?_
  refine g_aload_n (pc := 2) (x := rG) C dL_discard_2 rfl ?_
  refine g_iload_n (pc := 3) (x := p1) C dL_discard_3 rfl ?_
  refine g_callG (pc := 4) (wc := w0) (wr := wL (kD k) o g) (rest := [.int 0, .ref o]) C (gr_V (y := yX4_discard) (As := [.int p1]) C hM (fun ht => cwV 1 ht gL_discard_X4_discard rfl rfl rfl hdX4_discard ⟨(Nat.le_of_ble_eq_true rfl), (Nat.le_of_ble_eq_true rfl)⟩) 1 (by rw [hw]; rfl) rfl _ (rg_map2 (wL (kD k) o g) w0) (rg_nd2 _ _) rfl rfl (Nat.le_of_ble_eq_true rfl) dL_discard_4 ⟨(Nat.le_of_ble_eq_true rfl), (Nat.le_of_ble_eq_true rfl)⟩) _ [0] (rg_map2 (wL (kD k) o g) w0) rfl (by decide) (fun i hi => by
    rw [List.mem_singleton.mp hi]
    intro q
    obtain ⟨j, -, e⟩ := List.mem_map.mp q
    exact absurd e (Nat.succ_ne_zero j)) (fun X w1 hp => ?_) (fun rv w1 hp => ?_)
  · rcases hx X w1 hp with rfl | rfl
    · refine g_catch (pc := 4) C E.2.1 [] ⟨0, 9, 12, 21⟩ [⟨0, 9, 15, 15⟩] rfl (fun z hz => absurd hz List.not_mem_nil) (by decide) (by decide) ckL_discard_21 (by decide +kernel) (fun q => ?_)
      refine g_astore_n (pc := 12) (lv' := [(3, .ref q), (0, .ref rG), (1, .int p1), (2, .ref o)]) C dL_discard_12 (by decide) rfl ?_
      refine g_iconst (pc := 13) (v := 1) C dL_discard_13 (by decide) ?_
      exact g_iretm C E dL_discard_14 (Nat.le_of_eq (Nat.zero_add _)) (Nat.le_of_eq (Nat.zero_add _)) (.inr ⟨_, w1, 1, hp, by decide, rfl, rfl⟩)
    · refine g_catch (pc := 4) C E.2.1 [⟨0, 9, 12, 21⟩] ⟨0, 9, 15, 15⟩ [] rfl (fun z hz => by
          rw [List.mem_singleton.mp hz]
          exact ⟨xIOB, by decide, ckL_discard_21, by decide +kernel⟩) (by decide) (by decide) ckL_discard_15 (by decide +kernel) (fun q => ?_)
      refine g_astore_n (pc := 15) (lv' := [(3, .ref q), (0, .ref rG), (1, .int p1), (2, .ref o)]) C dL_discard_15 (by decide) rfl ?_
      refine g_iconst (pc := 16) (v := 2) C dL_discard_16 (by decide) ?_
      exact g_iretm C E dL_discard_17 (Nat.le_of_eq (Nat.zero_add _)) (Nat.le_of_eq (Nat.zero_add _)) (.inr ⟨_, w1, 2, hp, by decide, rfl, rfl⟩)
  · obtain ⟨x, rfl⟩ := hc rv w1 hp
    refine g_stack (st' := [.int x, .int 0, .ref o]) rfl ?_
    refine g_i2l (pc := 7) C dL_discard_7 ?_
    refine g_last (pc := 8) (X := some ()) (r := ()) (i := 0) (n := 1) rfl C 0 rfl dL_discard_8 (ws' := wL (kD k) o (vp_updL g (Int32.toNatClampNeg 0) x.toInt64) ++ w1) rfl (fun _ => ?_)
    refine g_goto (pc := 9) (tgt := 18) C dL_discard_9 (by decide) ?_
    refine g_iconst (pc := 18) (v := 0) C dL_discard_18 (by decide) ?_
    exact g_iretm C E dL_discard_19 (Nat.le_of_eq (Nat.zero_add _)) (Nat.le_of_eq (Nat.zero_add _)) (.inl ⟨x, w1, hp, rfl, rfl⟩)
set_option maxRecDepth 100000 in
set_option maxHeartbeats 4000000 in
theorem cL_discard_ (l : Launch) (htr : l.stackTraces = false) (D : va_G) (rG o : Nat) (g : Nat → Int64) (p1 : Int32) (fs : List Value) (wt w0 : va_W) (hw : w0 = (rG, .inr (3, fs)) :: wt) (PC : Option Value → va_W → Prop) (PX : String → va_W → Prop) (hM : Tc l D yX4_discard wsX4_discard rmX4_discard [.ref rG, .int p1] w0 PC PX 2 12) (hc : ∀ rv w, PC rv w → ∃ x : Int32, rv = some (.int x)) (hx : ∀ X w, PX X w → X = xIOB ∨ X = xISE) : Tm l D yL_discard wsL_discard rmL_discard [.ref rG, .int p1, .ref o] (wL D o g ++ w0) (PH D o g csL_discard PC PX) 2 12 := Tm_of htr (by decide +kernel) rfl (Nat.le_of_ble_eq_true rfl) (fun k C E hl hD => by subst hl; subst hD; exact wkL_discard C rG o g p1 fs wt w0 hw PC PX hM hc hx E)
abbrev rmL_calibrate : Room := { frames := 8, cells := 2, slots := 12, locals := 142 }
abbrev hhL_calibrate : List (Nat × Nat × Nat × Nat) := [(0, 9, 12, 21), (0, 9, 15, 15)]
abbrev csL_calibrate : List (String × Int32) := [(xIOB, 1), (xISE, 2)]
theorem ckL_calibrate_21 : Cond.classLink RL 21 xIOB ∈ wsL_calibrate := by decide +kernel
theorem ckL_calibrate_15 : Cond.classLink RL 15 xISE ∈ wsL_calibrate := by decide +kernel
theorem hsL_calibrate : yL_calibrate.cls ≠ "java/lang/invoke/MethodHandle" ∧ yL_calibrate.cls ≠ "java/lang/invoke/VarHandle" ∧ (parseMethodDescriptor yL_calibrate.desc).map (fun d => d.parameters.length) = some 3 := by decide +kernel
set_option maxRecDepth 100000 in
set_option maxHeartbeats 4000000 in
theorem wkL_calibrate {k : Kt} (C : gC k cL_calibrate 4 RL wsL_calibrate rmL_calibrate "calibrate") (rG o : Nat) (g : Nat → Int64) (p1 : Int32) (fs : List Value) (wt w0 : va_W) (hw : w0 = (rG, .inr (3, fs)) :: wt) (PC : Option Value → va_W → Prop) (PX : String → va_W → Prop) (hM : Tc (kL k) (kD k) yX4_calibrate wsX4_calibrate rmX4_calibrate [.ref rG, .int p1] w0 PC PX 2 12) (hc : ∀ rv w, PC rv w → ∃ x : Int32, rv = some (.int x)) (hx : ∀ X w, PX X w → X = xIOB ∨ X = xISE) (E : gEm k (wL (kD k) o g ++ w0) (PH (kD k) o g csL_calibrate PC PX) 2 12 (some .int) (tableOf hhL_calibrate)) : gG k (wL (kD k) o g ++ w0) [(0, .ref rG), (1, .int p1), (2, .ref o)] 0 0 0 [] := by
  refine g_aload_n (pc := 0) (x := o) C dL_calibrate_0 rfl ?_
  refine g_iconst (pc := 1) (v := 0) C dL_calibrate_1 (by decide) ?_
  refine g_aload_n (pc := 2) (x := rG) C dL_calibrate_2 rfl ?_
  refine g_iload_n (pc := 3) (x := p1) C dL_calibrate_3 rfl ?_
  refine g_callG (pc := 4) (wc := w0) (wr := wL (kD k) o g) (rest := [.int 0, .ref o]) C (gr_V (y := yX4_calibrate) (As := [.int p1]) C hM (fun ht => cwV 1 ht gL_calibrate_X4_calibrate rfl rfl rfl hdX4_calibrate ⟨(Nat.le_of_ble_eq_true rfl), (Nat.le_of_ble_eq_true rfl)⟩) 1 (by rw [hw]; rfl) rfl _ (rg_map2 (wL (kD k) o g) w0) (rg_nd2 _ _) rfl rfl (Nat.le_of_ble_eq_true rfl) dL_calibrate_4 ⟨(Nat.le_of_ble_eq_true rfl), (Nat.le_of_ble_eq_true rfl)⟩) _ [0] (rg_map2 (wL (kD k) o g) w0) rfl (by decide) (fun i hi => by
    rw [List.mem_singleton.mp hi]
    intro q
    obtain ⟨j, -, e⟩ := List.mem_map.mp q
    exact absurd e (Nat.succ_ne_zero j)) (fun X w1 hp => ?_) (fun rv w1 hp => ?_)
  · rcases hx X w1 hp with rfl | rfl
    · refine g_catch (pc := 4) C E.2.1 [] ⟨0, 9, 12, 21⟩ [⟨0, 9, 15, 15⟩] rfl (fun z hz => absurd hz List.not_mem_nil) (by decide) (by decide) ckL_calibrate_21 (by decide +kernel) (fun q => ?_)
      refine g_astore_n (pc := 12) (lv' := [(3, .ref q), (0, .ref rG), (1, .int p1), (2, .ref o)]) C dL_calibrate_12 (by decide) rfl ?_
      refine g_iconst (pc := 13) (v := 1) C dL_calibrate_13 (by decide) ?_
      exact g_iretm C E dL_calibrate_14 (Nat.le_of_eq (Nat.zero_add _)) (Nat.le_of_eq (Nat.zero_add _)) (.inr ⟨_, w1, 1, hp, by decide, rfl, rfl⟩)
    · refine g_catch (pc := 4) C E.2.1 [⟨0, 9, 12, 21⟩] ⟨0, 9, 15, 15⟩ [] rfl (fun z hz => by
          rw [List.mem_singleton.mp hz]
          exact ⟨xIOB, by decide, ckL_calibrate_21, by decide +kernel⟩) (by decide) (by decide) ckL_calibrate_15 (by decide +kernel) (fun q => ?_)
      refine g_astore_n (pc := 15) (lv' := [(3, .ref q), (0, .ref rG), (1, .int p1), (2, .ref o)]) C dL_calibrate_15 (by decide) rfl ?_
      refine g_iconst (pc := 16) (v := 2) C dL_calibrate_16 (by decide) ?_
      exact g_iretm C E dL_calibrate_17 (Nat.le_of_eq (Nat.zero_add _)) (Nat.le_of_eq (Nat.zero_add _)) (.inr ⟨_, w1, 2, hp, by decide, rfl, rfl⟩)
  · obtain ⟨x, rfl⟩ := hc rv w1 hp
    refine g_stack (st' := [.int x, .int 0, .ref o]) rfl ?_
    refine g_i2l (pc := 7) C dL_calibrate_7 ?_
    refine g_last (pc := 8) (X := some ()) (r := ()) (i := 0) (n := 1) rfl C 0 rfl dL_calibrate_8 (ws' := wL (kD k) o (vp_updL g (Int32.toNatClampNeg 0) x.toInt64) ++ w1) rfl (fun _ => ?_)
    refine g_goto (pc := 9) (tgt := 18) C dL_calibrate_9 (by decide) ?_
    refine g_iconst (pc := 18) (v := 0) C dL_calibrate_18 (by decide) ?_
    exact g_iretm C E dL_calibrate_19 (Nat.le_of_eq (Nat.zero_add _)) (Nat.le_of_eq (Nat.zero_add _)) (.inl ⟨x, w1, hp, rfl, rfl⟩)
set_option maxRecDepth 100000 in
set_option maxHeartbeats 4000000 in
theorem cL_calibrate_ (l : Launch) (htr : l.stackTraces = false) (D : va_G) (rG o : Nat) (g : Nat → Int64) (p1 : Int32) (fs : List Value) (wt w0 : va_W) (hw : w0 = (rG, .inr (3, fs)) :: wt) (PC : Option Value → va_W → Prop) (PX : String → va_W → Prop) (hM : Tc l D yX4_calibrate wsX4_calibrate rmX4_calibrate [.ref rG, .int p1] w0 PC PX 2 12) (hc : ∀ rv w, PC rv w → ∃ x : Int32, rv = some (.int x)) (hx : ∀ X w, PX X w → X = xIOB ∨ X = xISE) : Tm l D yL_calibrate wsL_calibrate rmL_calibrate [.ref rG, .int p1, .ref o] (wL D o g ++ w0) (PH D o g csL_calibrate PC PX) 2 12 := Tm_of htr (by decide +kernel) rfl (Nat.le_of_ble_eq_true rfl) (fun k C E hl hD => by subst hl; subst hD; exact wkL_calibrate C rG o g p1 fs wt w0 hw PC PX hM hc hx E)
abbrev rmL_hold : Room := { frames := 8, cells := 2, slots := 12, locals := 143 }
abbrev hhL_hold : List (Nat × Nat × Nat × Nat) := [(0, 10, 13, 21), (0, 10, 17, 13)]
abbrev csL_hold : List (String × Int32) := [(xIOB, 1), (xIAE, 2)]
theorem ckL_hold_21 : Cond.classLink RL 21 xIOB ∈ wsL_hold := by decide +kernel
theorem ckL_hold_13 : Cond.classLink RL 13 xIAE ∈ wsL_hold := by decide +kernel
theorem hsL_hold : yL_hold.cls ≠ "java/lang/invoke/MethodHandle" ∧ yL_hold.cls ≠ "java/lang/invoke/VarHandle" ∧ (parseMethodDescriptor yL_hold.desc).map (fun d => d.parameters.length) = some 4 := by decide +kernel
set_option maxRecDepth 100000 in
set_option maxHeartbeats 4000000 in
theorem wkL_hold {k : Kt} (C : gC k cL_hold 5 RL wsL_hold rmL_hold "hold") (rG o : Nat) (g : Nat → Int64) (p1 : Int32) (p2 : Int32) (fs : List Value) (wt w0 : va_W) (hw : w0 = (rG, .inr (3, fs)) :: wt) (PC : Option Value → va_W → Prop) (PX : String → va_W → Prop) (hM : Tc (kL k) (kD k) yX4_hold wsX4_hold rmX4_hold [.ref rG, .int p1, .int p2] w0 PC PX 2 12) (hc : ∀ rv w, PC rv w → ∃ x : Int32, rv = some (.int x)) (hx : ∀ X w, PX X w → X = xIOB ∨ X = xIAE) (E : gEm k (wL (kD k) o g ++ w0) (PH (kD k) o g csL_hold PC PX) 2 12 (some .int) (tableOf hhL_hold)) : gG k (wL (kD k) o g ++ w0) [(0, .ref rG), (1, .int p1), (2, .int p2), (3, .ref o)] 0 0 0 [] := by
  refine g_aload_n (pc := 0) (x := o) C dL_hold_0 rfl ?_
  refine g_iconst (pc := 1) (v := 0) C dL_hold_1 (by decide) ?_
  refine g_aload_n (pc := 2) (x := rG) C dL_hold_2 rfl ?_
  refine g_iload_n (pc := 3) (x := p1) C dL_hold_3 rfl ?_
  refine g_iload_n (pc := 4) (x := p2) C dL_hold_4 rfl ?_
  refine g_callG (pc := 5) (wc := w0) (wr := wL (kD k) o g) (rest := [.int 0, .ref o]) C (gr_V (y := yX4_hold) (As := [.int p1, .int p2]) C hM (fun ht => cwV 2 ht gL_hold_X4_hold rfl rfl rfl hdX4_hold ⟨(Nat.le_of_ble_eq_true rfl), (Nat.le_of_ble_eq_true rfl)⟩) 1 (by rw [hw]; rfl) rfl _ (rg_map2 (wL (kD k) o g) w0) (rg_nd2 _ _) rfl rfl (Nat.le_of_ble_eq_true rfl) dL_hold_5 ⟨(Nat.le_of_ble_eq_true rfl), (Nat.le_of_ble_eq_true rfl)⟩) _ [0] (rg_map2 (wL (kD k) o g) w0) rfl (by decide) (fun i hi => by
    rw [List.mem_singleton.mp hi]
    intro q
    obtain ⟨j, -, e⟩ := List.mem_map.mp q
    exact absurd e (Nat.succ_ne_zero j)) (fun X w1 hp => ?_) (fun rv w1 hp => ?_)
  · rcases hx X w1 hp with rfl | rfl
    · refine g_catch (pc := 5) C E.2.1 [] ⟨0, 10, 13, 21⟩ [⟨0, 10, 17, 13⟩] rfl (fun z hz => absurd hz List.not_mem_nil) (by decide) (by decide) ckL_hold_21 (by decide +kernel) (fun q => ?_)
      refine g_astore (pc := 13) (lv' := [(4, .ref q), (0, .ref rG), (1, .int p1), (2, .int p2), (3, .ref o)]) C dL_hold_13 (by decide) rfl ?_
      refine g_iconst (pc := 15) (v := 1) C dL_hold_15 (by decide) ?_
      exact g_iretm C E dL_hold_16 (Nat.le_of_eq (Nat.zero_add _)) (Nat.le_of_eq (Nat.zero_add _)) (.inr ⟨_, w1, 1, hp, by decide, rfl, rfl⟩)
    · refine g_catch (pc := 5) C E.2.1 [⟨0, 10, 13, 21⟩] ⟨0, 10, 17, 13⟩ [] rfl (fun z hz => by
          rw [List.mem_singleton.mp hz]
          exact ⟨xIOB, by decide, ckL_hold_21, by decide +kernel⟩) (by decide) (by decide) ckL_hold_13 (by decide +kernel) (fun q => ?_)
      refine g_astore (pc := 17) (lv' := [(4, .ref q), (0, .ref rG), (1, .int p1), (2, .int p2), (3, .ref o)]) C dL_hold_17 (by decide) rfl ?_
      refine g_iconst (pc := 19) (v := 2) C dL_hold_19 (by decide) ?_
      exact g_iretm C E dL_hold_20 (Nat.le_of_eq (Nat.zero_add _)) (Nat.le_of_eq (Nat.zero_add _)) (.inr ⟨_, w1, 2, hp, by decide, rfl, rfl⟩)
  · obtain ⟨x, rfl⟩ := hc rv w1 hp
    refine g_stack (st' := [.int x, .int 0, .ref o]) rfl ?_
    refine g_i2l (pc := 8) C dL_hold_8 ?_
    refine g_last (pc := 9) (X := some ()) (r := ()) (i := 0) (n := 1) rfl C 0 rfl dL_hold_9 (ws' := wL (kD k) o (vp_updL g (Int32.toNatClampNeg 0) x.toInt64) ++ w1) rfl (fun _ => ?_)
    refine g_goto (pc := 10) (tgt := 21) C dL_hold_10 (by decide) ?_
    refine g_iconst (pc := 21) (v := 0) C dL_hold_21 (by decide) ?_
    exact g_iretm C E dL_hold_22 (Nat.le_of_eq (Nat.zero_add _)) (Nat.le_of_eq (Nat.zero_add _)) (.inl ⟨x, w1, hp, rfl, rfl⟩)
set_option maxRecDepth 100000 in
set_option maxHeartbeats 4000000 in
theorem cL_hold_ (l : Launch) (htr : l.stackTraces = false) (D : va_G) (rG o : Nat) (g : Nat → Int64) (p1 : Int32) (p2 : Int32) (fs : List Value) (wt w0 : va_W) (hw : w0 = (rG, .inr (3, fs)) :: wt) (PC : Option Value → va_W → Prop) (PX : String → va_W → Prop) (hM : Tc l D yX4_hold wsX4_hold rmX4_hold [.ref rG, .int p1, .int p2] w0 PC PX 2 12) (hc : ∀ rv w, PC rv w → ∃ x : Int32, rv = some (.int x)) (hx : ∀ X w, PX X w → X = xIOB ∨ X = xIAE) : Tm l D yL_hold wsL_hold rmL_hold [.ref rG, .int p1, .int p2, .ref o] (wL D o g ++ w0) (PH D o g csL_hold PC PX) 2 12 := Tm_of htr (by decide +kernel) rfl (Nat.le_of_ble_eq_true rfl) (fun k C E hl hD => by subst hl; subst hD; exact wkL_hold C rG o g p1 p2 fs wt w0 hw PC PX hM hc hx E)
abbrev rmL_rest : Room := { frames := 8, cells := 1, slots := 6, locals := 142 }
abbrev hhL_rest : List (Nat × Nat × Nat × Nat) := [(0, 9, 12, 13)]
abbrev csL_rest : List (String × Int32) := [(xIAE, 1)]
theorem ckL_rest_13 : Cond.classLink RL 13 xIAE ∈ wsL_rest := by decide +kernel
theorem hsL_rest : yL_rest.cls ≠ "java/lang/invoke/MethodHandle" ∧ yL_rest.cls ≠ "java/lang/invoke/VarHandle" ∧ (parseMethodDescriptor yL_rest.desc).map (fun d => d.parameters.length) = some 3 := by decide +kernel
set_option maxRecDepth 100000 in
set_option maxHeartbeats 4000000 in
theorem wkL_rest {k : Kt} (C : gC k cL_rest 4 RL wsL_rest rmL_rest "rest") (rG o : Nat) (g : Nat → Int64) (p1 : Int32) (fs : List Value) (wt w0 : va_W) (hw : w0 = (rG, .inr (3, fs)) :: wt) (PC : Option Value → va_W → Prop) (PX : String → va_W → Prop) (hM : Tc (kL k) (kD k) yX4_rest wsX4_rest rmX4_rest [.ref rG, .int p1] w0 PC PX 1 6) (hc : ∀ rv w, PC rv w → ∃ x : Int32, rv = some (.int x)) (hx : ∀ X w, PX X w → X = xIAE) (E : gEm k (wL (kD k) o g ++ w0) (PH (kD k) o g csL_rest PC PX) 1 6 (some .int) (tableOf hhL_rest)) : gG k (wL (kD k) o g ++ w0) [(0, .ref rG), (1, .int p1), (2, .ref o)] 0 0 0 [] := by
  refine g_aload_n (pc := 0) (x := o) C dL_rest_0 rfl ?_
  refine g_iconst (pc := 1) (v := 0) C dL_rest_1 (by decide) ?_
  refine g_aload_n (pc := 2) (x := rG) C dL_rest_2 rfl ?_
  refine g_iload_n (pc := 3) (x := p1) C dL_rest_3 rfl ?_
  refine g_callG (pc := 4) (wc := w0) (wr := wL (kD k) o g) (rest := [.int 0, .ref o]) C (gr_V (y := yX4_rest) (As := [.int p1]) C hM (fun ht => cwV 1 ht gL_rest_X4_rest rfl rfl rfl hdX4_rest ⟨(Nat.le_of_ble_eq_true rfl), (Nat.le_of_ble_eq_true rfl)⟩) 1 (by rw [hw]; rfl) rfl _ (rg_map2 (wL (kD k) o g) w0) (rg_nd2 _ _) rfl rfl (Nat.le_of_ble_eq_true rfl) dL_rest_4 ⟨(Nat.le_of_ble_eq_true rfl), (Nat.le_of_ble_eq_true rfl)⟩) _ [0] (rg_map2 (wL (kD k) o g) w0) rfl (by decide) (fun i hi => by
    rw [List.mem_singleton.mp hi]
    intro q
    obtain ⟨j, -, e⟩ := List.mem_map.mp q
    exact absurd e (Nat.succ_ne_zero j)) (fun X w1 hp => ?_) (fun rv w1 hp => ?_)
  · obtain rfl := hx X w1 hp
    refine g_catch (pc := 4) C E.2.1 [] ⟨0, 9, 12, 13⟩ [] rfl (fun z hz => absurd hz List.not_mem_nil) (by decide) (by decide) ckL_rest_13 (by decide +kernel) (fun q => ?_)
    refine g_astore_n (pc := 12) (lv' := [(3, .ref q), (0, .ref rG), (1, .int p1), (2, .ref o)]) C dL_rest_12 (by decide) rfl ?_
    refine g_iconst (pc := 13) (v := 1) C dL_rest_13 (by decide) ?_
    exact g_iretm C E dL_rest_14 (Nat.le_of_eq (Nat.zero_add _)) (Nat.le_of_eq (Nat.zero_add _)) (.inr ⟨_, w1, 1, hp, by decide, rfl, rfl⟩)
  · obtain ⟨x, rfl⟩ := hc rv w1 hp
    refine g_stack (st' := [.int x, .int 0, .ref o]) rfl ?_
    refine g_i2l (pc := 7) C dL_rest_7 ?_
    refine g_last (pc := 8) (X := some ()) (r := ()) (i := 0) (n := 1) rfl C 0 rfl dL_rest_8 (ws' := wL (kD k) o (vp_updL g (Int32.toNatClampNeg 0) x.toInt64) ++ w1) rfl (fun _ => ?_)
    refine g_goto (pc := 9) (tgt := 15) C dL_rest_9 (by decide) ?_
    refine g_iconst (pc := 15) (v := 0) C dL_rest_15 (by decide) ?_
    exact g_iretm C E dL_rest_16 (Nat.le_of_eq (Nat.zero_add _)) (Nat.le_of_eq (Nat.zero_add _)) (.inl ⟨x, w1, hp, rfl, rfl⟩)
set_option maxRecDepth 100000 in
set_option maxHeartbeats 4000000 in
theorem cL_rest_ (l : Launch) (htr : l.stackTraces = false) (D : va_G) (rG o : Nat) (g : Nat → Int64) (p1 : Int32) (fs : List Value) (wt w0 : va_W) (hw : w0 = (rG, .inr (3, fs)) :: wt) (PC : Option Value → va_W → Prop) (PX : String → va_W → Prop) (hM : Tc l D yX4_rest wsX4_rest rmX4_rest [.ref rG, .int p1] w0 PC PX 1 6) (hc : ∀ rv w, PC rv w → ∃ x : Int32, rv = some (.int x)) (hx : ∀ X w, PX X w → X = xIAE) : Tm l D yL_rest wsL_rest rmL_rest [.ref rG, .int p1, .ref o] (wL D o g ++ w0) (PH D o g csL_rest PC PX) 1 6 := Tm_of htr (by decide +kernel) rfl (Nat.le_of_ble_eq_true rfl) (fun k C E hl hD => by subst hl; subst hD; exact wkL_rest C rG o g p1 fs wt w0 hw PC PX hM hc hx E)
abbrev rmL_set : Room := { frames := 8, cells := 2, slots := 12, locals := 143 }
abbrev hhL_set : List (Nat × Nat × Nat × Nat) := [(0, 10, 13, 21), (0, 10, 17, 13)]
abbrev csL_set : List (String × Int32) := [(xIOB, 1), (xIAE, 2)]
theorem ckL_set_21 : Cond.classLink RL 21 xIOB ∈ wsL_set := by decide +kernel
theorem ckL_set_13 : Cond.classLink RL 13 xIAE ∈ wsL_set := by decide +kernel
theorem hsL_set : yL_set.cls ≠ "java/lang/invoke/MethodHandle" ∧ yL_set.cls ≠ "java/lang/invoke/VarHandle" ∧ (parseMethodDescriptor yL_set.desc).map (fun d => d.parameters.length) = some 4 := by decide +kernel
set_option maxRecDepth 100000 in
set_option maxHeartbeats 4000000 in
theorem wkL_set {k : Kt} (C : gC k cL_set 5 RL wsL_set rmL_set "set") (rG o : Nat) (g : Nat → Int64) (p1 : Int32) (p2 : Int32) (fs : List Value) (wt w0 : va_W) (hw : w0 = (rG, .inr (3, fs)) :: wt) (PC : Option Value → va_W → Prop) (PX : String → va_W → Prop) (hM : Tc (kL k) (kD k) yX4_set wsX4_set rmX4_set [.ref rG, .int p1, .int p2] w0 PC PX 2 12) (hc : ∀ rv w, PC rv w → ∃ x : Int32, rv = some (.int x)) (hx : ∀ X w, PX X w → X = xIOB ∨ X = xIAE) (E : gEm k (wL (kD k) o g ++ w0) (PH (kD k) o g csL_set PC PX) 2 12 (some .int) (tableOf hhL_set)) : gG k (wL (kD k) o g ++ w0) [(0, .ref rG), (1, .int p1), (2, .int p2), (3, .ref o)] 0 0 0 [] := by
  refine g_aload_n (pc := 0) (x := o) C dL_set_0 rfl ?_
  refine g_iconst (pc := 1) (v := 0) C dL_set_1 (by decide) ?_
  refine g_aload_n (pc := 2) (x := rG) C dL_set_2 rfl ?_
  refine g_iload_n (pc := 3) (x := p1) C dL_set_3 rfl ?_
  refine g_iload_n (pc := 4) (x := p2) C dL_set_4 rfl ?_
  refine g_callG (pc := 5) (wc := w0) (wr := wL (kD k) o g) (rest := [.int 0, .ref o]) C (gr_V (y := yX4_set) (As := [.int p1, .int p2]) C hM (fun ht => cwV 2 ht gL_set_X4_set rfl rfl rfl hdX4_set ⟨(Nat.le_of_ble_eq_true rfl), (Nat.le_of_ble_eq_true rfl)⟩) 1 (by rw [hw]; rfl) rfl _ (rg_map2 (wL (kD k) o g) w0) (rg_nd2 _ _) rfl rfl (Nat.le_of_ble_eq_true rfl) dL_set_5 ⟨(Nat.le_of_ble_eq_true rfl), (Nat.le_of_ble_eq_true rfl)⟩) _ [0] (rg_map2 (wL (kD k) o g) w0) rfl (by decide) (fun i hi => by
    rw [List.mem_singleton.mp hi]
    intro q
    obtain ⟨j, -, e⟩ := List.mem_map.mp q
    exact absurd e (Nat.succ_ne_zero j)) (fun X w1 hp => ?_) (fun rv w1 hp => ?_)
  · rcases hx X w1 hp with rfl | rfl
    · refine g_catch (pc := 5) C E.2.1 [] ⟨0, 10, 13, 21⟩ [⟨0, 10, 17, 13⟩] rfl (fun z hz => absurd hz List.not_mem_nil) (by decide) (by decide) ckL_set_21 (by decide +kernel) (fun q => ?_)
      refine g_astore (pc := 13) (lv' := [(4, .ref q), (0, .ref rG), (1, .int p1), (2, .int p2), (3, .ref o)]) C dL_set_13 (by decide) rfl ?_
      refine g_iconst (pc := 15) (v := 1) C dL_set_15 (by decide) ?_
      exact g_iretm C E dL_set_16 (Nat.le_of_eq (Nat.zero_add _)) (Nat.le_of_eq (Nat.zero_add _)) (.inr ⟨_, w1, 1, hp, by decide, rfl, rfl⟩)
    · refine g_catch (pc := 5) C E.2.1 [⟨0, 10, 13, 21⟩] ⟨0, 10, 17, 13⟩ [] rfl (fun z hz => by
          rw [List.mem_singleton.mp hz]
          exact ⟨xIOB, by decide, ckL_set_21, by decide +kernel⟩) (by decide) (by decide) ckL_set_13 (by decide +kernel) (fun q => ?_)
      refine g_astore (pc := 17) (lv' := [(4, .ref q), (0, .ref rG), (1, .int p1), (2, .int p2), (3, .ref o)]) C dL_set_17 (by decide) rfl ?_
      refine g_iconst (pc := 19) (v := 2) C dL_set_19 (by decide) ?_
      exact g_iretm C E dL_set_20 (Nat.le_of_eq (Nat.zero_add _)) (Nat.le_of_eq (Nat.zero_add _)) (.inr ⟨_, w1, 2, hp, by decide, rfl, rfl⟩)
  · obtain ⟨x, rfl⟩ := hc rv w1 hp
    refine g_stack (st' := [.int x, .int 0, .ref o]) rfl ?_
    refine g_i2l (pc := 8) C dL_set_8 ?_
    refine g_last (pc := 9) (X := some ()) (r := ()) (i := 0) (n := 1) rfl C 0 rfl dL_set_9 (ws' := wL (kD k) o (vp_updL g (Int32.toNatClampNeg 0) x.toInt64) ++ w1) rfl (fun _ => ?_)
    refine g_goto (pc := 10) (tgt := 21) C dL_set_10 (by decide) ?_
    refine g_iconst (pc := 21) (v := 0) C dL_set_21 (by decide) ?_
    exact g_iretm C E dL_set_22 (Nat.le_of_eq (Nat.zero_add _)) (Nat.le_of_eq (Nat.zero_add _)) (.inl ⟨x, w1, hp, rfl, rfl⟩)
set_option maxRecDepth 100000 in
set_option maxHeartbeats 4000000 in
theorem cL_set_ (l : Launch) (htr : l.stackTraces = false) (D : va_G) (rG o : Nat) (g : Nat → Int64) (p1 : Int32) (p2 : Int32) (fs : List Value) (wt w0 : va_W) (hw : w0 = (rG, .inr (3, fs)) :: wt) (PC : Option Value → va_W → Prop) (PX : String → va_W → Prop) (hM : Tc l D yX4_set wsX4_set rmX4_set [.ref rG, .int p1, .int p2] w0 PC PX 2 12) (hc : ∀ rv w, PC rv w → ∃ x : Int32, rv = some (.int x)) (hx : ∀ X w, PX X w → X = xIOB ∨ X = xIAE) : Tm l D yL_set wsL_set rmL_set [.ref rG, .int p1, .int p2, .ref o] (wL D o g ++ w0) (PH D o g csL_set PC PX) 2 12 := Tm_of htr (by decide +kernel) rfl (Nat.le_of_ble_eq_true rfl) (fun k C E hl hD => by subst hl; subst hD; exact wkL_set C rG o g p1 p2 fs wt w0 hw PC PX hM hc hx E)
abbrev rmL_wring : Room := { frames := 8, cells := 2, slots := 12, locals := 143 }
abbrev hhL_wring : List (Nat × Nat × Nat × Nat) := [(0, 10, 13, 21)]
abbrev csL_wring : List (String × Int32) := [(xIOB, 1)]
theorem ckL_wring_21 : Cond.classLink RL 21 xIOB ∈ wsL_wring := by decide +kernel
theorem hsL_wring : yL_wring.cls ≠ "java/lang/invoke/MethodHandle" ∧ yL_wring.cls ≠ "java/lang/invoke/VarHandle" ∧ (parseMethodDescriptor yL_wring.desc).map (fun d => d.parameters.length) = some 4 := by decide +kernel
set_option maxRecDepth 100000 in
set_option maxHeartbeats 4000000 in
theorem wkL_wring {k : Kt} (C : gC k cL_wring 5 RL wsL_wring rmL_wring "wring") (rG o : Nat) (g : Nat → Int64) (p1 : Int32) (p2 : Int32) (fs : List Value) (wt w0 : va_W) (hw : w0 = (rG, .inr (3, fs)) :: wt) (PC : Option Value → va_W → Prop) (PX : String → va_W → Prop) (hM : Tc (kL k) (kD k) yX4_wring wsX4_wring rmX4_wring [.ref rG, .int p1, .int p2] w0 PC PX 2 12) (hc : ∀ rv w, PC rv w → ∃ x : Int32, rv = some (.int x)) (hx : ∀ X w, PX X w → X = xIOB) (E : gEm k (wL (kD k) o g ++ w0) (PH (kD k) o g csL_wring PC PX) 2 12 (some .int) (tableOf hhL_wring)) : gG k (wL (kD k) o g ++ w0) [(0, .ref rG), (1, .int p1), (2, .int p2), (3, .ref o)] 0 0 0 [] := by
  refine g_aload_n (pc := 0) (x := o) C dL_wring_0 rfl ?_
  refine g_iconst (pc := 1) (v := 0) C dL_wring_1 (by decide) ?_
  refine g_aload_n (pc := 2) (x := rG) C dL_wring_2 rfl ?_
  refine g_iload_n (pc := 3) (x := p1) C dL_wring_3 rfl ?_
  refine g_iload_n (pc := 4) (x := p2) C dL_wring_4 rfl ?_
  refine g_callG (pc := 5) (wc := w0) (wr := wL (kD k) o g) (rest := [.int 0, .ref o]) C (gr_V (y := yX4_wring) (As := [.int p1, .int p2]) C hM (fun ht => cwV 2 ht gL_wring_X4_wring rfl rfl rfl hdX4_wring ⟨(Nat.le_of_ble_eq_true rfl), (Nat.le_of_ble_eq_true rfl)⟩) 1 (by rw [hw]; rfl) rfl _ (rg_map2 (wL (kD k) o g) w0) (rg_nd2 _ _) rfl rfl (Nat.le_of_ble_eq_true rfl) dL_wring_5 ⟨(Nat.le_of_ble_eq_true rfl), (Nat.le_of_ble_eq_true rfl)⟩) _ [0] (rg_map2 (wL (kD k) o g) w0) rfl (by decide) (fun i hi => by
    rw [List.mem_singleton.mp hi]
    intro q
    obtain ⟨j, -, e⟩ := List.mem_map.mp q
    exact absurd e (Nat.succ_ne_zero j)) (fun X w1 hp => ?_) (fun rv w1 hp => ?_)
  · obtain rfl := hx X w1 hp
    refine g_catch (pc := 5) C E.2.1 [] ⟨0, 10, 13, 21⟩ [] rfl (fun z hz => absurd hz List.not_mem_nil) (by decide) (by decide) ckL_wring_21 (by decide +kernel) (fun q => ?_)
    refine g_astore (pc := 13) (lv' := [(4, .ref q), (0, .ref rG), (1, .int p1), (2, .int p2), (3, .ref o)]) C dL_wring_13 (by decide) rfl ?_
    refine g_iconst (pc := 15) (v := 1) C dL_wring_15 (by decide) ?_
    exact g_iretm C E dL_wring_16 (Nat.le_of_eq (Nat.zero_add _)) (Nat.le_of_eq (Nat.zero_add _)) (.inr ⟨_, w1, 1, hp, by decide, rfl, rfl⟩)
  · obtain ⟨x, rfl⟩ := hc rv w1 hp
    refine g_stack (st' := [.int x, .int 0, .ref o]) rfl ?_
    refine g_i2l (pc := 8) C dL_wring_8 ?_
    refine g_last (pc := 9) (X := some ()) (r := ()) (i := 0) (n := 1) rfl C 0 rfl dL_wring_9 (ws' := wL (kD k) o (vp_updL g (Int32.toNatClampNeg 0) x.toInt64) ++ w1) rfl (fun _ => ?_)
    refine g_goto (pc := 10) (tgt := 17) C dL_wring_10 (by decide) ?_
    refine g_iconst (pc := 17) (v := 0) C dL_wring_17 (by decide) ?_
    exact g_iretm C E dL_wring_18 (Nat.le_of_eq (Nat.zero_add _)) (Nat.le_of_eq (Nat.zero_add _)) (.inl ⟨x, w1, hp, rfl, rfl⟩)
set_option maxRecDepth 100000 in
set_option maxHeartbeats 4000000 in
theorem cL_wring_ (l : Launch) (htr : l.stackTraces = false) (D : va_G) (rG o : Nat) (g : Nat → Int64) (p1 : Int32) (p2 : Int32) (fs : List Value) (wt w0 : va_W) (hw : w0 = (rG, .inr (3, fs)) :: wt) (PC : Option Value → va_W → Prop) (PX : String → va_W → Prop) (hM : Tc l D yX4_wring wsX4_wring rmX4_wring [.ref rG, .int p1, .int p2] w0 PC PX 2 12) (hc : ∀ rv w, PC rv w → ∃ x : Int32, rv = some (.int x)) (hx : ∀ X w, PX X w → X = xIOB) : Tm l D yL_wring wsL_wring rmL_wring [.ref rG, .int p1, .int p2, .ref o] (wL D o g ++ w0) (PH D o g csL_wring PC PX) 2 12 := Tm_of htr (by decide +kernel) rfl (Nat.le_of_ble_eq_true rfl) (fun k C E hl hD => by subst hl; subst hD; exact wkL_wring C rG o g p1 p2 fs wt w0 hw PC PX hM hc hx E)
abbrev rmL_takeOff : Room := { frames := 8, cells := 2, slots := 12, locals := 142 }
abbrev hhL_takeOff : List (Nat × Nat × Nat × Nat) := [(0, 9, 12, 21), (0, 9, 15, 15)]
abbrev csL_takeOff : List (String × Int32) := [(xIOB, 1), (xISE, 2)]
theorem ckL_takeOff_21 : Cond.classLink RL 21 xIOB ∈ wsL_takeOff := by decide +kernel
theorem ckL_takeOff_15 : Cond.classLink RL 15 xISE ∈ wsL_takeOff := by decide +kernel
theorem hsL_takeOff : yL_takeOff.cls ≠ "java/lang/invoke/MethodHandle" ∧ yL_takeOff.cls ≠ "java/lang/invoke/VarHandle" ∧ (parseMethodDescriptor yL_takeOff.desc).map (fun d => d.parameters.length) = some 3 := by decide +kernel
set_option maxRecDepth 100000 in
set_option maxHeartbeats 4000000 in
theorem wkL_takeOff {k : Kt} (C : gC k cL_takeOff 4 RL wsL_takeOff rmL_takeOff "takeOff") (rG o : Nat) (g : Nat → Int64) (p1 : Int32) (fs : List Value) (wt w0 : va_W) (hw : w0 = (rG, .inr (3, fs)) :: wt) (PC : Option Value → va_W → Prop) (PX : String → va_W → Prop) (hM : Tc (kL k) (kD k) yX4_takeOff wsX4_takeOff rmX4_takeOff [.ref rG, .int p1] w0 PC PX 2 12) (hc : ∀ rv w, PC rv w → ∃ x : Int32, rv = some (.int x)) (hx : ∀ X w, PX X w → X = xIOB ∨ X = xISE) (E : gEm k (wL (kD k) o g ++ w0) (PH (kD k) o g csL_takeOff PC PX) 2 12 (some .int) (tableOf hhL_takeOff)) : gG k (wL (kD k) o g ++ w0) [(0, .ref rG), (1, .int p1), (2, .ref o)] 0 0 0 [] := by
  refine g_aload_n (pc := 0) (x := o) C dL_takeOff_0 rfl ?_
  refine g_iconst (pc := 1) (v := 0) C dL_takeOff_1 (by decide) ?_
  refine g_aload_n (pc := 2) (x := rG) C dL_takeOff_2 rfl ?_
  refine g_iload_n (pc := 3) (x := p1) C dL_takeOff_3 rfl ?_
  refine g_callG (pc := 4) (wc := w0) (wr := wL (kD k) o g) (rest := [.int 0, .ref o]) C (gr_V (y := yX4_takeOff) (As := [.int p1]) C hM (fun ht => cwV 1 ht gL_takeOff_X4_takeOff rfl rfl rfl hdX4_takeOff ⟨(Nat.le_of_ble_eq_true rfl), (Nat.le_of_ble_eq_true rfl)⟩) 1 (by rw [hw]; rfl) rfl _ (rg_map2 (wL (kD k) o g) w0) (rg_nd2 _ _) rfl rfl (Nat.le_of_ble_eq_true rfl) dL_takeOff_4 ⟨(Nat.le_of_ble_eq_true rfl), (Nat.le_of_ble_eq_true rfl)⟩) _ [0] (rg_map2 (wL (kD k) o g) w0) rfl (by decide) (fun i hi => by
    rw [List.mem_singleton.mp hi]
    intro q
    obtain ⟨j, -, e⟩ := List.mem_map.mp q
    exact absurd e (Nat.succ_ne_zero j)) (fun X w1 hp => ?_) (fun rv w1 hp => ?_)
  · rcases hx X w1 hp with rfl | rfl
    · refine g_catch (pc := 4) C E.2.1 [] ⟨0, 9, 12, 21⟩ [⟨0, 9, 15, 15⟩] rfl (fun z hz => absurd hz List.not_mem_nil) (by decide) (by decide) ckL_takeOff_21 (by decide +kernel) (fun q => ?_)
      refine g_astore_n (pc := 12) (lv' := [(3, .ref q), (0, .ref rG), (1, .int p1), (2, .ref o)]) C dL_takeOff_12 (by decide) rfl ?_
      refine g_iconst (pc := 13) (v := 1) C dL_takeOff_13 (by decide) ?_
      exact g_iretm C E dL_takeOff_14 (Nat.le_of_eq (Nat.zero_add _)) (Nat.le_of_eq (Nat.zero_add _)) (.inr ⟨_, w1, 1, hp, by decide, rfl, rfl⟩)
    · refine g_catch (pc := 4) C E.2.1 [⟨0, 9, 12, 21⟩] ⟨0, 9, 15, 15⟩ [] rfl (fun z hz => by
          rw [List.mem_singleton.mp hz]
          exact ⟨xIOB, by decide, ckL_takeOff_21, by decide +kernel⟩) (by decide) (by decide) ckL_takeOff_15 (by decide +kernel) (fun q => ?_)
      refine g_astore_n (pc := 15) (lv' := [(3, .ref q), (0, .ref rG), (1, .int p1), (2, .ref o)]) C dL_takeOff_15 (by decide) rfl ?_
      refine g_iconst (pc := 16) (v := 2) C dL_takeOff_16 (by decide) ?_
      exact g_iretm C E dL_takeOff_17 (Nat.le_of_eq (Nat.zero_add _)) (Nat.le_of_eq (Nat.zero_add _)) (.inr ⟨_, w1, 2, hp, by decide, rfl, rfl⟩)
  · obtain ⟨x, rfl⟩ := hc rv w1 hp
    refine g_stack (st' := [.int x, .int 0, .ref o]) rfl ?_
    refine g_i2l (pc := 7) C dL_takeOff_7 ?_
    refine g_last (pc := 8) (X := some ()) (r := ()) (i := 0) (n := 1) rfl C 0 rfl dL_takeOff_8 (ws' := wL (kD k) o (vp_updL g (Int32.toNatClampNeg 0) x.toInt64) ++ w1) rfl (fun _ => ?_)
    refine g_goto (pc := 9) (tgt := 18) C dL_takeOff_9 (by decide) ?_
    refine g_iconst (pc := 18) (v := 0) C dL_takeOff_18 (by decide) ?_
    exact g_iretm C E dL_takeOff_19 (Nat.le_of_eq (Nat.zero_add _)) (Nat.le_of_eq (Nat.zero_add _)) (.inl ⟨x, w1, hp, rfl, rfl⟩)
set_option maxRecDepth 100000 in
set_option maxHeartbeats 4000000 in
theorem cL_takeOff_ (l : Launch) (htr : l.stackTraces = false) (D : va_G) (rG o : Nat) (g : Nat → Int64) (p1 : Int32) (fs : List Value) (wt w0 : va_W) (hw : w0 = (rG, .inr (3, fs)) :: wt) (PC : Option Value → va_W → Prop) (PX : String → va_W → Prop) (hM : Tc l D yX4_takeOff wsX4_takeOff rmX4_takeOff [.ref rG, .int p1] w0 PC PX 2 12) (hc : ∀ rv w, PC rv w → ∃ x : Int32, rv = some (.int x)) (hx : ∀ X w, PX X w → X = xIOB ∨ X = xISE) : Tm l D yL_takeOff wsL_takeOff rmL_takeOff [.ref rG, .int p1, .ref o] (wL D o g ++ w0) (PH D o g csL_takeOff PC PX) 2 12 := Tm_of htr (by decide +kernel) rfl (Nat.le_of_ble_eq_true rfl) (fun k C E hl hD => by subst hl; subst hD; exact wkL_takeOff C rG o g p1 fs wt w0 hw PC PX hM hc hx E)
abbrev rmL_make : Room := { frames := 11, cells := 3, slots := 18, locals := 299 }
abbrev hhL_make : List (Nat × Nat × Nat × Nat) := [(0, 10, 13, 21), (0, 10, 17, 13), (0, 10, 21, 15)]
abbrev csL_make : List (String × Int32) := [(xIOB, 1), (xIAE, 2), (xISE, 3)]
theorem ckL_make_21 : Cond.classLink RL 21 xIOB ∈ wsL_make := by decide +kernel
theorem ckL_make_13 : Cond.classLink RL 13 xIAE ∈ wsL_make := by decide +kernel
theorem ckL_make_15 : Cond.classLink RL 15 xISE ∈ wsL_make := by decide +kernel
theorem hsL_make : yL_make.cls ≠ "java/lang/invoke/MethodHandle" ∧ yL_make.cls ≠ "java/lang/invoke/VarHandle" ∧ (parseMethodDescriptor yL_make.desc).map (fun d => d.parameters.length) = some 4 := by decide +kernel
set_option maxRecDepth 100000 in
set_option maxHeartbeats 4000000 in
theorem wkL_make {k : Kt} (C : gC k cL_make 5 RL wsL_make rmL_make "make") (rG o : Nat) (g : Nat → Int64) (p1 : Int32) (p2 : Int32) (fs : List Value) (wt w0 : va_W) (hw : w0 = (rG, .inr (3, fs)) :: wt) (PC : Option Value → va_W → Prop) (PX : String → va_W → Prop) (hM : Tc (kL k) (kD k) yX4_make wsX4_make rmX4_make [.ref rG, .int p1, .int p2] w0 PC PX 3 18) (hc : ∀ rv w, PC rv w → ∃ x : Int32, rv = some (.int x)) (hx : ∀ X w, PX X w → X = xIOB ∨ X = xIAE ∨ X = xISE) (E : gEm k (wL (kD k) o g ++ w0) (PH (kD k) o g csL_make PC PX) 3 18 (some .int) (tableOf hhL_make)) : gG k (wL (kD k) o g ++ w0) [(0, .ref rG), (1, .int p1), (2, .int p2), (3, .ref o)] 0 0 0 [] := by
  refine g_aload_n (pc := 0) (x := o) C dL_make_0 rfl ?_
  refine g_iconst (pc := 1) (v := 0) C dL_make_1 (by decide) ?_
  refine g_aload_n (pc := 2) (x := rG) C dL_make_2 rfl ?_
  refine g_iload_n (pc := 3) (x := p1) C dL_make_3 rfl ?_
  refine g_iload_n (pc := 4) (x := p2) C dL_make_4 rfl ?_
  refine g_callG (pc := 5) (wc := w0) (wr := wL (kD k) o g) (rest := [.int 0, .ref o]) C (gr_V (y := yX4_make) (As := [.int p1, .int p2]) C hM (fun ht => cwV 2 ht gL_make_X4_make rfl rfl rfl hdX4_make ⟨(Nat.le_of_ble_eq_true rfl), (Nat.le_of_ble_eq_true rfl)⟩) 1 (by rw [hw]; rfl) rfl _ (rg_map2 (wL (kD k) o g) w0) (rg_nd2 _ _) rfl rfl (Nat.le_of_ble_eq_true rfl) dL_make_5 ⟨(Nat.le_of_ble_eq_true rfl), (Nat.le_of_ble_eq_true rfl)⟩) _ [0] (rg_map2 (wL (kD k) o g) w0) rfl (by decide) (fun i hi => by
    rw [List.mem_singleton.mp hi]
    intro q
    obtain ⟨j, -, e⟩ := List.mem_map.mp q
    exact absurd e (Nat.succ_ne_zero j)) (fun X w1 hp => ?_) (fun rv w1 hp => ?_)
  · rcases hx X w1 hp with rfl | rfl | rfl
    · refine g_catch (pc := 5) C E.2.1 [] ⟨0, 10, 13, 21⟩ [⟨0, 10, 17, 13⟩, ⟨0, 10, 21, 15⟩] rfl (fun z hz => absurd hz List.not_mem_nil) (by decide) (by decide) ckL_make_21 (by decide +kernel) (fun q => ?_)
      refine g_astore (pc := 13) (lv' := [(4, .ref q), (0, .ref rG), (1, .int p1), (2, .int p2), (3, .ref o)]) C dL_make_13 (by decide) rfl ?_
      refine g_iconst (pc := 15) (v := 1) C dL_make_15 (by decide) ?_
      exact g_iretm C E dL_make_16 (Nat.le_of_eq (Nat.zero_add _)) (Nat.le_of_eq (Nat.zero_add _)) (.inr ⟨_, w1, 1, hp, by decide, rfl, rfl⟩)
    · refine g_catch (pc := 5) C E.2.1 [⟨0, 10, 13, 21⟩] ⟨0, 10, 17, 13⟩ [⟨0, 10, 21, 15⟩] rfl (fun z hz => by
          rw [List.mem_singleton.mp hz]
          exact ⟨xIOB, by decide, ckL_make_21, by decide +kernel⟩) (by decide) (by decide) ckL_make_13 (by decide +kernel) (fun q => ?_)
      refine g_astore (pc := 17) (lv' := [(4, .ref q), (0, .ref rG), (1, .int p1), (2, .int p2), (3, .ref o)]) C dL_make_17 (by decide) rfl ?_
      refine g_iconst (pc := 19) (v := 2) C dL_make_19 (by decide) ?_
      exact g_iretm C E dL_make_20 (Nat.le_of_eq (Nat.zero_add _)) (Nat.le_of_eq (Nat.zero_add _)) (.inr ⟨_, w1, 2, hp, by decide, rfl, rfl⟩)
    · refine g_catch (pc := 5) C E.2.1 [⟨0, 10, 13, 21⟩, ⟨0, 10, 17, 13⟩] ⟨0, 10, 21, 15⟩ [] rfl (fun z hz => by
          rcases List.mem_cons.mp hz with rfl | hz
          · exact ⟨xIOB, by decide, ckL_make_21, by decide +kernel⟩
          · rw [List.mem_singleton.mp hz]
            exact ⟨xIAE, by decide, ckL_make_13, by decide +kernel⟩) (by decide) (by decide) ckL_make_15 (by decide +kernel) (fun q => ?_)
      refine g_astore (pc := 21) (lv' := [(4, .ref q), (0, .ref rG), (1, .int p1), (2, .int p2), (3, .ref o)]) C dL_make_21 (by decide) rfl ?_
      refine g_iconst (pc := 23) (v := 3) C dL_make_23 (by decide) ?_
      exact g_iretm C E dL_make_24 (Nat.le_of_eq (Nat.zero_add _)) (Nat.le_of_eq (Nat.zero_add _)) (.inr ⟨_, w1, 3, hp, by decide, rfl, rfl⟩)
  · obtain ⟨x, rfl⟩ := hc rv w1 hp
    refine g_stack (st' := [.int x, .int 0, .ref o]) rfl ?_
    refine g_i2l (pc := 8) C dL_make_8 ?_
    refine g_last (pc := 9) (X := some ()) (r := ()) (i := 0) (n := 1) rfl C 0 rfl dL_make_9 (ws' := wL (kD k) o (vp_updL g (Int32.toNatClampNeg 0) x.toInt64) ++ w1) rfl (fun _ => ?_)
    refine g_goto (pc := 10) (tgt := 25) C dL_make_10 (by decide) ?_
    refine g_iconst (pc := 25) (v := 0) C dL_make_25 (by decide) ?_
    exact g_iretm C E dL_make_26 (Nat.le_of_eq (Nat.zero_add _)) (Nat.le_of_eq (Nat.zero_add _)) (.inl ⟨x, w1, hp, rfl, rfl⟩)
set_option maxRecDepth 100000 in
set_option maxHeartbeats 4000000 in
theorem cL_make_ (l : Launch) (htr : l.stackTraces = false) (D : va_G) (rG o : Nat) (g : Nat → Int64) (p1 : Int32) (p2 : Int32) (fs : List Value) (wt w0 : va_W) (hw : w0 = (rG, .inr (3, fs)) :: wt) (PC : Option Value → va_W → Prop) (PX : String → va_W → Prop) (hM : Tc l D yX4_make wsX4_make rmX4_make [.ref rG, .int p1, .int p2] w0 PC PX 3 18) (hc : ∀ rv w, PC rv w → ∃ x : Int32, rv = some (.int x)) (hx : ∀ X w, PX X w → X = xIOB ∨ X = xIAE ∨ X = xISE) : Tm l D yL_make wsL_make rmL_make [.ref rG, .int p1, .int p2, .ref o] (wL D o g ++ w0) (PH D o g csL_make PC PX) 3 18 := Tm_of htr (by decide +kernel) rfl (Nat.le_of_ble_eq_true rfl) (fun k C E hl hD => by subst hl; subst hD; exact wkL_make C rG o g p1 p2 fs wt w0 hw PC PX hM hc hx E)
abbrev rmL_append : Room := { frames := 8, cells := 2, slots := 12, locals := 135 }
abbrev hhL_append : List (Nat × Nat × Nat × Nat) := [(0, 9, 12, 13), (0, 9, 15, 15)]
abbrev csL_append : List (String × Int32) := [(xIAE, 1), (xISE, 2)]
theorem ckL_append_13 : Cond.classLink RL 13 xIAE ∈ wsL_append := by decide +kernel
theorem ckL_append_15 : Cond.classLink RL 15 xISE ∈ wsL_append := by decide +kernel
theorem hsL_append : yL_append.cls ≠ "java/lang/invoke/MethodHandle" ∧ yL_append.cls ≠ "java/lang/invoke/VarHandle" ∧ (parseMethodDescriptor yL_append.desc).map (fun d => d.parameters.length) = some 3 := by decide +kernel
set_option maxRecDepth 100000 in
set_option maxHeartbeats 4000000 in
theorem wkL_append {k : Kt} (C : gC k cL_append 4 RL wsL_append rmL_append "append") (rG o : Nat) (g : Nat → Int64) (p1 : Int32) (fs : List Value) (wt w0 : va_W) (hw : w0 = (rG, .inr (3, fs)) :: wt) (PC : Option Value → va_W → Prop) (PX : String → va_W → Prop) (hM : Tc (kL k) (kD k) yX4_append wsX4_append rmX4_append [.ref rG, .int p1] w0 PC PX 2 12) (hc : ∀ rv w, PC rv w → ∃ x : Int32, rv = some (.int x)) (hx : ∀ X w, PX X w → X = xIAE ∨ X = xISE) (E : gEm k (wL (kD k) o g ++ w0) (PH (kD k) o g csL_append PC PX) 2 12 (some .int) (tableOf hhL_append)) : gG k (wL (kD k) o g ++ w0) [(0, .ref rG), (1, .int p1), (2, .ref o)] 0 0 0 [] := by
  refine g_aload_n (pc := 0) (x := o) C dL_append_0 rfl ?_
  refine g_iconst (pc := 1) (v := 0) C dL_append_1 (by decide) ?_
  refine g_aload_n (pc := 2) (x := rG) C dL_append_2 rfl ?_
  refine g_iload_n (pc := 3) (x := p1) C dL_append_3 rfl ?_
  refine g_callG (pc := 4) (wc := w0) (wr := wL (kD k) o g) (rest := [.int 0, .ref o]) C (gr_V (y := yX4_append) (As := [.int p1]) C hM (fun ht => cwV 1 ht gL_append_X4_append rfl rfl rfl hdX4_append ⟨(Nat.le_of_ble_eq_true rfl), (Nat.le_of_ble_eq_true rfl)⟩) 1 (by rw [hw]; rfl) rfl _ (rg_map2 (wL (kD k) o g) w0) (rg_nd2 _ _) rfl rfl (Nat.le_of_ble_eq_true rfl) dL_append_4 ⟨(Nat.le_of_ble_eq_true rfl), (Nat.le_of_ble_eq_true rfl)⟩) _ [0] (rg_map2 (wL (kD k) o g) w0) rfl (by decide) (fun i hi => by
    rw [List.mem_singleton.mp hi]
    intro q
    obtain ⟨j, -, e⟩ := List.mem_map.mp q
    exact absurd e (Nat.succ_ne_zero j)) (fun X w1 hp => ?_) (fun rv w1 hp => ?_)
  · rcases hx X w1 hp with rfl | rfl
    · refine g_catch (pc := 4) C E.2.1 [] ⟨0, 9, 12, 13⟩ [⟨0, 9, 15, 15⟩] rfl (fun z hz => absurd hz List.not_mem_nil) (by decide) (by decide) ckL_append_13 (by decide +kernel) (fun q => ?_)
      refine g_astore_n (pc := 12) (lv' := [(3, .ref q), (0, .ref rG), (1, .int p1), (2, .ref o)]) C dL_append_12 (by decide) rfl ?_
      refine g_iconst (pc := 13) (v := 1) C dL_append_13 (by decide) ?_
      exact g_iretm C E dL_append_14 (Nat.le_of_eq (Nat.zero_add _)) (Nat.le_of_eq (Nat.zero_add _)) (.inr ⟨_, w1, 1, hp, by decide, rfl, rfl⟩)
    · refine g_catch (pc := 4) C E.2.1 [⟨0, 9, 12, 13⟩] ⟨0, 9, 15, 15⟩ [] rfl (fun z hz => by
          rw [List.mem_singleton.mp hz]
          exact ⟨xIAE, by decide, ckL_append_13, by decide +kernel⟩) (by decide) (by decide) ckL_append_15 (by decide +kernel) (fun q => ?_)
      refine g_astore_n (pc := 15) (lv' := [(3, .ref q), (0, .ref rG), (1, .int p1), (2, .ref o)]) C dL_append_15 (by decide) rfl ?_
      refine g_iconst (pc := 16) (v := 2) C dL_append_16 (by decide) ?_
      exact g_iretm C E dL_append_17 (Nat.le_of_eq (Nat.zero_add _)) (Nat.le_of_eq (Nat.zero_add _)) (.inr ⟨_, w1, 2, hp, by decide, rfl, rfl⟩)
  · obtain ⟨x, rfl⟩ := hc rv w1 hp
    refine g_stack (st' := [.int x, .int 0, .ref o]) rfl ?_
    refine g_i2l (pc := 7) C dL_append_7 ?_
    refine g_last (pc := 8) (X := some ()) (r := ()) (i := 0) (n := 1) rfl C 0 rfl dL_append_8 (ws' := wL (kD k) o (vp_updL g (Int32.toNatClampNeg 0) x.toInt64) ++ w1) rfl (fun _ => ?_)
    refine g_goto (pc := 9) (tgt := 18) C dL_append_9 (by decide) ?_
    refine g_iconst (pc := 18) (v := 0) C dL_append_18 (by decide) ?_
    exact g_iretm C E dL_append_19 (Nat.le_of_eq (Nat.zero_add _)) (Nat.le_of_eq (Nat.zero_add _)) (.inl ⟨x, w1, hp, rfl, rfl⟩)
set_option maxRecDepth 100000 in
set_option maxHeartbeats 4000000 in
theorem cL_append_ (l : Launch) (htr : l.stackTraces = false) (D : va_G) (rG o : Nat) (g : Nat → Int64) (p1 : Int32) (fs : List Value) (wt w0 : va_W) (hw : w0 = (rG, .inr (3, fs)) :: wt) (PC : Option Value → va_W → Prop) (PX : String → va_W → Prop) (hM : Tc l D yX4_append wsX4_append rmX4_append [.ref rG, .int p1] w0 PC PX 2 12) (hc : ∀ rv w, PC rv w → ∃ x : Int32, rv = some (.int x)) (hx : ∀ X w, PX X w → X = xIAE ∨ X = xISE) : Tm l D yL_append wsL_append rmL_append [.ref rG, .int p1, .ref o] (wL D o g ++ w0) (PH D o g csL_append PC PX) 2 12 := Tm_of htr (by decide +kernel) rfl (Nat.le_of_ble_eq_true rfl) (fun k C E hl hD => by subst hl; subst hD; exact wkL_append C rG o g p1 fs wt w0 hw PC PX hM hc hx E)
abbrev rmL_execute : Room := { frames := 7, cells := 1, slots := 6, locals := 162 }
abbrev hhL_execute : List (Nat × Nat × Nat × Nat) := [(0, 8, 11, 13)]
abbrev csL_execute : List (String × Int32) := [(xIAE, 1)]
theorem ckL_execute_13 : Cond.classLink RL 13 xIAE ∈ wsL_execute := by decide +kernel
theorem hsL_execute : yL_execute.cls ≠ "java/lang/invoke/MethodHandle" ∧ yL_execute.cls ≠ "java/lang/invoke/VarHandle" ∧ (parseMethodDescriptor yL_execute.desc).map (fun d => d.parameters.length) = some 2 := by decide +kernel
set_option maxRecDepth 100000 in
set_option maxHeartbeats 4000000 in
theorem wkL_execute {k : Kt} (C : gC k cL_execute 3 RL wsL_execute rmL_execute "execute") (rG o : Nat) (g : Nat → Int64)  (fs : List Value) (wt w0 : va_W) (hw : w0 = (rG, .inr (3, fs)) :: wt) (PC : Option Value → va_W → Prop) (PX : String → va_W → Prop) (hM : Tc (kL k) (kD k) yX4_execute wsX4_execute rmX4_execute [.ref rG] w0 PC PX 1 6) (hc : ∀ rv w, PC rv w → ∃ x : Int32, rv = some (.int x)) (hx : ∀ X w, PX X w → X = xIAE) (E : gEm k (wL (kD k) o g ++ w0) (PH (kD k) o g csL_execute PC PX) 1 6 (some .int) (tableOf hhL_execute)) : gG k (wL (kD k) o g ++ w0) [(0, .ref rG), (1, .ref o)] 0 0 0 [] := by
  refine g_aload_n (pc := 0) (x := o) C dL_execute_0 rfl ?_
  refine g_iconst (pc := 1) (v := 0) C dL_execute_1 (by decide) ?_
  refine g_aload_n (pc := 2) (x := rG) C dL_execute_2 rfl ?_
  refine g_callG (pc := 3) (wc := w0) (wr := wL (kD k) o g) (rest := [.int 0, .ref o]) C (gr_V (y := yX4_execute) (As := []) C hM (fun ht => cwV 0 ht gL_execute_X4_execute rfl rfl rfl hdX4_execute ⟨(Nat.le_of_ble_eq_true rfl), (Nat.le_of_ble_eq_true rfl)⟩) 1 (by rw [hw]; rfl) rfl _ (rg_map2 (wL (kD k) o g) w0) (rg_nd2 _ _) rfl rfl (Nat.le_of_ble_eq_true rfl) dL_execute_3 ⟨(Nat.le_of_ble_eq_true rfl), (Nat.le_of_ble_eq_true rfl)⟩) _ [0] (rg_map2 (wL (kD k) o g) w0) rfl (by decide) (fun i hi => by
    rw [List.mem_singleton.mp hi]
    intro q
    obtain ⟨j, -, e⟩ := List.mem_map.mp q
    exact absurd e (Nat.succ_ne_zero j)) (fun X w1 hp => ?_) (fun rv w1 hp => ?_)
  · obtain rfl := hx X w1 hp
    refine g_catch (pc := 3) C E.2.1 [] ⟨0, 8, 11, 13⟩ [] rfl (fun z hz => absurd hz List.not_mem_nil) (by decide) (by decide) ckL_execute_13 (by decide +kernel) (fun q => ?_)
    refine g_astore_n (pc := 11) (lv' := [(2, .ref q), (0, .ref rG), (1, .ref o)]) C dL_execute_11 (by decide) rfl ?_
    refine g_iconst (pc := 12) (v := 1) C dL_execute_12 (by decide) ?_
    exact g_iretm C E dL_execute_13 (Nat.le_of_eq (Nat.zero_add _)) (Nat.le_of_eq (Nat.zero_add _)) (.inr ⟨_, w1, 1, hp, by decide, rfl, rfl⟩)
  · obtain ⟨x, rfl⟩ := hc rv w1 hp
    refine g_stack (st' := [.int x, .int 0, .ref o]) rfl ?_
    refine g_i2l (pc := 6) C dL_execute_6 ?_
    refine g_last (pc := 7) (X := some ()) (r := ()) (i := 0) (n := 1) rfl C 0 rfl dL_execute_7 (ws' := wL (kD k) o (vp_updL g (Int32.toNatClampNeg 0) x.toInt64) ++ w1) rfl (fun _ => ?_)
    refine g_goto (pc := 8) (tgt := 14) C dL_execute_8 (by decide) ?_
    refine g_iconst (pc := 14) (v := 0) C dL_execute_14 (by decide) ?_
    exact g_iretm C E dL_execute_15 (Nat.le_of_eq (Nat.zero_add _)) (Nat.le_of_eq (Nat.zero_add _)) (.inl ⟨x, w1, hp, rfl, rfl⟩)
set_option maxRecDepth 100000 in
set_option maxHeartbeats 4000000 in
theorem cL_execute_ (l : Launch) (htr : l.stackTraces = false) (D : va_G) (rG o : Nat) (g : Nat → Int64)  (fs : List Value) (wt w0 : va_W) (hw : w0 = (rG, .inr (3, fs)) :: wt) (PC : Option Value → va_W → Prop) (PX : String → va_W → Prop) (hM : Tc l D yX4_execute wsX4_execute rmX4_execute [.ref rG] w0 PC PX 1 6) (hc : ∀ rv w, PC rv w → ∃ x : Int32, rv = some (.int x)) (hx : ∀ X w, PX X w → X = xIAE) : Tm l D yL_execute wsL_execute rmL_execute [.ref rG, .ref o] (wL D o g ++ w0) (PH D o g csL_execute PC PX) 1 6 := Tm_of htr (by decide +kernel) rfl (Nat.le_of_ble_eq_true rfl) (fun k C E hl hD => by subst hl; subst hD; exact wkL_execute C rG o g  fs wt w0 hw PC PX hM hc hx E)
abbrev rmL_undo : Room := { frames := 7, cells := 1, slots := 6, locals := 141 }
abbrev hhL_undo : List (Nat × Nat × Nat × Nat) := [(0, 8, 11, 15)]
abbrev csL_undo : List (String × Int32) := [(xISE, 1)]
theorem ckL_undo_15 : Cond.classLink RL 15 xISE ∈ wsL_undo := by decide +kernel
theorem hsL_undo : yL_undo.cls ≠ "java/lang/invoke/MethodHandle" ∧ yL_undo.cls ≠ "java/lang/invoke/VarHandle" ∧ (parseMethodDescriptor yL_undo.desc).map (fun d => d.parameters.length) = some 2 := by decide +kernel
set_option maxRecDepth 100000 in
set_option maxHeartbeats 4000000 in
theorem wkL_undo {k : Kt} (C : gC k cL_undo 3 RL wsL_undo rmL_undo "undo") (rG o : Nat) (g : Nat → Int64)  (fs : List Value) (wt w0 : va_W) (hw : w0 = (rG, .inr (3, fs)) :: wt) (PC : Option Value → va_W → Prop) (PX : String → va_W → Prop) (hM : Tc (kL k) (kD k) yX4_undo wsX4_undo rmX4_undo [.ref rG] w0 PC PX 1 6) (hc : ∀ rv w, PC rv w → ∃ x : Int32, rv = some (.int x)) (hx : ∀ X w, PX X w → X = xISE) (E : gEm k (wL (kD k) o g ++ w0) (PH (kD k) o g csL_undo PC PX) 1 6 (some .int) (tableOf hhL_undo)) : gG k (wL (kD k) o g ++ w0) [(0, .ref rG), (1, .ref o)] 0 0 0 [] := by
  refine g_aload_n (pc := 0) (x := o) C dL_undo_0 rfl ?_
  refine g_iconst (pc := 1) (v := 0) C dL_undo_1 (by decide) ?_
  refine g_aload_n (pc := 2) (x := rG) C dL_undo_2 rfl ?_
  refine g_callG (pc := 3) (wc := w0) (wr := wL (kD k) o g) (rest := [.int 0, .ref o]) C (gr_V (y := yX4_undo) (As := []) C hM (fun ht => cwV 0 ht gL_undo_X4_undo rfl rfl rfl hdX4_undo ⟨(Nat.le_of_ble_eq_true rfl), (Nat.le_of_ble_eq_true rfl)⟩) 1 (by rw [hw]; rfl) rfl _ (rg_map2 (wL (kD k) o g) w0) (rg_nd2 _ _) rfl rfl (Nat.le_of_ble_eq_true rfl) dL_undo_3 ⟨(Nat.le_of_ble_eq_true rfl), (Nat.le_of_ble_eq_true rfl)⟩) _ [0] (rg_map2 (wL (kD k) o g) w0) rfl (by decide) (fun i hi => by
    rw [List.mem_singleton.mp hi]
    intro q
    obtain ⟨j, -, e⟩ := List.mem_map.mp q
    exact absurd e (Nat.succ_ne_zero j)) (fun X w1 hp => ?_) (fun rv w1 hp => ?_)
  · obtain rfl := hx X w1 hp
    refine g_catch (pc := 3) C E.2.1 [] ⟨0, 8, 11, 15⟩ [] rfl (fun z hz => absurd hz List.not_mem_nil) (by decide) (by decide) ckL_undo_15 (by decide +kernel) (fun q => ?_)
    refine g_astore_n (pc := 11) (lv' := [(2, .ref q), (0, .ref rG), (1, .ref o)]) C dL_undo_11 (by decide) rfl ?_
    refine g_iconst (pc := 12) (v := 1) C dL_undo_12 (by decide) ?_
    exact g_iretm C E dL_undo_13 (Nat.le_of_eq (Nat.zero_add _)) (Nat.le_of_eq (Nat.zero_add _)) (.inr ⟨_, w1, 1, hp, by decide, rfl, rfl⟩)
  · obtain ⟨x, rfl⟩ := hc rv w1 hp
    refine g_stack (st' := [.int x, .int 0, .ref o]) rfl ?_
    refine g_i2l (pc := 6) C dL_undo_6 ?_
    refine g_last (pc := 7) (X := some ()) (r := ()) (i := 0) (n := 1) rfl C 0 rfl dL_undo_7 (ws' := wL (kD k) o (vp_updL g (Int32.toNatClampNeg 0) x.toInt64) ++ w1) rfl (fun _ => ?_)
    refine g_goto (pc := 8) (tgt := 14) C dL_undo_8 (by decide) ?_
    refine g_iconst (pc := 14) (v := 0) C dL_undo_14 (by decide) ?_
    exact g_iretm C E dL_undo_15 (Nat.le_of_eq (Nat.zero_add _)) (Nat.le_of_eq (Nat.zero_add _)) (.inl ⟨x, w1, hp, rfl, rfl⟩)
set_option maxRecDepth 100000 in
set_option maxHeartbeats 4000000 in
theorem cL_undo_ (l : Launch) (htr : l.stackTraces = false) (D : va_G) (rG o : Nat) (g : Nat → Int64)  (fs : List Value) (wt w0 : va_W) (hw : w0 = (rG, .inr (3, fs)) :: wt) (PC : Option Value → va_W → Prop) (PX : String → va_W → Prop) (hM : Tc l D yX4_undo wsX4_undo rmX4_undo [.ref rG] w0 PC PX 1 6) (hc : ∀ rv w, PC rv w → ∃ x : Int32, rv = some (.int x)) (hx : ∀ X w, PX X w → X = xISE) : Tm l D yL_undo wsL_undo rmL_undo [.ref rG, .ref o] (wL D o g ++ w0) (PH D o g csL_undo PC PX) 1 6 := Tm_of htr (by decide +kernel) rfl (Nat.le_of_ble_eq_true rfl) (fun k C E hl hD => by subst hl; subst hD; exact wkL_undo C rG o g  fs wt w0 hw PC PX hM hc hx E)
abbrev rmL_keep : Room := { frames := 9, cells := 10, slots := 163, locals := 171 }
abbrev hhL_keep : List (Nat × Nat × Nat × Nat) := [(0, 9, 12, 13)]
abbrev csL_keep : List (String × Int32) := [(xIAE, 1)]
theorem ckL_keep_13 : Cond.classLink RL 13 xIAE ∈ wsL_keep := by decide +kernel
theorem hsL_keep : yL_keep.cls ≠ "java/lang/invoke/MethodHandle" ∧ yL_keep.cls ≠ "java/lang/invoke/VarHandle" ∧ (parseMethodDescriptor yL_keep.desc).map (fun d => d.parameters.length) = some 3 := by decide +kernel
set_option maxRecDepth 100000 in
set_option maxHeartbeats 4000000 in
theorem wkL_keep {k : Kt} (C : gC k cL_keep 4 RL wsL_keep rmL_keep "keep") (rG o : Nat) (g : Nat → Int64) (p1 : Int32) (fs : List Value) (wt w0 : va_W) (hw : w0 = (rG, .inr (3, fs)) :: wt) (PC : Option Value → va_W → Prop) (PX : String → va_W → Prop) (hM : Tc (kL k) (kD k) yX4_keep wsX4_keep rmX4_keep [.ref rG, .int p1] w0 PC PX 10 163) (hc : ∀ rv w, PC rv w → ∃ x : Int32, rv = some (.int x)) (hx : ∀ X w, PX X w → X = xIAE) (E : gEm k (wL (kD k) o g ++ w0) (PH (kD k) o g csL_keep PC PX) 10 163 (some .int) (tableOf hhL_keep)) : gG k (wL (kD k) o g ++ w0) [(0, .ref rG), (1, .int p1), (2, .ref o)] 0 0 0 [] := by
  refine g_aload_n (pc := 0) (x := o) C dL_keep_0 rfl ?_
  refine g_iconst (pc := 1) (v := 0) C dL_keep_1 (by decide) ?_
  refine g_aload_n (pc := 2) (x := rG) C dL_keep_2 rfl ?_
  refine g_iload_n (pc := 3) (x := p1) C dL_keep_3 rfl ?_
  refine g_callG (pc := 4) (wc := w0) (wr := wL (kD k) o g) (rest := [.int 0, .ref o]) C (gr_V (y := yX4_keep) (As := [.int p1]) C hM (fun ht => cwV 1 ht gL_keep_X4_keep rfl rfl rfl hdX4_keep ⟨(Nat.le_of_ble_eq_true rfl), (Nat.le_of_ble_eq_true rfl)⟩) 1 (by rw [hw]; rfl) rfl _ (rg_map2 (wL (kD k) o g) w0) (rg_nd2 _ _) rfl rfl (Nat.le_of_ble_eq_true rfl) dL_keep_4 ⟨(Nat.le_of_ble_eq_true rfl), (Nat.le_of_ble_eq_true rfl)⟩) _ [0] (rg_map2 (wL (kD k) o g) w0) rfl (by decide) (fun i hi => by
    rw [List.mem_singleton.mp hi]
    intro q
    obtain ⟨j, -, e⟩ := List.mem_map.mp q
    exact absurd e (Nat.succ_ne_zero j)) (fun X w1 hp => ?_) (fun rv w1 hp => ?_)
  · obtain rfl := hx X w1 hp
    refine g_catch (pc := 4) C E.2.1 [] ⟨0, 9, 12, 13⟩ [] rfl (fun z hz => absurd hz List.not_mem_nil) (by decide) (by decide) ckL_keep_13 (by decide +kernel) (fun q => ?_)
    refine g_astore_n (pc := 12) (lv' := [(3, .ref q), (0, .ref rG), (1, .int p1), (2, .ref o)]) C dL_keep_12 (by decide) rfl ?_
    refine g_iconst (pc := 13) (v := 1) C dL_keep_13 (by decide) ?_
    exact g_iretm C E dL_keep_14 (Nat.le_of_eq (Nat.zero_add _)) (Nat.le_of_eq (Nat.zero_add _)) (.inr ⟨_, w1, 1, hp, by decide, rfl, rfl⟩)
  · obtain ⟨x, rfl⟩ := hc rv w1 hp
    refine g_stack (st' := [.int x, .int 0, .ref o]) rfl ?_
    refine g_i2l (pc := 7) C dL_keep_7 ?_
    refine g_last (pc := 8) (X := some ()) (r := ()) (i := 0) (n := 1) rfl C 0 rfl dL_keep_8 (ws' := wL (kD k) o (vp_updL g (Int32.toNatClampNeg 0) x.toInt64) ++ w1) rfl (fun _ => ?_)
    refine g_goto (pc := 9) (tgt := 15) C dL_keep_9 (by decide) ?_
    refine g_iconst (pc := 15) (v := 0) C dL_keep_15 (by decide) ?_
    exact g_iretm C E dL_keep_16 (Nat.le_of_eq (Nat.zero_add _)) (Nat.le_of_eq (Nat.zero_add _)) (.inl ⟨x, w1, hp, rfl, rfl⟩)
set_option maxRecDepth 100000 in
set_option maxHeartbeats 4000000 in
theorem cL_keep_ (l : Launch) (htr : l.stackTraces = false) (D : va_G) (rG o : Nat) (g : Nat → Int64) (p1 : Int32) (fs : List Value) (wt w0 : va_W) (hw : w0 = (rG, .inr (3, fs)) :: wt) (PC : Option Value → va_W → Prop) (PX : String → va_W → Prop) (hM : Tc l D yX4_keep wsX4_keep rmX4_keep [.ref rG, .int p1] w0 PC PX 10 163) (hc : ∀ rv w, PC rv w → ∃ x : Int32, rv = some (.int x)) (hx : ∀ X w, PX X w → X = xIAE) : Tm l D yL_keep wsL_keep rmL_keep [.ref rG, .int p1, .ref o] (wL D o g ++ w0) (PH D o g csL_keep PC PX) 10 163 := Tm_of htr (by decide +kernel) rfl (Nat.le_of_ble_eq_true rfl) (fun k C E hl hD => by subst hl; subst hD; exact wkL_keep C rG o g p1 fs wt w0 hw PC PX hM hc hx E)
abbrev rmL_goBack : Room := { frames := 9, cells := 2, slots := 12, locals := 171 }
abbrev hhL_goBack : List (Nat × Nat × Nat × Nat) := [(0, 9, 12, 13), (0, 9, 15, 15)]
abbrev csL_goBack : List (String × Int32) := [(xIAE, 1), (xISE, 2)]
theorem ckL_goBack_13 : Cond.classLink RL 13 xIAE ∈ wsL_goBack := by decide +kernel
theorem ckL_goBack_15 : Cond.classLink RL 15 xISE ∈ wsL_goBack := by decide +kernel
theorem hsL_goBack : yL_goBack.cls ≠ "java/lang/invoke/MethodHandle" ∧ yL_goBack.cls ≠ "java/lang/invoke/VarHandle" ∧ (parseMethodDescriptor yL_goBack.desc).map (fun d => d.parameters.length) = some 3 := by decide +kernel
set_option maxRecDepth 100000 in
set_option maxHeartbeats 4000000 in
theorem wkL_goBack {k : Kt} (C : gC k cL_goBack 4 RL wsL_goBack rmL_goBack "goBack") (rG o : Nat) (g : Nat → Int64) (p1 : Int32) (fs : List Value) (wt w0 : va_W) (hw : w0 = (rG, .inr (3, fs)) :: wt) (PC : Option Value → va_W → Prop) (PX : String → va_W → Prop) (hM : Tc (kL k) (kD k) yX4_goBack wsX4_goBack rmX4_goBack [.ref rG, .int p1] w0 PC PX 2 12) (hc : ∀ rv w, PC rv w → ∃ x : Int32, rv = some (.int x)) (hx : ∀ X w, PX X w → X = xIAE ∨ X = xISE) (E : gEm k (wL (kD k) o g ++ w0) (PH (kD k) o g csL_goBack PC PX) 2 12 (some .int) (tableOf hhL_goBack)) : gG k (wL (kD k) o g ++ w0) [(0, .ref rG), (1, .int p1), (2, .ref o)] 0 0 0 [] := by
  refine g_aload_n (pc := 0) (x := o) C dL_goBack_0 rfl ?_
  refine g_iconst (pc := 1) (v := 0) C dL_goBack_1 (by decide) ?_
  refine g_aload_n (pc := 2) (x := rG) C dL_goBack_2 rfl ?_
  refine g_iload_n (pc := 3) (x := p1) C dL_goBack_3 rfl ?_
  refine g_callG (pc := 4) (wc := w0) (wr := wL (kD k) o g) (rest := [.int 0, .ref o]) C (gr_V (y := yX4_goBack) (As := [.int p1]) C hM (fun ht => cwV 1 ht gL_goBack_X4_goBack rfl rfl rfl hdX4_goBack ⟨(Nat.le_of_ble_eq_true rfl), (Nat.le_of_ble_eq_true rfl)⟩) 1 (by rw [hw]; rfl) rfl _ (rg_map2 (wL (kD k) o g) w0) (rg_nd2 _ _) rfl rfl (Nat.le_of_ble_eq_true rfl) dL_goBack_4 ⟨(Nat.le_of_ble_eq_true rfl), (Nat.le_of_ble_eq_true rfl)⟩) _ [0] (rg_map2 (wL (kD k) o g) w0) rfl (by decide) (fun i hi => by
    rw [List.mem_singleton.mp hi]
    intro q
    obtain ⟨j, -, e⟩ := List.mem_map.mp q
    exact absurd e (Nat.succ_ne_zero j)) (fun X w1 hp => ?_) (fun rv w1 hp => ?_)
  · rcases hx X w1 hp with rfl | rfl
    · refine g_catch (pc := 4) C E.2.1 [] ⟨0, 9, 12, 13⟩ [⟨0, 9, 15, 15⟩] rfl (fun z hz => absurd hz List.not_mem_nil) (by decide) (by decide) ckL_goBack_13 (by decide +kernel) (fun q => ?_)
      refine g_astore_n (pc := 12) (lv' := [(3, .ref q), (0, .ref rG), (1, .int p1), (2, .ref o)]) C dL_goBack_12 (by decide) rfl ?_
      refine g_iconst (pc := 13) (v := 1) C dL_goBack_13 (by decide) ?_
      exact g_iretm C E dL_goBack_14 (Nat.le_of_eq (Nat.zero_add _)) (Nat.le_of_eq (Nat.zero_add _)) (.inr ⟨_, w1, 1, hp, by decide, rfl, rfl⟩)
    · refine g_catch (pc := 4) C E.2.1 [⟨0, 9, 12, 13⟩] ⟨0, 9, 15, 15⟩ [] rfl (fun z hz => by
          rw [List.mem_singleton.mp hz]
          exact ⟨xIAE, by decide, ckL_goBack_13, by decide +kernel⟩) (by decide) (by decide) ckL_goBack_15 (by decide +kernel) (fun q => ?_)
      refine g_astore_n (pc := 15) (lv' := [(3, .ref q), (0, .ref rG), (1, .int p1), (2, .ref o)]) C dL_goBack_15 (by decide) rfl ?_
      refine g_iconst (pc := 16) (v := 2) C dL_goBack_16 (by decide) ?_
      exact g_iretm C E dL_goBack_17 (Nat.le_of_eq (Nat.zero_add _)) (Nat.le_of_eq (Nat.zero_add _)) (.inr ⟨_, w1, 2, hp, by decide, rfl, rfl⟩)
  · obtain ⟨x, rfl⟩ := hc rv w1 hp
    refine g_stack (st' := [.int x, .int 0, .ref o]) rfl ?_
    refine g_i2l (pc := 7) C dL_goBack_7 ?_
    refine g_last (pc := 8) (X := some ()) (r := ()) (i := 0) (n := 1) rfl C 0 rfl dL_goBack_8 (ws' := wL (kD k) o (vp_updL g (Int32.toNatClampNeg 0) x.toInt64) ++ w1) rfl (fun _ => ?_)
    refine g_goto (pc := 9) (tgt := 18) C dL_goBack_9 (by decide) ?_
    refine g_iconst (pc := 18) (v := 0) C dL_goBack_18 (by decide) ?_
    exact g_iretm C E dL_goBack_19 (Nat.le_of_eq (Nat.zero_add _)) (Nat.le_of_eq (Nat.zero_add _)) (.inl ⟨x, w1, hp, rfl, rfl⟩)
set_option maxRecDepth 100000 in
set_option maxHeartbeats 4000000 in
theorem cL_goBack_ (l : Launch) (htr : l.stackTraces = false) (D : va_G) (rG o : Nat) (g : Nat → Int64) (p1 : Int32) (fs : List Value) (wt w0 : va_W) (hw : w0 = (rG, .inr (3, fs)) :: wt) (PC : Option Value → va_W → Prop) (PX : String → va_W → Prop) (hM : Tc l D yX4_goBack wsX4_goBack rmX4_goBack [.ref rG, .int p1] w0 PC PX 2 12) (hc : ∀ rv w, PC rv w → ∃ x : Int32, rv = some (.int x)) (hx : ∀ X w, PX X w → X = xIAE ∨ X = xISE) : Tm l D yL_goBack wsL_goBack rmL_goBack [.ref rG, .int p1, .ref o] (wL D o g ++ w0) (PH D o g csL_goBack PC PX) 2 12 := Tm_of htr (by decide +kernel) rfl (Nat.le_of_ble_eq_true rfl) (fun k C E hl hD => by subst hl; subst hD; exact wkL_goBack C rG o g p1 fs wt w0 hw PC PX hM hc hx E)
abbrev rmL_blockOf : Room := { frames := 8, cells := 2, slots := 12, locals := 135 }
abbrev hhL_blockOf : List (Nat × Nat × Nat × Nat) := [(0, 10, 13, 21), (0, 10, 17, 13)]
abbrev csL_blockOf : List (String × Int32) := [(xIOB, 1), (xIAE, 2)]
theorem ckL_blockOf_21 : Cond.classLink RL 21 xIOB ∈ wsL_blockOf := by decide +kernel
theorem ckL_blockOf_13 : Cond.classLink RL 13 xIAE ∈ wsL_blockOf := by decide +kernel
theorem hsL_blockOf : yL_blockOf.cls ≠ "java/lang/invoke/MethodHandle" ∧ yL_blockOf.cls ≠ "java/lang/invoke/VarHandle" ∧ (parseMethodDescriptor yL_blockOf.desc).map (fun d => d.parameters.length) = some 4 := by decide +kernel
set_option maxRecDepth 100000 in
set_option maxHeartbeats 4000000 in
theorem wkL_blockOf {k : Kt} (C : gC k cL_blockOf 5 RL wsL_blockOf rmL_blockOf "blockOf") (rG o : Nat) (g : Nat → Int64) (p1 : Int32) (p2 : Int32) (fs : List Value) (wt w0 : va_W) (hw : w0 = (rG, .inr (3, fs)) :: wt) (PC : Option Value → va_W → Prop) (PX : String → va_W → Prop) (hM : Tc (kL k) (kD k) yX4_blockOf wsX4_blockOf rmX4_blockOf [.ref rG, .int p1, .int p2] w0 PC PX 2 12) (hc : ∀ rv w, PC rv w → ∃ x : Int32, rv = some (.int x)) (hx : ∀ X w, PX X w → X = xIOB ∨ X = xIAE) (E : gEm k (wL (kD k) o g ++ w0) (PH (kD k) o g csL_blockOf PC PX) 2 12 (some .int) (tableOf hhL_blockOf)) : gG k (wL (kD k) o g ++ w0) [(0, .ref rG), (1, .int p1), (2, .int p2), (3, .ref o)] 0 0 0 [] := by
  refine g_aload_n (pc := 0) (x := o) C dL_blockOf_0 rfl ?_
  refine g_iconst (pc := 1) (v := 0) C dL_blockOf_1 (by decide) ?_
  refine g_aload_n (pc := 2) (x := rG) C dL_blockOf_2 rfl ?_
  refine g_iload_n (pc := 3) (x := p1) C dL_blockOf_3 rfl ?_
  refine g_iload_n (pc := 4) (x := p2) C dL_blockOf_4 rfl ?_
  refine g_callG (pc := 5) (wc := w0) (wr := wL (kD k) o g) (rest := [.int 0, .ref o]) C (gr_V (y := yX4_blockOf) (As := [.int p1, .int p2]) C hM (fun ht => cwV 2 ht gL_blockOf_X4_blockOf rfl rfl rfl hdX4_blockOf ⟨(Nat.le_of_ble_eq_true rfl), (Nat.le_of_ble_eq_true rfl)⟩) 1 (by rw [hw]; rfl) rfl _ (rg_map2 (wL (kD k) o g) w0) (rg_nd2 _ _) rfl rfl (Nat.le_of_ble_eq_true rfl) dL_blockOf_5 ⟨(Nat.le_of_ble_eq_true rfl), (Nat.le_of_ble_eq_true rfl)⟩) _ [0] (rg_map2 (wL (kD k) o g) w0) rfl (by decide) (fun i hi => by
    rw [List.mem_singleton.mp hi]
    intro q
    obtain ⟨j, -, e⟩ := List.mem_map.mp q
    exact absurd e (Nat.succ_ne_zero j)) (fun X w1 hp => ?_) (fun rv w1 hp => ?_)
  · rcases hx X w1 hp with rfl | rfl
    · refine g_catch (pc := 5) C E.2.1 [] ⟨0, 10, 13, 21⟩ [⟨0, 10, 17, 13⟩] rfl (fun z hz => absurd hz List.not_mem_nil) (by decide) (by decide) ckL_blockOf_21 (by decide +kernel) (fun q => ?_)
      refine g_astore (pc := 13) (lv' := [(4, .ref q), (0, .ref rG), (1, .int p1), (2, .int p2), (3, .ref o)]) C dL_blockOf_13 (by decide) rfl ?_
      refine g_iconst (pc := 15) (v := 1) C dL_blockOf_15 (by decide) ?_
      exact g_iretm C E dL_blockOf_16 (Nat.le_of_eq (Nat.zero_add _)) (Nat.le_of_eq (Nat.zero_add _)) (.inr ⟨_, w1, 1, hp, by decide, rfl, rfl⟩)
    · refine g_catch (pc := 5) C E.2.1 [⟨0, 10, 13, 21⟩] ⟨0, 10, 17, 13⟩ [] rfl (fun z hz => by
          rw [List.mem_singleton.mp hz]
          exact ⟨xIOB, by decide, ckL_blockOf_21, by decide +kernel⟩) (by decide) (by decide) ckL_blockOf_13 (by decide +kernel) (fun q => ?_)
      refine g_astore (pc := 17) (lv' := [(4, .ref q), (0, .ref rG), (1, .int p1), (2, .int p2), (3, .ref o)]) C dL_blockOf_17 (by decide) rfl ?_
      refine g_iconst (pc := 19) (v := 2) C dL_blockOf_19 (by decide) ?_
      exact g_iretm C E dL_blockOf_20 (Nat.le_of_eq (Nat.zero_add _)) (Nat.le_of_eq (Nat.zero_add _)) (.inr ⟨_, w1, 2, hp, by decide, rfl, rfl⟩)
  · obtain ⟨x, rfl⟩ := hc rv w1 hp
    refine g_stack (st' := [.int x, .int 0, .ref o]) rfl ?_
    refine g_i2l (pc := 8) C dL_blockOf_8 ?_
    refine g_last (pc := 9) (X := some ()) (r := ()) (i := 0) (n := 1) rfl C 0 rfl dL_blockOf_9 (ws' := wL (kD k) o (vp_updL g (Int32.toNatClampNeg 0) x.toInt64) ++ w1) rfl (fun _ => ?_)
    refine g_goto (pc := 10) (tgt := 21) C dL_blockOf_10 (by decide) ?_
    refine g_iconst (pc := 21) (v := 0) C dL_blockOf_21 (by decide) ?_
    exact g_iretm C E dL_blockOf_22 (Nat.le_of_eq (Nat.zero_add _)) (Nat.le_of_eq (Nat.zero_add _)) (.inl ⟨x, w1, hp, rfl, rfl⟩)
set_option maxRecDepth 100000 in
set_option maxHeartbeats 4000000 in
theorem cL_blockOf_ (l : Launch) (htr : l.stackTraces = false) (D : va_G) (rG o : Nat) (g : Nat → Int64) (p1 : Int32) (p2 : Int32) (fs : List Value) (wt w0 : va_W) (hw : w0 = (rG, .inr (3, fs)) :: wt) (PC : Option Value → va_W → Prop) (PX : String → va_W → Prop) (hM : Tc l D yX4_blockOf wsX4_blockOf rmX4_blockOf [.ref rG, .int p1, .int p2] w0 PC PX 2 12) (hc : ∀ rv w, PC rv w → ∃ x : Int32, rv = some (.int x)) (hx : ∀ X w, PX X w → X = xIOB ∨ X = xIAE) : Tm l D yL_blockOf wsL_blockOf rmL_blockOf [.ref rG, .int p1, .int p2, .ref o] (wL D o g ++ w0) (PH D o g csL_blockOf PC PX) 2 12 := Tm_of htr (by decide +kernel) rfl (Nat.le_of_ble_eq_true rfl) (fun k C E hl hD => by subst hl; subst hD; exact wkL_blockOf C rG o g p1 p2 fs wt w0 hw PC PX hM hc hx E)
abbrev rmL_stackOf : Room := { frames := 8, cells := 2, slots := 12, locals := 134 }
abbrev hhL_stackOf : List (Nat × Nat × Nat × Nat) := [(0, 10, 13, 21), (0, 10, 17, 13)]
abbrev csL_stackOf : List (String × Int32) := [(xIOB, 1), (xIAE, 2)]
theorem ckL_stackOf_21 : Cond.classLink RL 21 xIOB ∈ wsL_stackOf := by decide +kernel
theorem ckL_stackOf_13 : Cond.classLink RL 13 xIAE ∈ wsL_stackOf := by decide +kernel
theorem hsL_stackOf : yL_stackOf.cls ≠ "java/lang/invoke/MethodHandle" ∧ yL_stackOf.cls ≠ "java/lang/invoke/VarHandle" ∧ (parseMethodDescriptor yL_stackOf.desc).map (fun d => d.parameters.length) = some 4 := by decide +kernel
set_option maxRecDepth 100000 in
set_option maxHeartbeats 4000000 in
theorem wkL_stackOf {k : Kt} (C : gC k cL_stackOf 5 RL wsL_stackOf rmL_stackOf "stackOf") (rG o : Nat) (g : Nat → Int64) (p1 : Int32) (p2 : Int32) (fs : List Value) (wt w0 : va_W) (hw : w0 = (rG, .inr (3, fs)) :: wt) (PC : Option Value → va_W → Prop) (PX : String → va_W → Prop) (hM : Tc (kL k) (kD k) yX4_stackOf wsX4_stackOf rmX4_stackOf [.ref rG, .int p1, .int p2] w0 PC PX 2 12) (hc : ∀ rv w, PC rv w → ∃ x : Int32, rv = some (.int x)) (hx : ∀ X w, PX X w → X = xIOB ∨ X = xIAE) (E : gEm k (wL (kD k) o g ++ w0) (PH (kD k) o g csL_stackOf PC PX) 2 12 (some .int) (tableOf hhL_stackOf)) : gG k (wL (kD k) o g ++ w0) [(0, .ref rG), (1, .int p1), (2, .int p2), (3, .ref o)] 0 0 0 [] := by
  refine g_aload_n (pc := 0) (x := o) C dL_stackOf_0 rfl ?_
  refine g_iconst (pc := 1) (v := 0) C dL_stackOf_1 (by decide) ?_
  refine g_aload_n (pc := 2) (x := rG) C dL_stackOf_2 rfl ?_
  refine g_iload_n (pc := 3) (x := p1) C dL_stackOf_3 rfl ?_
  refine g_iload_n (pc := 4) (x := p2) C dL_stackOf_4 rfl ?_
  refine g_callG (pc := 5) (wc := w0) (wr := wL (kD k) o g) (rest := [.int 0, .ref o]) C (gr_V (y := yX4_stackOf) (As := [.int p1, .int p2]) C hM (fun ht => cwV 2 ht gL_stackOf_X4_stackOf rfl rfl rfl hdX4_stackOf ⟨(Nat.le_of_ble_eq_true rfl), (Nat.le_of_ble_eq_true rfl)⟩) 1 (by rw [hw]; rfl) rfl _ (rg_map2 (wL (kD k) o g) w0) (rg_nd2 _ _) rfl rfl (Nat.le_of_ble_eq_true rfl) dL_stackOf_5 ⟨(Nat.le_of_ble_eq_true rfl), (Nat.le_of_ble_eq_true rfl)⟩) _ [0] (rg_map2 (wL (kD k) o g) w0) rfl (by decide) (fun i hi => by
    rw [List.mem_singleton.mp hi]
    intro q
    obtain ⟨j, -, e⟩ := List.mem_map.mp q
    exact absurd e (Nat.succ_ne_zero j)) (fun X w1 hp => ?_) (fun rv w1 hp => ?_)
  · rcases hx X w1 hp with rfl | rfl
    · refine g_catch (pc := 5) C E.2.1 [] ⟨0, 10, 13, 21⟩ [⟨0, 10, 17, 13⟩] rfl (fun z hz => absurd hz List.not_mem_nil) (by decide) (by decide) ckL_stackOf_21 (by decide +kernel) (fun q => ?_)
      refine g_astore (pc := 13) (lv' := [(4, .ref q), (0, .ref rG), (1, .int p1), (2, .int p2), (3, .ref o)]) C dL_stackOf_13 (by decide) rfl ?_
      refine g_iconst (pc := 15) (v := 1) C dL_stackOf_15 (by decide) ?_
      exact g_iretm C E dL_stackOf_16 (Nat.le_of_eq (Nat.zero_add _)) (Nat.le_of_eq (Nat.zero_add _)) (.inr ⟨_, w1, 1, hp, by decide, rfl, rfl⟩)
    · refine g_catch (pc := 5) C E.2.1 [⟨0, 10, 13, 21⟩] ⟨0, 10, 17, 13⟩ [] rfl (fun z hz => by
          rw [List.mem_singleton.mp hz]
          exact ⟨xIOB, by decide, ckL_stackOf_21, by decide +kernel⟩) (by decide) (by decide) ckL_stackOf_13 (by decide +kernel) (fun q => ?_)
      refine g_astore (pc := 17) (lv' := [(4, .ref q), (0, .ref rG), (1, .int p1), (2, .int p2), (3, .ref o)]) C dL_stackOf_17 (by decide) rfl ?_
      refine g_iconst (pc := 19) (v := 2) C dL_stackOf_19 (by decide) ?_
      exact g_iretm C E dL_stackOf_20 (Nat.le_of_eq (Nat.zero_add _)) (Nat.le_of_eq (Nat.zero_add _)) (.inr ⟨_, w1, 2, hp, by decide, rfl, rfl⟩)
  · obtain ⟨x, rfl⟩ := hc rv w1 hp
    refine g_stack (st' := [.int x, .int 0, .ref o]) rfl ?_
    refine g_i2l (pc := 8) C dL_stackOf_8 ?_
    refine g_last (pc := 9) (X := some ()) (r := ()) (i := 0) (n := 1) rfl C 0 rfl dL_stackOf_9 (ws' := wL (kD k) o (vp_updL g (Int32.toNatClampNeg 0) x.toInt64) ++ w1) rfl (fun _ => ?_)
    refine g_goto (pc := 10) (tgt := 21) C dL_stackOf_10 (by decide) ?_
    refine g_iconst (pc := 21) (v := 0) C dL_stackOf_21 (by decide) ?_
    exact g_iretm C E dL_stackOf_22 (Nat.le_of_eq (Nat.zero_add _)) (Nat.le_of_eq (Nat.zero_add _)) (.inl ⟨x, w1, hp, rfl, rfl⟩)
set_option maxRecDepth 100000 in
set_option maxHeartbeats 4000000 in
theorem cL_stackOf_ (l : Launch) (htr : l.stackTraces = false) (D : va_G) (rG o : Nat) (g : Nat → Int64) (p1 : Int32) (p2 : Int32) (fs : List Value) (wt w0 : va_W) (hw : w0 = (rG, .inr (3, fs)) :: wt) (PC : Option Value → va_W → Prop) (PX : String → va_W → Prop) (hM : Tc l D yX4_stackOf wsX4_stackOf rmX4_stackOf [.ref rG, .int p1, .int p2] w0 PC PX 2 12) (hc : ∀ rv w, PC rv w → ∃ x : Int32, rv = some (.int x)) (hx : ∀ X w, PX X w → X = xIOB ∨ X = xIAE) : Tm l D yL_stackOf wsL_stackOf rmL_stackOf [.ref rG, .int p1, .int p2, .ref o] (wL D o g ++ w0) (PH D o g csL_stackOf PC PX) 2 12 := Tm_of htr (by decide +kernel) rfl (Nat.le_of_ble_eq_true rfl) (fun k C E hl hD => by subst hl; subst hD; exact wkL_stackOf C rG o g p1 p2 fs wt w0 hw PC PX hM hc hx E)
abbrev rmL_ranked : Room := { frames := 8, cells := 2, slots := 12, locals := 144 }
abbrev hhL_ranked : List (Nat × Nat × Nat × Nat) := [(0, 10, 13, 13)]
abbrev csL_ranked : List (String × Int32) := [(xIAE, 1)]
theorem ckL_ranked_13 : Cond.classLink RL 13 xIAE ∈ wsL_ranked := by decide +kernel
theorem hsL_ranked : yL_ranked.cls ≠ "java/lang/invoke/MethodHandle" ∧ yL_ranked.cls ≠ "java/lang/invoke/VarHandle" ∧ (parseMethodDescriptor yL_ranked.desc).map (fun d => d.parameters.length) = some 4 := by decide +kernel
set_option maxRecDepth 100000 in
set_option maxHeartbeats 4000000 in
theorem wkL_ranked {k : Kt} (C : gC k cL_ranked 5 RL wsL_ranked rmL_ranked "ranked") (rG o : Nat) (g : Nat → Int64) (p1 : Int32) (p2 : Int32) (fs : List Value) (wt w0 : va_W) (hw : w0 = (rG, .inr (3, fs)) :: wt) (PC : Option Value → va_W → Prop) (PX : String → va_W → Prop) (hM : Tc (kL k) (kD k) yX4_ranked wsX4_ranked rmX4_ranked [.ref rG, .int p1, .int p2] w0 PC PX 2 12) (hc : ∀ rv w, PC rv w → ∃ x : Int32, rv = some (.int x)) (hx : ∀ X w, PX X w → X = xIAE) (E : gEm k (wL (kD k) o g ++ w0) (PH (kD k) o g csL_ranked PC PX) 2 12 (some .int) (tableOf hhL_ranked)) : gG k (wL (kD k) o g ++ w0) [(0, .ref rG), (1, .int p1), (2, .int p2), (3, .ref o)] 0 0 0 [] := by
  refine g_aload_n (pc := 0) (x := o) C dL_ranked_0 rfl ?_
  refine g_iconst (pc := 1) (v := 0) C dL_ranked_1 (by decide) ?_
  refine g_aload_n (pc := 2) (x := rG) C dL_ranked_2 rfl ?_
  refine g_iload_n (pc := 3) (x := p1) C dL_ranked_3 rfl ?_
  refine g_iload_n (pc := 4) (x := p2) C dL_ranked_4 rfl ?_
  refine g_callG (pc := 5) (wc := w0) (wr := wL (kD k) o g) (rest := [.int 0, .ref o]) C (gr_V (y := yX4_ranked) (As := [.int p1, .int p2]) C hM (fun ht => cwV 2 ht gL_ranked_X4_ranked rfl rfl rfl hdX4_ranked ⟨(Nat.le_of_ble_eq_true rfl), (Nat.le_of_ble_eq_true rfl)⟩) 1 (by rw [hw]; rfl) rfl _ (rg_map2 (wL (kD k) o g) w0) (rg_nd2 _ _) rfl rfl (Nat.le_of_ble_eq_true rfl) dL_ranked_5 ⟨(Nat.le_of_ble_eq_true rfl), (Nat.le_of_ble_eq_true rfl)⟩) _ [0] (rg_map2 (wL (kD k) o g) w0) rfl (by decide) (fun i hi => by
    rw [List.mem_singleton.mp hi]
    intro q
    obtain ⟨j, -, e⟩ := List.mem_map.mp q
    exact absurd e (Nat.succ_ne_zero j)) (fun X w1 hp => ?_) (fun rv w1 hp => ?_)
  · obtain rfl := hx X w1 hp
    refine g_catch (pc := 5) C E.2.1 [] ⟨0, 10, 13, 13⟩ [] rfl (fun z hz => absurd hz List.not_mem_nil) (by decide) (by decide) ckL_ranked_13 (by decide +kernel) (fun q => ?_)
    refine g_astore (pc := 13) (lv' := [(4, .ref q), (0, .ref rG), (1, .int p1), (2, .int p2), (3, .ref o)]) C dL_ranked_13 (by decide) rfl ?_
    refine g_iconst (pc := 15) (v := 1) C dL_ranked_15 (by decide) ?_
    exact g_iretm C E dL_ranked_16 (Nat.le_of_eq (Nat.zero_add _)) (Nat.le_of_eq (Nat.zero_add _)) (.inr ⟨_, w1, 1, hp, by decide, rfl, rfl⟩)
  · obtain ⟨x, rfl⟩ := hc rv w1 hp
    refine g_stack (st' := [.int x, .int 0, .ref o]) rfl ?_
    refine g_i2l (pc := 8) C dL_ranked_8 ?_
    refine g_last (pc := 9) (X := some ()) (r := ()) (i := 0) (n := 1) rfl C 0 rfl dL_ranked_9 (ws' := wL (kD k) o (vp_updL g (Int32.toNatClampNeg 0) x.toInt64) ++ w1) rfl (fun _ => ?_)
    refine g_goto (pc := 10) (tgt := 17) C dL_ranked_10 (by decide) ?_
    refine g_iconst (pc := 17) (v := 0) C dL_ranked_17 (by decide) ?_
    exact g_iretm C E dL_ranked_18 (Nat.le_of_eq (Nat.zero_add _)) (Nat.le_of_eq (Nat.zero_add _)) (.inl ⟨x, w1, hp, rfl, rfl⟩)
set_option maxRecDepth 100000 in
set_option maxHeartbeats 4000000 in
theorem cL_ranked_ (l : Launch) (htr : l.stackTraces = false) (D : va_G) (rG o : Nat) (g : Nat → Int64) (p1 : Int32) (p2 : Int32) (fs : List Value) (wt w0 : va_W) (hw : w0 = (rG, .inr (3, fs)) :: wt) (PC : Option Value → va_W → Prop) (PX : String → va_W → Prop) (hM : Tc l D yX4_ranked wsX4_ranked rmX4_ranked [.ref rG, .int p1, .int p2] w0 PC PX 2 12) (hc : ∀ rv w, PC rv w → ∃ x : Int32, rv = some (.int x)) (hx : ∀ X w, PX X w → X = xIAE) : Tm l D yL_ranked wsL_ranked rmL_ranked [.ref rG, .int p1, .int p2, .ref o] (wL D o g ++ w0) (PH D o g csL_ranked PC PX) 2 12 := Tm_of htr (by decide +kernel) rfl (Nat.le_of_ble_eq_true rfl) (fun k C E hl hD => by subst hl; subst hD; exact wkL_ranked C rG o g p1 p2 fs wt w0 hw PC PX hM hc hx E)
abbrev rmL_lengths : Room := { frames := 8, cells := 1, slots := 6, locals := 134 }
abbrev hhL_lengths : List (Nat × Nat × Nat × Nat) := [(0, 9, 12, 13)]
abbrev csL_lengths : List (String × Int32) := [(xIAE, 1)]
theorem ckL_lengths_13 : Cond.classLink RL 13 xIAE ∈ wsL_lengths := by decide +kernel
theorem hsL_lengths : yL_lengths.cls ≠ "java/lang/invoke/MethodHandle" ∧ yL_lengths.cls ≠ "java/lang/invoke/VarHandle" ∧ (parseMethodDescriptor yL_lengths.desc).map (fun d => d.parameters.length) = some 3 := by decide +kernel
set_option maxRecDepth 100000 in
set_option maxHeartbeats 4000000 in
theorem wkL_lengths {k : Kt} (C : gC k cL_lengths 4 RL wsL_lengths rmL_lengths "lengths") (rG o : Nat) (g : Nat → Int64) (p1 : Int32) (fs : List Value) (wt w0 : va_W) (hw : w0 = (rG, .inr (3, fs)) :: wt) (PC : Option Value → va_W → Prop) (PX : String → va_W → Prop) (hM : Tc (kL k) (kD k) yX4_lengths wsX4_lengths rmX4_lengths [.ref rG, .int p1] w0 PC PX 1 6) (hc : ∀ rv w, PC rv w → ∃ x : Int32, rv = some (.int x)) (hx : ∀ X w, PX X w → X = xIAE) (E : gEm k (wL (kD k) o g ++ w0) (PH (kD k) o g csL_lengths PC PX) 1 6 (some .int) (tableOf hhL_lengths)) : gG k (wL (kD k) o g ++ w0) [(0, .ref rG), (1, .int p1), (2, .ref o)] 0 0 0 [] := by
  refine g_aload_n (pc := 0) (x := o) C dL_lengths_0 rfl ?_
  refine g_iconst (pc := 1) (v := 0) C dL_lengths_1 (by decide) ?_
  refine g_aload_n (pc := 2) (x := rG) C dL_lengths_2 rfl ?_
  refine g_iload_n (pc := 3) (x := p1) C dL_lengths_3 rfl ?_
  refine g_callG (pc := 4) (wc := w0) (wr := wL (kD k) o g) (rest := [.int 0, .ref o]) C (gr_V (y := yX4_lengths) (As := [.int p1]) C hM (fun ht => cwV 1 ht gL_lengths_X4_lengths rfl rfl rfl hdX4_lengths ⟨(Nat.le_of_ble_eq_true rfl), (Nat.le_of_ble_eq_true rfl)⟩) 1 (by rw [hw]; rfl) rfl _ (rg_map2 (wL (kD k) o g) w0) (rg_nd2 _ _) rfl rfl (Nat.le_of_ble_eq_true rfl) dL_lengths_4 ⟨(Nat.le_of_ble_eq_true rfl), (Nat.le_of_ble_eq_true rfl)⟩) _ [0] (rg_map2 (wL (kD k) o g) w0) rfl (by decide) (fun i hi => by
    rw [List.mem_singleton.mp hi]
    intro q
    obtain ⟨j, -, e⟩ := List.mem_map.mp q
    exact absurd e (Nat.succ_ne_zero j)) (fun X w1 hp => ?_) (fun rv w1 hp => ?_)
  · obtain rfl := hx X w1 hp
    refine g_catch (pc := 4) C E.2.1 [] ⟨0, 9, 12, 13⟩ [] rfl (fun z hz => absurd hz List.not_mem_nil) (by decide) (by decide) ckL_lengths_13 (by decide +kernel) (fun q => ?_)
    refine g_astore_n (pc := 12) (lv' := [(3, .ref q), (0, .ref rG), (1, .int p1), (2, .ref o)]) C dL_lengths_12 (by decide) rfl ?_
    refine g_iconst (pc := 13) (v := 1) C dL_lengths_13 (by decide) ?_
    exact g_iretm C E dL_lengths_14 (Nat.le_of_eq (Nat.zero_add _)) (Nat.le_of_eq (Nat.zero_add _)) (.inr ⟨_, w1, 1, hp, by decide, rfl, rfl⟩)
  · obtain ⟨x, rfl⟩ := hc rv w1 hp
    refine g_stack (st' := [.int x, .int 0, .ref o]) rfl ?_
    refine g_i2l (pc := 7) C dL_lengths_7 ?_
    refine g_last (pc := 8) (X := some ()) (r := ()) (i := 0) (n := 1) rfl C 0 rfl dL_lengths_8 (ws' := wL (kD k) o (vp_updL g (Int32.toNatClampNeg 0) x.toInt64) ++ w1) rfl (fun _ => ?_)
    refine g_goto (pc := 9) (tgt := 15) C dL_lengths_9 (by decide) ?_
    refine g_iconst (pc := 15) (v := 0) C dL_lengths_15 (by decide) ?_
    exact g_iretm C E dL_lengths_16 (Nat.le_of_eq (Nat.zero_add _)) (Nat.le_of_eq (Nat.zero_add _)) (.inl ⟨x, w1, hp, rfl, rfl⟩)
set_option maxRecDepth 100000 in
set_option maxHeartbeats 4000000 in
theorem cL_lengths_ (l : Launch) (htr : l.stackTraces = false) (D : va_G) (rG o : Nat) (g : Nat → Int64) (p1 : Int32) (fs : List Value) (wt w0 : va_W) (hw : w0 = (rG, .inr (3, fs)) :: wt) (PC : Option Value → va_W → Prop) (PX : String → va_W → Prop) (hM : Tc l D yX4_lengths wsX4_lengths rmX4_lengths [.ref rG, .int p1] w0 PC PX 1 6) (hc : ∀ rv w, PC rv w → ∃ x : Int32, rv = some (.int x)) (hx : ∀ X w, PX X w → X = xIAE) : Tm l D yL_lengths wsL_lengths rmL_lengths [.ref rG, .int p1, .ref o] (wL D o g ++ w0) (PH D o g csL_lengths PC PX) 1 6 := Tm_of htr (by decide +kernel) rfl (Nat.le_of_ble_eq_true rfl) (fun k C E hl hD => by subst hl; subst hD; exact wkL_lengths C rG o g p1 fs wt w0 hw PC PX hM hc hx E)
abbrev rmL_count : Room := { frames := 7, cells := 1, slots := 6, locals := 118 }
abbrev hhL_count : List (Nat × Nat × Nat × Nat) := [(0, 9, 12, 13)]
abbrev csL_count : List (String × Int32) := [(xIAE, 1)]
theorem ckL_count_13 : Cond.classLink RL 13 xIAE ∈ wsL_count := by decide +kernel
theorem hsL_count : yL_count.cls ≠ "java/lang/invoke/MethodHandle" ∧ yL_count.cls ≠ "java/lang/invoke/VarHandle" ∧ (parseMethodDescriptor yL_count.desc).map (fun d => d.parameters.length) = some 3 := by decide +kernel
set_option maxRecDepth 100000 in
set_option maxHeartbeats 4000000 in
theorem wkL_count {k : Kt} (C : gC k cL_count 4 RL wsL_count rmL_count "count") (rG o : Nat) (g : Nat → Int64) (p1 : Int32) (fs : List Value) (wt w0 : va_W) (hw : w0 = (rG, .inr (3, fs)) :: wt) (PC : Option Value → va_W → Prop) (PX : String → va_W → Prop) (hM : Tc (kL k) (kD k) yX4_count wsX4_count rmX4_count [.ref rG, .int p1] w0 PC PX 1 6) (hc : ∀ rv w, PC rv w → ∃ x : Int32, rv = some (.int x)) (hx : ∀ X w, PX X w → X = xIAE) (E : gEm k (wL (kD k) o g ++ w0) (PH (kD k) o g csL_count PC PX) 1 6 (some .int) (tableOf hhL_count)) : gG k (wL (kD k) o g ++ w0) [(0, .ref rG), (1, .int p1), (2, .ref o)] 0 0 0 [] := by
  refine g_aload_n (pc := 0) (x := o) C dL_count_0 rfl ?_
  refine g_iconst (pc := 1) (v := 0) C dL_count_1 (by decide) ?_
  refine g_aload_n (pc := 2) (x := rG) C dL_count_2 rfl ?_
  refine g_iload_n (pc := 3) (x := p1) C dL_count_3 rfl ?_
  refine g_callG (pc := 4) (wc := w0) (wr := wL (kD k) o g) (rest := [.int 0, .ref o]) C (gr_V (y := yX4_count) (As := [.int p1]) C hM (fun ht => cwV 1 ht gL_count_X4_count rfl rfl rfl hdX4_count ⟨(Nat.le_of_ble_eq_true rfl), (Nat.le_of_ble_eq_true rfl)⟩) 1 (by rw [hw]; rfl) rfl _ (rg_map2 (wL (kD k) o g) w0) (rg_nd2 _ _) rfl rfl (Nat.le_of_ble_eq_true rfl) dL_count_4 ⟨(Nat.le_of_ble_eq_true rfl), (Nat.le_of_ble_eq_true rfl)⟩) _ [0] (rg_map2 (wL (kD k) o g) w0) rfl (by decide) (fun i hi => by
    rw [List.mem_singleton.mp hi]
    intro q
    obtain ⟨j, -, e⟩ := List.mem_map.mp q
    exact absurd e (Nat.succ_ne_zero j)) (fun X w1 hp => ?_) (fun rv w1 hp => ?_)
  · obtain rfl := hx X w1 hp
    refine g_catch (pc := 4) C E.2.1 [] ⟨0, 9, 12, 13⟩ [] rfl (fun z hz => absurd hz List.not_mem_nil) (by decide) (by decide) ckL_count_13 (by decide +kernel) (fun q => ?_)
    refine g_astore_n (pc := 12) (lv' := [(3, .ref q), (0, .ref rG), (1, .int p1), (2, .ref o)]) C dL_count_12 (by decide) rfl ?_
    refine g_iconst (pc := 13) (v := 1) C dL_count_13 (by decide) ?_
    exact g_iretm C E dL_count_14 (Nat.le_of_eq (Nat.zero_add _)) (Nat.le_of_eq (Nat.zero_add _)) (.inr ⟨_, w1, 1, hp, by decide, rfl, rfl⟩)
  · obtain ⟨x, rfl⟩ := hc rv w1 hp
    refine g_stack (st' := [.int x, .int 0, .ref o]) rfl ?_
    refine g_i2l (pc := 7) C dL_count_7 ?_
    refine g_last (pc := 8) (X := some ()) (r := ()) (i := 0) (n := 1) rfl C 0 rfl dL_count_8 (ws' := wL (kD k) o (vp_updL g (Int32.toNatClampNeg 0) x.toInt64) ++ w1) rfl (fun _ => ?_)
    refine g_goto (pc := 9) (tgt := 15) C dL_count_9 (by decide) ?_
    refine g_iconst (pc := 15) (v := 0) C dL_count_15 (by decide) ?_
    exact g_iretm C E dL_count_16 (Nat.le_of_eq (Nat.zero_add _)) (Nat.le_of_eq (Nat.zero_add _)) (.inl ⟨x, w1, hp, rfl, rfl⟩)
set_option maxRecDepth 100000 in
set_option maxHeartbeats 4000000 in
theorem cL_count_ (l : Launch) (htr : l.stackTraces = false) (D : va_G) (rG o : Nat) (g : Nat → Int64) (p1 : Int32) (fs : List Value) (wt w0 : va_W) (hw : w0 = (rG, .inr (3, fs)) :: wt) (PC : Option Value → va_W → Prop) (PX : String → va_W → Prop) (hM : Tc l D yX4_count wsX4_count rmX4_count [.ref rG, .int p1] w0 PC PX 1 6) (hc : ∀ rv w, PC rv w → ∃ x : Int32, rv = some (.int x)) (hx : ∀ X w, PX X w → X = xIAE) : Tm l D yL_count wsL_count rmL_count [.ref rG, .int p1, .ref o] (wL D o g ++ w0) (PH D o g csL_count PC PX) 1 6 := Tm_of htr (by decide +kernel) rfl (Nat.le_of_ble_eq_true rfl) (fun k C E hl hD => by subst hl; subst hD; exact wkL_count C rG o g p1 fs wt w0 hw PC PX hM hc hx E)
abbrev rmL_setting : Room := { frames := 8, cells := 1, slots := 6, locals := 133 }
abbrev hhL_setting : List (Nat × Nat × Nat × Nat) := [(0, 9, 12, 21)]
abbrev csL_setting : List (String × Int32) := [(xIOB, 1)]
theorem ckL_setting_21 : Cond.classLink RL 21 xIOB ∈ wsL_setting := by decide +kernel
theorem hsL_setting : yL_setting.cls ≠ "java/lang/invoke/MethodHandle" ∧ yL_setting.cls ≠ "java/lang/invoke/VarHandle" ∧ (parseMethodDescriptor yL_setting.desc).map (fun d => d.parameters.length) = some 3 := by decide +kernel
set_option maxRecDepth 100000 in
set_option maxHeartbeats 4000000 in
theorem wkL_setting {k : Kt} (C : gC k cL_setting 4 RL wsL_setting rmL_setting "setting") (rG o : Nat) (g : Nat → Int64) (p1 : Int32) (fs : List Value) (wt w0 : va_W) (hw : w0 = (rG, .inr (3, fs)) :: wt) (PC : Option Value → va_W → Prop) (PX : String → va_W → Prop) (hM : Tc (kL k) (kD k) yX4_setting wsX4_setting rmX4_setting [.ref rG, .int p1] w0 PC PX 1 6) (hc : ∀ rv w, PC rv w → ∃ x : Int32, rv = some (.int x)) (hx : ∀ X w, PX X w → X = xIOB) (E : gEm k (wL (kD k) o g ++ w0) (PH (kD k) o g csL_setting PC PX) 1 6 (some .int) (tableOf hhL_setting)) : gG k (wL (kD k) o g ++ w0) [(0, .ref rG), (1, .int p1), (2, .ref o)] 0 0 0 [] := by
  refine g_aload_n (pc := 0) (x := o) C dL_setting_0 rfl ?_
  refine g_iconst (pc := 1) (v := 0) C dL_setting_1 (by decide) ?_
  refine g_aload_n (pc := 2) (x := rG) C dL_setting_2 rfl ?_
  refine g_iload_n (pc := 3) (x := p1) C dL_setting_3 rfl ?_
  refine g_callG (pc := 4) (wc := w0) (wr := wL (kD k) o g) (rest := [.int 0, .ref o]) C (gr_V (y := yX4_setting) (As := [.int p1]) C hM (fun ht => cwV 1 ht gL_setting_X4_setting rfl rfl rfl hdX4_setting ⟨(Nat.le_of_ble_eq_true rfl), (Nat.le_of_ble_eq_true rfl)⟩) 1 (by rw [hw]; rfl) rfl _ (rg_map2 (wL (kD k) o g) w0) (rg_nd2 _ _) rfl rfl (Nat.le_of_ble_eq_true rfl) dL_setting_4 ⟨(Nat.le_of_ble_eq_true rfl), (Nat.le_of_ble_eq_true rfl)⟩) _ [0] (rg_map2 (wL (kD k) o g) w0) rfl (by decide) (fun i hi => by
    rw [List.mem_singleton.mp hi]
    intro q
    obtain ⟨j, -, e⟩ := List.mem_map.mp q
    exact absurd e (Nat.succ_ne_zero j)) (fun X w1 hp => ?_) (fun rv w1 hp => ?_)
  · obtain rfl := hx X w1 hp
    refine g_catch (pc := 4) C E.2.1 [] ⟨0, 9, 12, 21⟩ [] rfl (fun z hz => absurd hz List.not_mem_nil) (by decide) (by decide) ckL_setting_21 (by decide +kernel) (fun q => ?_)
    refine g_astore_n (pc := 12) (lv' := [(3, .ref q), (0, .ref rG), (1, .int p1), (2, .ref o)]) C dL_setting_12 (by decide) rfl ?_
    refine g_iconst (pc := 13) (v := 1) C dL_setting_13 (by decide) ?_
    exact g_iretm C E dL_setting_14 (Nat.le_of_eq (Nat.zero_add _)) (Nat.le_of_eq (Nat.zero_add _)) (.inr ⟨_, w1, 1, hp, by decide, rfl, rfl⟩)
  · obtain ⟨x, rfl⟩ := hc rv w1 hp
    refine g_stack (st' := [.int x, .int 0, .ref o]) rfl ?_
    refine g_i2l (pc := 7) C dL_setting_7 ?_
    refine g_last (pc := 8) (X := some ()) (r := ()) (i := 0) (n := 1) rfl C 0 rfl dL_setting_8 (ws' := wL (kD k) o (vp_updL g (Int32.toNatClampNeg 0) x.toInt64) ++ w1) rfl (fun _ => ?_)
    refine g_goto (pc := 9) (tgt := 15) C dL_setting_9 (by decide) ?_
    refine g_iconst (pc := 15) (v := 0) C dL_setting_15 (by decide) ?_
    exact g_iretm C E dL_setting_16 (Nat.le_of_eq (Nat.zero_add _)) (Nat.le_of_eq (Nat.zero_add _)) (.inl ⟨x, w1, hp, rfl, rfl⟩)
set_option maxRecDepth 100000 in
set_option maxHeartbeats 4000000 in
theorem cL_setting_ (l : Launch) (htr : l.stackTraces = false) (D : va_G) (rG o : Nat) (g : Nat → Int64) (p1 : Int32) (fs : List Value) (wt w0 : va_W) (hw : w0 = (rG, .inr (3, fs)) :: wt) (PC : Option Value → va_W → Prop) (PX : String → va_W → Prop) (hM : Tc l D yX4_setting wsX4_setting rmX4_setting [.ref rG, .int p1] w0 PC PX 1 6) (hc : ∀ rv w, PC rv w → ∃ x : Int32, rv = some (.int x)) (hx : ∀ X w, PX X w → X = xIOB) : Tm l D yL_setting wsL_setting rmL_setting [.ref rG, .int p1, .ref o] (wL D o g ++ w0) (PH D o g csL_setting PC PX) 1 6 := Tm_of htr (by decide +kernel) rfl (Nat.le_of_ble_eq_true rfl) (fun k C E hl hD => by subst hl; subst hD; exact wkL_setting C rG o g p1 fs wt w0 hw PC PX hM hc hx E)
abbrev rmL_refusal : Room := { frames := 8, cells := 2, slots := 12, locals := 135 }
abbrev hhL_refusal : List (Nat × Nat × Nat × Nat) := [(0, 10, 13, 21)]
abbrev csL_refusal : List (String × Int32) := [(xIOB, 1)]
theorem ckL_refusal_21 : Cond.classLink RL 21 xIOB ∈ wsL_refusal := by decide +kernel
theorem hsL_refusal : yL_refusal.cls ≠ "java/lang/invoke/MethodHandle" ∧ yL_refusal.cls ≠ "java/lang/invoke/VarHandle" ∧ (parseMethodDescriptor yL_refusal.desc).map (fun d => d.parameters.length) = some 4 := by decide +kernel
set_option maxRecDepth 100000 in
set_option maxHeartbeats 4000000 in
theorem wkL_refusal {k : Kt} (C : gC k cL_refusal 5 RL wsL_refusal rmL_refusal "refusal") (rG o : Nat) (g : Nat → Int64) (p1 : Int32) (p2 : Int32) (fs : List Value) (wt w0 : va_W) (hw : w0 = (rG, .inr (3, fs)) :: wt) (PC : Option Value → va_W → Prop) (PX : String → va_W → Prop) (hM : Tc (kL k) (kD k) yX4_refusal wsX4_refusal rmX4_refusal [.ref rG, .int p1, .int p2] w0 PC PX 2 12) (hc : ∀ rv w, PC rv w → ∃ x : Int32, rv = some (.int x)) (hx : ∀ X w, PX X w → X = xIOB) (E : gEm k (wL (kD k) o g ++ w0) (PH (kD k) o g csL_refusal PC PX) 2 12 (some .int) (tableOf hhL_refusal)) : gG k (wL (kD k) o g ++ w0) [(0, .ref rG), (1, .int p1), (2, .int p2), (3, .ref o)] 0 0 0 [] := by
  refine g_aload_n (pc := 0) (x := o) C dL_refusal_0 rfl ?_
  refine g_iconst (pc := 1) (v := 0) C dL_refusal_1 (by decide) ?_
  refine g_aload_n (pc := 2) (x := rG) C dL_refusal_2 rfl ?_
  refine g_iload_n (pc := 3) (x := p1) C dL_refusal_3 rfl ?_
  refine g_iload_n (pc := 4) (x := p2) C dL_refusal_4 rfl ?_
  refine g_callG (pc := 5) (wc := w0) (wr := wL (kD k) o g) (rest := [.int 0, .ref o]) C (gr_V (y := yX4_refusal) (As := [.int p1, .int p2]) C hM (fun ht => cwV 2 ht gL_refusal_X4_refusal rfl rfl rfl hdX4_refusal ⟨(Nat.le_of_ble_eq_true rfl), (Nat.le_of_ble_eq_true rfl)⟩) 1 (by rw [hw]; rfl) rfl _ (rg_map2 (wL (kD k) o g) w0) (rg_nd2 _ _) rfl rfl (Nat.le_of_ble_eq_true rfl) dL_refusal_5 ⟨(Nat.le_of_ble_eq_true rfl), (Nat.le_of_ble_eq_true rfl)⟩) _ [0] (rg_map2 (wL (kD k) o g) w0) rfl (by decide) (fun i hi => by
    rw [List.mem_singleton.mp hi]
    intro q
    obtain ⟨j, -, e⟩ := List.mem_map.mp q
    exact absurd e (Nat.succ_ne_zero j)) (fun X w1 hp => ?_) (fun rv w1 hp => ?_)
  · obtain rfl := hx X w1 hp
    refine g_catch (pc := 5) C E.2.1 [] ⟨0, 10, 13, 21⟩ [] rfl (fun z hz => absurd hz List.not_mem_nil) (by decide) (by decide) ckL_refusal_21 (by decide +kernel) (fun q => ?_)
    refine g_astore (pc := 13) (lv' := [(4, .ref q), (0, .ref rG), (1, .int p1), (2, .int p2), (3, .ref o)]) C dL_refusal_13 (by decide) rfl ?_
    refine g_iconst (pc := 15) (v := 1) C dL_refusal_15 (by decide) ?_
    exact g_iretm C E dL_refusal_16 (Nat.le_of_eq (Nat.zero_add _)) (Nat.le_of_eq (Nat.zero_add _)) (.inr ⟨_, w1, 1, hp, by decide, rfl, rfl⟩)
  · obtain ⟨x, rfl⟩ := hc rv w1 hp
    refine g_stack (st' := [.int x, .int 0, .ref o]) rfl ?_
    refine g_i2l (pc := 8) C dL_refusal_8 ?_
    refine g_last (pc := 9) (X := some ()) (r := ()) (i := 0) (n := 1) rfl C 0 rfl dL_refusal_9 (ws' := wL (kD k) o (vp_updL g (Int32.toNatClampNeg 0) x.toInt64) ++ w1) rfl (fun _ => ?_)
    refine g_goto (pc := 10) (tgt := 17) C dL_refusal_10 (by decide) ?_
    refine g_iconst (pc := 17) (v := 0) C dL_refusal_17 (by decide) ?_
    exact g_iretm C E dL_refusal_18 (Nat.le_of_eq (Nat.zero_add _)) (Nat.le_of_eq (Nat.zero_add _)) (.inl ⟨x, w1, hp, rfl, rfl⟩)
set_option maxRecDepth 100000 in
set_option maxHeartbeats 4000000 in
theorem cL_refusal_ (l : Launch) (htr : l.stackTraces = false) (D : va_G) (rG o : Nat) (g : Nat → Int64) (p1 : Int32) (p2 : Int32) (fs : List Value) (wt w0 : va_W) (hw : w0 = (rG, .inr (3, fs)) :: wt) (PC : Option Value → va_W → Prop) (PX : String → va_W → Prop) (hM : Tc l D yX4_refusal wsX4_refusal rmX4_refusal [.ref rG, .int p1, .int p2] w0 PC PX 2 12) (hc : ∀ rv w, PC rv w → ∃ x : Int32, rv = some (.int x)) (hx : ∀ X w, PX X w → X = xIOB) : Tm l D yL_refusal wsL_refusal rmL_refusal [.ref rG, .int p1, .int p2, .ref o] (wL D o g ++ w0) (PH D o g csL_refusal PC PX) 2 12 := Tm_of htr (by decide +kernel) rfl (Nat.le_of_ble_eq_true rfl) (fun k C E hl hD => by subst hl; subst hD; exact wkL_refusal C rG o g p1 p2 fs wt w0 hw PC PX hM hc hx E)
abbrev rmL_fewest : Room := { frames := 11, cells := 2, slots := 12, locals := 299 }
abbrev hhL_fewest : List (Nat × Nat × Nat × Nat) := [(0, 10, 13, 13)]
abbrev csL_fewest : List (String × Int32) := [(xIAE, 1)]
theorem ckL_fewest_13 : Cond.classLink RL 13 xIAE ∈ wsL_fewest := by decide +kernel
theorem hsL_fewest : yL_fewest.cls ≠ "java/lang/invoke/MethodHandle" ∧ yL_fewest.cls ≠ "java/lang/invoke/VarHandle" ∧ (parseMethodDescriptor yL_fewest.desc).map (fun d => d.parameters.length) = some 4 := by decide +kernel
set_option maxRecDepth 100000 in
set_option maxHeartbeats 4000000 in
theorem wkL_fewest {k : Kt} (C : gC k cL_fewest 5 RL wsL_fewest rmL_fewest "fewest") (rG o : Nat) (g : Nat → Int64) (p1 : Int32) (p2 : Int32) (fs : List Value) (wt w0 : va_W) (hw : w0 = (rG, .inr (3, fs)) :: wt) (PC : Option Value → va_W → Prop) (PX : String → va_W → Prop) (hM : Tc (kL k) (kD k) yX4_fewest wsX4_fewest rmX4_fewest [.ref rG, .int p1, .int p2] w0 PC PX 2 12) (hc : ∀ rv w, PC rv w → ∃ x : Int32, rv = some (.int x)) (hx : ∀ X w, PX X w → X = xIAE) (E : gEm k (wL (kD k) o g ++ w0) (PH (kD k) o g csL_fewest PC PX) 2 12 (some .int) (tableOf hhL_fewest)) : gG k (wL (kD k) o g ++ w0) [(0, .ref rG), (1, .int p1), (2, .int p2), (3, .ref o)] 0 0 0 [] := by
  refine g_aload_n (pc := 0) (x := o) C dL_fewest_0 rfl ?_
  refine g_iconst (pc := 1) (v := 0) C dL_fewest_1 (by decide) ?_
  refine g_aload_n (pc := 2) (x := rG) C dL_fewest_2 rfl ?_
  refine g_iload_n (pc := 3) (x := p1) C dL_fewest_3 rfl ?_
  refine g_iload_n (pc := 4) (x := p2) C dL_fewest_4 rfl ?_
  refine g_callG (pc := 5) (wc := w0) (wr := wL (kD k) o g) (rest := [.int 0, .ref o]) C (gr_V (y := yX4_fewest) (As := [.int p1, .int p2]) C hM (fun ht => cwV 2 ht gL_fewest_X4_fewest rfl rfl rfl hdX4_fewest ⟨(Nat.le_of_ble_eq_true rfl), (Nat.le_of_ble_eq_true rfl)⟩) 1 (by rw [hw]; rfl) rfl _ (rg_map2 (wL (kD k) o g) w0) (rg_nd2 _ _) rfl rfl (Nat.le_of_ble_eq_true rfl) dL_fewest_5 ⟨(Nat.le_of_ble_eq_true rfl), (Nat.le_of_ble_eq_true rfl)⟩) _ [0] (rg_map2 (wL (kD k) o g) w0) rfl (by decide) (fun i hi => by
    rw [List.mem_singleton.mp hi]
    intro q
    obtain ⟨j, -, e⟩ := List.mem_map.mp q
    exact absurd e (Nat.succ_ne_zero j)) (fun X w1 hp => ?_) (fun rv w1 hp => ?_)
  · obtain rfl := hx X w1 hp
    refine g_catch (pc := 5) C E.2.1 [] ⟨0, 10, 13, 13⟩ [] rfl (fun z hz => absurd hz List.not_mem_nil) (by decide) (by decide) ckL_fewest_13 (by decide +kernel) (fun q => ?_)
    refine g_astore (pc := 13) (lv' := [(4, .ref q), (0, .ref rG), (1, .int p1), (2, .int p2), (3, .ref o)]) C dL_fewest_13 (by decide) rfl ?_
    refine g_iconst (pc := 15) (v := 1) C dL_fewest_15 (by decide) ?_
    exact g_iretm C E dL_fewest_16 (Nat.le_of_eq (Nat.zero_add _)) (Nat.le_of_eq (Nat.zero_add _)) (.inr ⟨_, w1, 1, hp, by decide, rfl, rfl⟩)
  · obtain ⟨x, rfl⟩ := hc rv w1 hp
    refine g_stack (st' := [.int x, .int 0, .ref o]) rfl ?_
    refine g_i2l (pc := 8) C dL_fewest_8 ?_
    refine g_last (pc := 9) (X := some ()) (r := ()) (i := 0) (n := 1) rfl C 0 rfl dL_fewest_9 (ws' := wL (kD k) o (vp_updL g (Int32.toNatClampNeg 0) x.toInt64) ++ w1) rfl (fun _ => ?_)
    refine g_goto (pc := 10) (tgt := 17) C dL_fewest_10 (by decide) ?_
    refine g_iconst (pc := 17) (v := 0) C dL_fewest_17 (by decide) ?_
    exact g_iretm C E dL_fewest_18 (Nat.le_of_eq (Nat.zero_add _)) (Nat.le_of_eq (Nat.zero_add _)) (.inl ⟨x, w1, hp, rfl, rfl⟩)
set_option maxRecDepth 100000 in
set_option maxHeartbeats 4000000 in
theorem cL_fewest_ (l : Launch) (htr : l.stackTraces = false) (D : va_G) (rG o : Nat) (g : Nat → Int64) (p1 : Int32) (p2 : Int32) (fs : List Value) (wt w0 : va_W) (hw : w0 = (rG, .inr (3, fs)) :: wt) (PC : Option Value → va_W → Prop) (PX : String → va_W → Prop) (hM : Tc l D yX4_fewest wsX4_fewest rmX4_fewest [.ref rG, .int p1, .int p2] w0 PC PX 2 12) (hc : ∀ rv w, PC rv w → ∃ x : Int32, rv = some (.int x)) (hx : ∀ X w, PX X w → X = xIAE) : Tm l D yL_fewest wsL_fewest rmL_fewest [.ref rG, .int p1, .int p2, .ref o] (wL D o g ++ w0) (PH D o g csL_fewest PC PX) 2 12 := Tm_of htr (by decide +kernel) rfl (Nat.le_of_ble_eq_true rfl) (fun k C E hl hD => by subst hl; subst hD; exact wkL_fewest C rG o g p1 p2 fs wt w0 hw PC PX hM hc hx E)
abbrev rmL_oldWay : Room := { frames := 9, cells := 2, slots := 12, locals := 156 }
abbrev hhL_oldWay : List (Nat × Nat × Nat × Nat) := [(0, 10, 13, 13)]
abbrev csL_oldWay : List (String × Int32) := [(xIAE, 1)]
theorem ckL_oldWay_13 : Cond.classLink RL 13 xIAE ∈ wsL_oldWay := by decide +kernel
theorem hsL_oldWay : yL_oldWay.cls ≠ "java/lang/invoke/MethodHandle" ∧ yL_oldWay.cls ≠ "java/lang/invoke/VarHandle" ∧ (parseMethodDescriptor yL_oldWay.desc).map (fun d => d.parameters.length) = some 4 := by decide +kernel
set_option maxRecDepth 100000 in
set_option maxHeartbeats 4000000 in
theorem wkL_oldWay {k : Kt} (C : gC k cL_oldWay 5 RL wsL_oldWay rmL_oldWay "oldWay") (rG o : Nat) (g : Nat → Int64) (p1 : Int32) (p2 : Int32) (fs : List Value) (wt w0 : va_W) (hw : w0 = (rG, .inr (3, fs)) :: wt) (PC : Option Value → va_W → Prop) (PX : String → va_W → Prop) (hM : Tc (kL k) (kD k) yX4_oldWay wsX4_oldWay rmX4_oldWay [.ref rG, .int p1, .int p2] w0 PC PX 2 12) (hc : ∀ rv w, PC rv w → ∃ x : Int32, rv = some (.int x)) (hx : ∀ X w, PX X w → X = xIAE) (E : gEm k (wL (kD k) o g ++ w0) (PH (kD k) o g csL_oldWay PC PX) 2 12 (some .int) (tableOf hhL_oldWay)) : gG k (wL (kD k) o g ++ w0) [(0, .ref rG), (1, .int p1), (2, .int p2), (3, .ref o)] 0 0 0 [] := by
  refine g_aload_n (pc := 0) (x := o) C dL_oldWay_0 rfl ?_
  refine g_iconst (pc := 1) (v := 0) C dL_oldWay_1 (by decide) ?_
  refine g_aload_n (pc := 2) (x := rG) C dL_oldWay_2 rfl ?_
  refine g_iload_n (pc := 3) (x := p1) C dL_oldWay_3 rfl ?_
  refine g_iload_n (pc := 4) (x := p2) C dL_oldWay_4 rfl ?_
  refine g_callG (pc := 5) (wc := w0) (wr := wL (kD k) o g) (rest := [.int 0, .ref o]) C (gr_V (y := yX4_oldWay) (As := [.int p1, .int p2]) C hM (fun ht => cwV 2 ht gL_oldWay_X4_oldWay rfl rfl rfl hdX4_oldWay ⟨(Nat.le_of_ble_eq_true rfl), (Nat.le_of_ble_eq_true rfl)⟩) 1 (by rw [hw]; rfl) rfl _ (rg_map2 (wL (kD k) o g) w0) (rg_nd2 _ _) rfl rfl (Nat.le_of_ble_eq_true rfl) dL_oldWay_5 ⟨(Nat.le_of_ble_eq_true rfl), (Nat.le_of_ble_eq_true rfl)⟩) _ [0] (rg_map2 (wL (kD k) o g) w0) rfl (by decide) (fun i hi => by
    rw [List.mem_singleton.mp hi]
    intro q
    obtain ⟨j, -, e⟩ := List.mem_map.mp q
    exact absurd e (Nat.succ_ne_zero j)) (fun X w1 hp => ?_) (fun rv w1 hp => ?_)
  · obtain rfl := hx X w1 hp
    refine g_catch (pc := 5) C E.2.1 [] ⟨0, 10, 13, 13⟩ [] rfl (fun z hz => absurd hz List.not_mem_nil) (by decide) (by decide) ckL_oldWay_13 (by decide +kernel) (fun q => ?_)
    refine g_astore (pc := 13) (lv' := [(4, .ref q), (0, .ref rG), (1, .int p1), (2, .int p2), (3, .ref o)]) C dL_oldWay_13 (by decide) rfl ?_
    refine g_iconst (pc := 15) (v := 1) C dL_oldWay_15 (by decide) ?_
    exact g_iretm C E dL_oldWay_16 (Nat.le_of_eq (Nat.zero_add _)) (Nat.le_of_eq (Nat.zero_add _)) (.inr ⟨_, w1, 1, hp, by decide, rfl, rfl⟩)
  · obtain ⟨x, rfl⟩ := hc rv w1 hp
    refine g_stack (st' := [.int x, .int 0, .ref o]) rfl ?_
    refine g_i2l (pc := 8) C dL_oldWay_8 ?_
    refine g_last (pc := 9) (X := some ()) (r := ()) (i := 0) (n := 1) rfl C 0 rfl dL_oldWay_9 (ws' := wL (kD k) o (vp_updL g (Int32.toNatClampNeg 0) x.toInt64) ++ w1) rfl (fun _ => ?_)
    refine g_goto (pc := 10) (tgt := 17) C dL_oldWay_10 (by decide) ?_
    refine g_iconst (pc := 17) (v := 0) C dL_oldWay_17 (by decide) ?_
    exact g_iretm C E dL_oldWay_18 (Nat.le_of_eq (Nat.zero_add _)) (Nat.le_of_eq (Nat.zero_add _)) (.inl ⟨x, w1, hp, rfl, rfl⟩)
set_option maxRecDepth 100000 in
set_option maxHeartbeats 4000000 in
theorem cL_oldWay_ (l : Launch) (htr : l.stackTraces = false) (D : va_G) (rG o : Nat) (g : Nat → Int64) (p1 : Int32) (p2 : Int32) (fs : List Value) (wt w0 : va_W) (hw : w0 = (rG, .inr (3, fs)) :: wt) (PC : Option Value → va_W → Prop) (PX : String → va_W → Prop) (hM : Tc l D yX4_oldWay wsX4_oldWay rmX4_oldWay [.ref rG, .int p1, .int p2] w0 PC PX 2 12) (hc : ∀ rv w, PC rv w → ∃ x : Int32, rv = some (.int x)) (hx : ∀ X w, PX X w → X = xIAE) : Tm l D yL_oldWay wsL_oldWay rmL_oldWay [.ref rG, .int p1, .int p2, .ref o] (wL D o g ++ w0) (PH D o g csL_oldWay PC PX) 2 12 := Tm_of htr (by decide +kernel) rfl (Nat.le_of_ble_eq_true rfl) (fun k C E hl hD => by subst hl; subst hD; exact wkL_oldWay C rG o g p1 p2 fs wt w0 hw PC PX hM hc hx E)
abbrev rmL_nearest : Room := { frames := 9, cells := 1, slots := 6, locals := 155 }
abbrev hhL_nearest : List (Nat × Nat × Nat × Nat) := [(0, 9, 12, 13)]
abbrev csL_nearest : List (String × Int32) := [(xIAE, 1)]
theorem ckL_nearest_13 : Cond.classLink RL 13 xIAE ∈ wsL_nearest := by decide +kernel
theorem hsL_nearest : yL_nearest.cls ≠ "java/lang/invoke/MethodHandle" ∧ yL_nearest.cls ≠ "java/lang/invoke/VarHandle" ∧ (parseMethodDescriptor yL_nearest.desc).map (fun d => d.parameters.length) = some 3 := by decide +kernel
set_option maxRecDepth 100000 in
set_option maxHeartbeats 4000000 in
theorem wkL_nearest {k : Kt} (C : gC k cL_nearest 4 RL wsL_nearest rmL_nearest "nearest") (rG o : Nat) (g : Nat → Int64) (p1 : Int32) (fs : List Value) (wt w0 : va_W) (hw : w0 = (rG, .inr (3, fs)) :: wt) (PC : Option Value → va_W → Prop) (PX : String → va_W → Prop) (hM : Tc (kL k) (kD k) yX4_nearest wsX4_nearest rmX4_nearest [.ref rG, .int p1] w0 PC PX 1 6) (hc : ∀ rv w, PC rv w → ∃ x : Int32, rv = some (.int x)) (hx : ∀ X w, PX X w → X = xIAE) (E : gEm k (wL (kD k) o g ++ w0) (PH (kD k) o g csL_nearest PC PX) 1 6 (some .int) (tableOf hhL_nearest)) : gG k (wL (kD k) o g ++ w0) [(0, .ref rG), (1, .int p1), (2, .ref o)] 0 0 0 [] := by
  refine g_aload_n (pc := 0) (x := o) C dL_nearest_0 rfl ?_
  refine g_iconst (pc := 1) (v := 0) C dL_nearest_1 (by decide) ?_
  refine g_aload_n (pc := 2) (x := rG) C dL_nearest_2 rfl ?_
  refine g_iload_n (pc := 3) (x := p1) C dL_nearest_3 rfl ?_
  refine g_callG (pc := 4) (wc := w0) (wr := wL (kD k) o g) (rest := [.int 0, .ref o]) C (gr_V (y := yX4_nearest) (As := [.int p1]) C hM (fun ht => cwV 1 ht gL_nearest_X4_nearest rfl rfl rfl hdX4_nearest ⟨(Nat.le_of_ble_eq_true rfl), (Nat.le_of_ble_eq_true rfl)⟩) 1 (by rw [hw]; rfl) rfl _ (rg_map2 (wL (kD k) o g) w0) (rg_nd2 _ _) rfl rfl (Nat.le_of_ble_eq_true rfl) dL_nearest_4 ⟨(Nat.le_of_ble_eq_true rfl), (Nat.le_of_ble_eq_true rfl)⟩) _ [0] (rg_map2 (wL (kD k) o g) w0) rfl (by decide) (fun i hi => by
    rw [List.mem_singleton.mp hi]
    intro q
    obtain ⟨j, -, e⟩ := List.mem_map.mp q
    exact absurd e (Nat.succ_ne_zero j)) (fun X w1 hp => ?_) (fun rv w1 hp => ?_)
  · obtain rfl := hx X w1 hp
    refine g_catch (pc := 4) C E.2.1 [] ⟨0, 9, 12, 13⟩ [] rfl (fun z hz => absurd hz List.not_mem_nil) (by decide) (by decide) ckL_nearest_13 (by decide +kernel) (fun q => ?_)
    refine g_astore_n (pc := 12) (lv' := [(3, .ref q), (0, .ref rG), (1, .int p1), (2, .ref o)]) C dL_nearest_12 (by decide) rfl ?_
    refine g_iconst (pc := 13) (v := 1) C dL_nearest_13 (by decide) ?_
    exact g_iretm C E dL_nearest_14 (Nat.le_of_eq (Nat.zero_add _)) (Nat.le_of_eq (Nat.zero_add _)) (.inr ⟨_, w1, 1, hp, by decide, rfl, rfl⟩)
  · obtain ⟨x, rfl⟩ := hc rv w1 hp
    refine g_stack (st' := [.int x, .int 0, .ref o]) rfl ?_
    refine g_i2l (pc := 7) C dL_nearest_7 ?_
    refine g_last (pc := 8) (X := some ()) (r := ()) (i := 0) (n := 1) rfl C 0 rfl dL_nearest_8 (ws' := wL (kD k) o (vp_updL g (Int32.toNatClampNeg 0) x.toInt64) ++ w1) rfl (fun _ => ?_)
    refine g_goto (pc := 9) (tgt := 15) C dL_nearest_9 (by decide) ?_
    refine g_iconst (pc := 15) (v := 0) C dL_nearest_15 (by decide) ?_
    exact g_iretm C E dL_nearest_16 (Nat.le_of_eq (Nat.zero_add _)) (Nat.le_of_eq (Nat.zero_add _)) (.inl ⟨x, w1, hp, rfl, rfl⟩)
set_option maxRecDepth 100000 in
set_option maxHeartbeats 4000000 in
theorem cL_nearest_ (l : Launch) (htr : l.stackTraces = false) (D : va_G) (rG o : Nat) (g : Nat → Int64) (p1 : Int32) (fs : List Value) (wt w0 : va_W) (hw : w0 = (rG, .inr (3, fs)) :: wt) (PC : Option Value → va_W → Prop) (PX : String → va_W → Prop) (hM : Tc l D yX4_nearest wsX4_nearest rmX4_nearest [.ref rG, .int p1] w0 PC PX 1 6) (hc : ∀ rv w, PC rv w → ∃ x : Int32, rv = some (.int x)) (hx : ∀ X w, PX X w → X = xIAE) : Tm l D yL_nearest wsL_nearest rmL_nearest [.ref rG, .int p1, .ref o] (wL D o g ++ w0) (PH D o g csL_nearest PC PX) 1 6 := Tm_of htr (by decide +kernel) rfl (Nat.le_of_ble_eq_true rfl) (fun k C E hl hD => by subst hl; subst hD; exact wkL_nearest C rG o g p1 fs wt w0 hw PC PX hM hc hx E)
abbrev rmL_coolIn : Room := { frames := 8, cells := 1, slots := 6, locals := 134 }
abbrev hhL_coolIn : List (Nat × Nat × Nat × Nat) := [(0, 9, 12, 21)]
abbrev csL_coolIn : List (String × Int32) := [(xIOB, 1)]
theorem ckL_coolIn_21 : Cond.classLink RL 21 xIOB ∈ wsL_coolIn := by decide +kernel
theorem hsL_coolIn : yL_coolIn.cls ≠ "java/lang/invoke/MethodHandle" ∧ yL_coolIn.cls ≠ "java/lang/invoke/VarHandle" ∧ (parseMethodDescriptor yL_coolIn.desc).map (fun d => d.parameters.length) = some 3 := by decide +kernel
set_option maxRecDepth 100000 in
set_option maxHeartbeats 4000000 in
theorem wkL_coolIn {k : Kt} (C : gC k cL_coolIn 4 RL wsL_coolIn rmL_coolIn "coolIn") (rG o : Nat) (g : Nat → Int64) (p1 : Int32) (fs : List Value) (wt w0 : va_W) (hw : w0 = (rG, .inr (3, fs)) :: wt) (PC : Option Value → va_W → Prop) (PX : String → va_W → Prop) (hM : Tc (kL k) (kD k) yX4_coolIn wsX4_coolIn rmX4_coolIn [.ref rG, .int p1] w0 PC PX 1 6) (hc : ∀ rv w, PC rv w → ∃ x : Int32, rv = some (.int x)) (hx : ∀ X w, PX X w → X = xIOB) (E : gEm k (wL (kD k) o g ++ w0) (PH (kD k) o g csL_coolIn PC PX) 1 6 (some .int) (tableOf hhL_coolIn)) : gG k (wL (kD k) o g ++ w0) [(0, .ref rG), (1, .int p1), (2, .ref o)] 0 0 0 [] := by
  refine g_aload_n (pc := 0) (x := o) C dL_coolIn_0 rfl ?_
  refine g_iconst (pc := 1) (v := 0) C dL_coolIn_1 (by decide) ?_
  refine g_aload_n (pc := 2) (x := rG) C dL_coolIn_2 rfl ?_
  refine g_iload_n (pc := 3) (x := p1) C dL_coolIn_3 rfl ?_
  refine g_callG (pc := 4) (wc := w0) (wr := wL (kD k) o g) (rest := [.int 0, .ref o]) C (gr_V (y := yX4_coolIn) (As := [.int p1]) C hM (fun ht => cwV 1 ht gL_coolIn_X4_coolIn rfl rfl rfl hdX4_coolIn ⟨(Nat.le_of_ble_eq_true rfl), (Nat.le_of_ble_eq_true rfl)⟩) 1 (by rw [hw]; rfl) rfl _ (rg_map2 (wL (kD k) o g) w0) (rg_nd2 _ _) rfl rfl (Nat.le_of_ble_eq_true rfl) dL_coolIn_4 ⟨(Nat.le_of_ble_eq_true rfl), (Nat.le_of_ble_eq_true rfl)⟩) _ [0] (rg_map2 (wL (kD k) o g) w0) rfl (by decide) (fun i hi => by
    rw [List.mem_singleton.mp hi]
    intro q
    obtain ⟨j, -, e⟩ := List.mem_map.mp q
    exact absurd e (Nat.succ_ne_zero j)) (fun X w1 hp => ?_) (fun rv w1 hp => ?_)
  · obtain rfl := hx X w1 hp
    refine g_catch (pc := 4) C E.2.1 [] ⟨0, 9, 12, 21⟩ [] rfl (fun z hz => absurd hz List.not_mem_nil) (by decide) (by decide) ckL_coolIn_21 (by decide +kernel) (fun q => ?_)
    refine g_astore_n (pc := 12) (lv' := [(3, .ref q), (0, .ref rG), (1, .int p1), (2, .ref o)]) C dL_coolIn_12 (by decide) rfl ?_
    refine g_iconst (pc := 13) (v := 1) C dL_coolIn_13 (by decide) ?_
    exact g_iretm C E dL_coolIn_14 (Nat.le_of_eq (Nat.zero_add _)) (Nat.le_of_eq (Nat.zero_add _)) (.inr ⟨_, w1, 1, hp, by decide, rfl, rfl⟩)
  · obtain ⟨x, rfl⟩ := hc rv w1 hp
    refine g_stack (st' := [.int x, .int 0, .ref o]) rfl ?_
    refine g_i2l (pc := 7) C dL_coolIn_7 ?_
    refine g_last (pc := 8) (X := some ()) (r := ()) (i := 0) (n := 1) rfl C 0 rfl dL_coolIn_8 (ws' := wL (kD k) o (vp_updL g (Int32.toNatClampNeg 0) x.toInt64) ++ w1) rfl (fun _ => ?_)
    refine g_goto (pc := 9) (tgt := 15) C dL_coolIn_9 (by decide) ?_
    refine g_iconst (pc := 15) (v := 0) C dL_coolIn_15 (by decide) ?_
    exact g_iretm C E dL_coolIn_16 (Nat.le_of_eq (Nat.zero_add _)) (Nat.le_of_eq (Nat.zero_add _)) (.inl ⟨x, w1, hp, rfl, rfl⟩)
set_option maxRecDepth 100000 in
set_option maxHeartbeats 4000000 in
theorem cL_coolIn_ (l : Launch) (htr : l.stackTraces = false) (D : va_G) (rG o : Nat) (g : Nat → Int64) (p1 : Int32) (fs : List Value) (wt w0 : va_W) (hw : w0 = (rG, .inr (3, fs)) :: wt) (PC : Option Value → va_W → Prop) (PX : String → va_W → Prop) (hM : Tc l D yX4_coolIn wsX4_coolIn rmX4_coolIn [.ref rG, .int p1] w0 PC PX 1 6) (hc : ∀ rv w, PC rv w → ∃ x : Int32, rv = some (.int x)) (hx : ∀ X w, PX X w → X = xIOB) : Tm l D yL_coolIn wsL_coolIn rmL_coolIn [.ref rG, .int p1, .ref o] (wL D o g ++ w0) (PH D o g csL_coolIn PC PX) 1 6 := Tm_of htr (by decide +kernel) rfl (Nat.le_of_ble_eq_true rfl) (fun k C E hl hD => by subst hl; subst hD; exact wkL_coolIn C rG o g p1 fs wt w0 hw PC PX hM hc hx E)
abbrev rmL_lengthIn : Room := { frames := 8, cells := 2, slots := 12, locals := 136 }
abbrev hhL_lengthIn : List (Nat × Nat × Nat × Nat) := [(0, 10, 13, 21), (0, 10, 17, 13)]
abbrev csL_lengthIn : List (String × Int32) := [(xIOB, 1), (xIAE, 2)]
theorem ckL_lengthIn_21 : Cond.classLink RL 21 xIOB ∈ wsL_lengthIn := by decide +kernel
theorem ckL_lengthIn_13 : Cond.classLink RL 13 xIAE ∈ wsL_lengthIn := by decide +kernel
theorem hsL_lengthIn : yL_lengthIn.cls ≠ "java/lang/invoke/MethodHandle" ∧ yL_lengthIn.cls ≠ "java/lang/invoke/VarHandle" ∧ (parseMethodDescriptor yL_lengthIn.desc).map (fun d => d.parameters.length) = some 4 := by decide +kernel
set_option maxRecDepth 100000 in
set_option maxHeartbeats 4000000 in
theorem wkL_lengthIn {k : Kt} (C : gC k cL_lengthIn 5 RL wsL_lengthIn rmL_lengthIn "lengthIn") (rG o : Nat) (g : Nat → Int64) (p1 : Int32) (p2 : Int32) (fs : List Value) (wt w0 : va_W) (hw : w0 = (rG, .inr (3, fs)) :: wt) (PC : Option Value → va_W → Prop) (PX : String → va_W → Prop) (hM : Tc (kL k) (kD k) yX4_lengthIn wsX4_lengthIn rmX4_lengthIn [.ref rG, .int p1, .int p2] w0 PC PX 2 12) (hc : ∀ rv w, PC rv w → ∃ x : Int32, rv = some (.int x)) (hx : ∀ X w, PX X w → X = xIOB ∨ X = xIAE) (E : gEm k (wL (kD k) o g ++ w0) (PH (kD k) o g csL_lengthIn PC PX) 2 12 (some .int) (tableOf hhL_lengthIn)) : gG k (wL (kD k) o g ++ w0) [(0, .ref rG), (1, .int p1), (2, .int p2), (3, .ref o)] 0 0 0 [] := by
  refine g_aload_n (pc := 0) (x := o) C dL_lengthIn_0 rfl ?_
  refine g_iconst (pc := 1) (v := 0) C dL_lengthIn_1 (by decide) ?_
  refine g_aload_n (pc := 2) (x := rG) C dL_lengthIn_2 rfl ?_
  refine g_iload_n (pc := 3) (x := p1) C dL_lengthIn_3 rfl ?_
  refine g_iload_n (pc := 4) (x := p2) C dL_lengthIn_4 rfl ?_
  refine g_callG (pc := 5) (wc := w0) (wr := wL (kD k) o g) (rest := [.int 0, .ref o]) C (gr_V (y := yX4_lengthIn) (As := [.int p1, .int p2]) C hM (fun ht => cwV 2 ht gL_lengthIn_X4_lengthIn rfl rfl rfl hdX4_lengthIn ⟨(Nat.le_of_ble_eq_true rfl), (Nat.le_of_ble_eq_true rfl)⟩) 1 (by rw [hw]; rfl) rfl _ (rg_map2 (wL (kD k) o g) w0) (rg_nd2 _ _) rfl rfl (Nat.le_of_ble_eq_true rfl) dL_lengthIn_5 ⟨(Nat.le_of_ble_eq_true rfl), (Nat.le_of_ble_eq_true rfl)⟩) _ [0] (rg_map2 (wL (kD k) o g) w0) rfl (by decide) (fun i hi => by
    rw [List.mem_singleton.mp hi]
    intro q
    obtain ⟨j, -, e⟩ := List.mem_map.mp q
    exact absurd e (Nat.succ_ne_zero j)) (fun X w1 hp => ?_) (fun rv w1 hp => ?_)
  · rcases hx X w1 hp with rfl | rfl
    · refine g_catch (pc := 5) C E.2.1 [] ⟨0, 10, 13, 21⟩ [⟨0, 10, 17, 13⟩] rfl (fun z hz => absurd hz List.not_mem_nil) (by decide) (by decide) ckL_lengthIn_21 (by decide +kernel) (fun q => ?_)
      refine g_astore (pc := 13) (lv' := [(4, .ref q), (0, .ref rG), (1, .int p1), (2, .int p2), (3, .ref o)]) C dL_lengthIn_13 (by decide) rfl ?_
      refine g_iconst (pc := 15) (v := 1) C dL_lengthIn_15 (by decide) ?_
      exact g_iretm C E dL_lengthIn_16 (Nat.le_of_eq (Nat.zero_add _)) (Nat.le_of_eq (Nat.zero_add _)) (.inr ⟨_, w1, 1, hp, by decide, rfl, rfl⟩)
    · refine g_catch (pc := 5) C E.2.1 [⟨0, 10, 13, 21⟩] ⟨0, 10, 17, 13⟩ [] rfl (fun z hz => by
          rw [List.mem_singleton.mp hz]
          exact ⟨xIOB, by decide, ckL_lengthIn_21, by decide +kernel⟩) (by decide) (by decide) ckL_lengthIn_13 (by decide +kernel) (fun q => ?_)
      refine g_astore (pc := 17) (lv' := [(4, .ref q), (0, .ref rG), (1, .int p1), (2, .int p2), (3, .ref o)]) C dL_lengthIn_17 (by decide) rfl ?_
      refine g_iconst (pc := 19) (v := 2) C dL_lengthIn_19 (by decide) ?_
      exact g_iretm C E dL_lengthIn_20 (Nat.le_of_eq (Nat.zero_add _)) (Nat.le_of_eq (Nat.zero_add _)) (.inr ⟨_, w1, 2, hp, by decide, rfl, rfl⟩)
  · obtain ⟨x, rfl⟩ := hc rv w1 hp
    refine g_stack (st' := [.int x, .int 0, .ref o]) rfl ?_
    refine g_i2l (pc := 8) C dL_lengthIn_8 ?_
    refine g_last (pc := 9) (X := some ()) (r := ()) (i := 0) (n := 1) rfl C 0 rfl dL_lengthIn_9 (ws' := wL (kD k) o (vp_updL g (Int32.toNatClampNeg 0) x.toInt64) ++ w1) rfl (fun _ => ?_)
    refine g_goto (pc := 10) (tgt := 21) C dL_lengthIn_10 (by decide) ?_
    refine g_iconst (pc := 21) (v := 0) C dL_lengthIn_21 (by decide) ?_
    exact g_iretm C E dL_lengthIn_22 (Nat.le_of_eq (Nat.zero_add _)) (Nat.le_of_eq (Nat.zero_add _)) (.inl ⟨x, w1, hp, rfl, rfl⟩)
set_option maxRecDepth 100000 in
set_option maxHeartbeats 4000000 in
theorem cL_lengthIn_ (l : Launch) (htr : l.stackTraces = false) (D : va_G) (rG o : Nat) (g : Nat → Int64) (p1 : Int32) (p2 : Int32) (fs : List Value) (wt w0 : va_W) (hw : w0 = (rG, .inr (3, fs)) :: wt) (PC : Option Value → va_W → Prop) (PX : String → va_W → Prop) (hM : Tc l D yX4_lengthIn wsX4_lengthIn rmX4_lengthIn [.ref rG, .int p1, .int p2] w0 PC PX 2 12) (hc : ∀ rv w, PC rv w → ∃ x : Int32, rv = some (.int x)) (hx : ∀ X w, PX X w → X = xIOB ∨ X = xIAE) : Tm l D yL_lengthIn wsL_lengthIn rmL_lengthIn [.ref rG, .int p1, .int p2, .ref o] (wL D o g ++ w0) (PH D o g csL_lengthIn PC PX) 2 12 := Tm_of htr (by decide +kernel) rfl (Nat.le_of_ble_eq_true rfl) (fun k C E hl hD => by subst hl; subst hD; exact wkL_lengthIn C rG o g p1 p2 fs wt w0 hw PC PX hM hc hx E)
