/-! what every method is handed beside its cells: the statics and texts of the tables, where they lie and what they hold -/
def tysD (D : va_G) : List (ClassId × FieldType) := [(D.1 100, .int), (D.1 103, .object "GaugeBlocks$State")]
abbrev gXn : List String := ["java/lang/RuntimeException", "java/lang/Exception"]
abbrev xIAE : String := "java/lang/IllegalArgumentException"
abbrev xISE : String := "java/lang/IllegalStateException"
abbrev xIOB : String := "java/lang/IndexOutOfBoundsException"
/-- the exceptions by number -/
def xnm : Nat → String := fun e => match e with
  | 1 => xIAE
  | 2 => xISE
  | _ => xIOB
def gStr : List (Nat × String) := []
def gWd : List Cond := [.castable "[I" "java/lang/Cloneable", .fieldLinkNest RX3 33 "GaugeBlocks" "SETTINGS_AT_FIRST" "[I" "GaugeBlocks", .methodLinkNest RX4 11 yX3_init "GaugeBlocks", .methodLinkNest RX4 29 yX1_init "GaugeBlocks", .methodLinkNest RX2 17 yX3_init "GaugeBlocks"]
def gWk : Cond → Bool
  | .declares _ => true
  | .castable _ _ => true
  | .fieldLinkNest _ _ _ _ _ _ => true
  | .methodLinkNest _ _ _ _ => true
  | _ => false
theorem gWd_k : ∀ w ∈ gWd, gWk w = true := by decide +kernel
def gNc : List (String × String) := []
def stA : Nat → Int32 := fun k => match k with
  | 0 => 10
  | 1 => 300
  | 2 => 3
  | _ => 40
def stM : Nat → Int32 := fun k => match k with
  | 0 => 60
  | 1 => 1000
  | 2 => 20
  | _ => 200
def gTab (n : String) (f : Nat → Int32) (A : Nat → Prop) (U : State) (H : Heap) : Prop := ∃ t : Nat, va_Z RX4 n "[I" (.ref t) A U H ∧ va_T .int t 4 (fun k => .int (f k)) A U H
theorem gTab.moved {n : String} {f : Nat → Int32} {A : Nat → Prop} {u U : State} {H : Heap} (hvm : u.vm.Alike U.vm) (h : gTab n f A u H) : gTab n f A U H := by
  obtain ⟨t, h1, h2⟩ := h
  exact ⟨t, va_Z.moved hvm h1, va_T.moved hvm h2⟩
theorem gTab.kept {n : String} {f : Nat → Int32} {A : Nat → Prop} {U : State} {H H1 : Heap} (h : gTab n f A U H) (hq : ∀ a : Nat, a < H.size → ¬ A a → H1[a]? = H[a]?) : gTab n f A U H1 := by
  obtain ⟨t, h1, h2⟩ := h
  exact ⟨t, h1.kept hq, h2.kept hq⟩
theorem gTab.narrow {n : String} {f : Nat → Int32} {A B : Nat → Prop} {U : State} {H : Heap} (h : gTab n f A U H) (hAB : ∀ q, B q → A q) : gTab n f B U H := by
  obtain ⟨t, h1, h2⟩ := h
  exact ⟨t, h1.narrow hAB, h2.narrow hAB⟩
/-- the settings at first: the array whole, to be cloned -/
def gTabX (A : Nat → Prop) (U : State) (H : Heap) : Prop := ∃ (t : Nat) (cell : Cell), va_Z RX4 "SETTINGS_AT_FIRST" "[I" (.ref t) A U H ∧ H[t]? = some cell ∧ ¬ A t ∧ cell.slots.size = 4 ∧ (∀ j : Nat, j < 4 → cell.slots[j]? = some (.int (stA j))) ∧ U.vm.findClass "[I" = some cell.cls ∧ cell.vm.isStatics = false ∧ cell.vm ≠ .unknown ∧ va_AO "GaugeBlocks$State" U
theorem gTabX.moved {A : Nat → Prop} {u U : State} {H : Heap} (hvm : u.vm.Alike U.vm) (h : gTabX A u H) : gTabX A U H := by
  obtain ⟨t, cell, h1, h2, h3, h4, h5, h6, h7, h8, h9⟩ := h
  exact ⟨t, cell, va_Z.moved hvm h1, h2, h3, h4, h5, by rw [hvm.findClass]; exact h6, h7, h8, h9.moved hvm⟩
theorem gTabX.kept {A : Nat → Prop} {U : State} {H H1 : Heap} (h : gTabX A U H) (hq : ∀ a : Nat, a < H.size → ¬ A a → H1[a]? = H[a]?) : gTabX A U H1 := by
  obtain ⟨t, cell, h1, h2, h3, h4⟩ := h
  exact ⟨t, cell, h1.kept hq, (hq t (Array.getElem?_eq_some_iff.mp h2).1 h3).trans h2, h3, h4⟩
theorem gTabX.narrow {A B : Nat → Prop} {U : State} {H : Heap} (h : gTabX A U H) (hAB : ∀ q, B q → A q) : gTabX B U H := by
  obtain ⟨t, cell, h1, h2, h3, h4⟩ := h
  exact ⟨t, cell, h1.narrow hAB, h2, fun q => h3 (hAB t q), h4⟩
def gAmb (A : Nat → Prop) (U : State) (H : Heap) : Prop :=
  vx_Zq Bundle.tN "UNASSIGNED_STACK" Bundle.steD A U H ∧ vx_Zq Bundle.tN "SUPPRESSED_SENTINEL" Bundle.listD A U H ∧ gTabX A U H ∧ gTab "SETTINGS_MAX" stM A U H ∧
  (∀ q ∈ gStr, ∃ a : Nat, vk_R RX4 q.1 q.2 a U) ∧ (∀ w ∈ gWd, va_Nw w U) ∧ ∀ q ∈ gNc, va_Nc q.1 q.2 U
theorem gWd_warm {w : Cond} (hk : gWk w = true) {s U : State} (hW : s.WarmedH U.vm) (h : va_Nw w s) : va_Nw w U := by
  cases w with
  | declares x => exact va_Nw.warmD hW h
  | castable a b => exact va_Nw.warmC hW h
  | fieldLinkNest a b c d e f => exact va_Nw.warmF hW h
  | methodLinkNest a b c d => exact va_Nw.warmM hW h
  | _ => cases hk
theorem gAmb.warm {A : Nat → Prop} {u U : State} {H : Heap} (hW : u.WarmedH U.vm) (h : gAmb A u H) : gAmb A U H := by
  obtain ⟨h1, h2, h3, h4, h5, h6, h7⟩ := h
  exact ⟨h1.moved hW.alike, h2.moved hW.alike, h3.moved hW.alike, h4.moved hW.alike, fun q hq => (h5 q hq).elim (fun a ha => ⟨a, vk_R.warm hW ha⟩), fun w hw => gWd_warm (gWd_k w hw) hW (h6 w hw), fun q hq => (h7 q hq).moved hW.alike⟩
theorem gWd_same {w : Cond} (hk : gWk w = true) {s U : State} (hW : s.vm = U.vm) (h : va_Nw w s) : va_Nw w U := by
  cases w with
  | declares x => exact va_Nw.same rfl hW h
  | castable a b => exact va_Nw.same rfl hW h
  | fieldLinkNest a b c d e f => exact va_Nw.same rfl hW h
  | methodLinkNest a b c d => exact va_Nw.same rfl hW h
  | _ => cases hk
theorem gAmb.same {A : Nat → Prop} {u U : State} {H : Heap} (hv : U.vm = u.vm) (h : gAmb A u H) : gAmb A U H := by
  obtain ⟨h1, h2, h3, h4, h5, h6, h7⟩ := h
  have hA : u.vm.Alike U.vm := by rw [hv]; exact Vm.Alike.refl u.vm
  exact ⟨h1.moved hA, h2.moved hA, h3.moved hA, h4.moved hA, fun q hq => (h5 q hq).elim (fun a ha => ⟨a, vk_R.same hv ha⟩), fun w hw => gWd_same (gWd_k w hw) hv.symm (h6 w hw), fun q hq => (h7 q hq).moved hA⟩
theorem gAmb.kept {A : Nat → Prop} {U : State} {H H1 : Heap} (h : gAmb A U H) (hq : ∀ a : Nat, a < H.size → ¬ A a → H1[a]? = H[a]?) : gAmb A U H1 := by
  obtain ⟨h1, h2, h3, h4, h5, h6, h7⟩ := h
  exact ⟨h1.kept hq, h2.kept hq, h3.kept hq, h4.kept hq, h5, h6, h7⟩
theorem gAmb.narrow {A B : Nat → Prop} {U : State} {H : Heap} (h : gAmb A U H) (hAB : ∀ q, B q → A q) : gAmb B U H := by
  obtain ⟨h1, h2, h3, h4, h5, h6, h7⟩ := h
  exact ⟨h1.narrow hAB, h2.narrow hAB, h3.narrow hAB, h4.narrow hAB, h5, h6, h7⟩
