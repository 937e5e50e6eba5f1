/-! the law's start: its tables, its statics, its objects -/
theorem law_K {args : Array Value} {s : State} (hts : ∀ w ∈ lw_tbl, w.before args s = true) (hao : (Cond.arrayOver (.object "GaugeBlocks$State")).before args s = true) : ∃ D : va_G, va_K D vwCl (tysD D) s := by
  obtain ⟨c0, i0, k0⟩ := u_known (C := RX1) (T := TX1) (N := 6) (n := 6) hts inX1 (hts (.instantiable RX1 6) (by decide +kernel))
  obtain ⟨c1, i1, k1⟩ := u_known (C := RX2) (T := TX2) (N := 2) (n := 2) hts inX2 (hts (.instantiable RX2 2) (by decide +kernel))
  obtain ⟨c2, i2, k2⟩ := u_known (C := RX3) (T := TX3) (N := 13) (n := 13) hts inX3 (hts (.instantiable RX3 13) (by decide +kernel))
  obtain ⟨c3, i3, k3⟩ := u_known (C := RX4) (T := TX4) (N := 4) (n := 4) hts inX4 (hts (.instantiable RX4 4) (by decide +kernel))
  obtain ⟨cI, kI, mI, f1, f2, f3⟩ := Cond.arrayClass_spec (hts (.arrayClass .int) (by decide +kernel))
  obtain ⟨mQ, cQ, kQ', q1, q2, q3, q4, q5⟩ := Cond.arrayOver_spec hao
  refine ⟨(fun c => if c = 100 then cI else if c = 103 then cQ else if c = 0 then c0 else if c = 1 then c1 else if c = 2 then c2 else c3, fun c => if c = 0 then i0 else if c = 1 then i1 else if c = 2 then i2 else i3), ?_, ?_⟩
  · intro k q hq
    match k, hq with
    | 0, hq => cases hq; exact k0
    | 1, hq => cases hq; exact k1
    | 2, hq => cases hq; exact k2
    | 3, hq => cases hq; exact k3
    | k + 4, hq => cases hq
  · intro k q hq
    match k, hq with
    | 0, hq => cases hq; exact ⟨fun n z => ⟨fun k h => (by cases h), kI, f2, mI, f3⟩, f1⟩
    | 1, hq => cases hq; exact ⟨fun n z => ⟨fun k h => (by cases h), kQ', q3, mQ, q4⟩, kQ', mQ, q3, q4, q1, q5⟩
    | k + 2, hq => cases hq
theorem ev_eq {args : Array Value} {s : State} {a : Term} {k : Int32} (h : (Cond.eq a (.int k)).before args s = true) : a.eval args s none [] s = some (.int k) := by
  simp only [Cond.before, Cond.holds, Cond.value] at h
  rw [show (Term.int k).eval args s none [] s = some (.int k) from rfl] at h
  cases ha : a.eval args s none [] s with
  | none => rw [ha] at h; cases h
  | some v =>
    rw [ha] at h
    cases v with
    | int x =>
      have h2 : decide (x = k) = true := by simpa using h
      rw [of_decide_eq_true h2]
    | _ => simp at h
theorem len_lt {args : Array Value} {s : State} {tm : Term} {t : Nat} {cell : Cell} {v : Value} (h : (Term.length tm).eval args s none [] s = some v) (ht : tm.eval args s none [] s = some (.ref t)) (hat : s.arrayAt? t = some cell) : cell.slots.size < 2 ^ 31 := by
  simp only [Term.eval, ht, hat, Option.bind_eq_bind, Option.bind_some] at h
  by_cases hlt : cell.slots.size < 2147483648
  · exact hlt
  · simp [hlt] at h
abbrev narW : List Cond := flatC (Jvm.Cond.and given_1 narrow_1)
abbrev tAF : Term := .static "GaugeBlocks" "SETTINGS_AT_FIRST" "[I"
abbrev tMX : Term := .static "GaugeBlocks" "SETTINGS_MAX" "[I"
theorem law_amb {args : Array Value} {s : State} (hts : ∀ w ∈ lw_tbl, w.before args s = true) (hs : ∀ w ∈ narW, w.before args s = true) : gAmb (fun q => s.heap.size ≤ q) s s.heap := by
  have hA : ∀ a : Nat, a < s.heap.size → ¬ (fun q : Nat => s.heap.size ≤ q) a := fun a h => Nat.not_le.mpr h
  refine ⟨vx_Zqof (hts (.laysStatic Bundle.tN "UNASSIGNED_STACK" Bundle.steD) (by decide +kernel)) (hts (.initialized Bundle.tN) (by decide +kernel)) (hs (.isRef (.static Bundle.tN "UNASSIGNED_STACK" Bundle.steD)) (by decide +kernel)) hA, vx_Zqof (hts (.laysStatic Bundle.tN "SUPPRESSED_SENTINEL" Bundle.listD) (by decide +kernel)) (hts (.initialized Bundle.tN) (by decide +kernel)) (hs (.isRef (.static Bundle.tN "SUPPRESSED_SENTINEL" Bundle.listD)) (by decide +kernel)) hA, ?_, ?_, ?_, ?_, ?_⟩
  · have hlen := ev_eq (hs (.eq (.length tAF) (.int 4)) (by decide +kernel))
    obtain ⟨t, cell, ht, hat, hv⟩ := Term.length_spec hlen
    obtain ⟨hcell, hkn, hst, -⟩ := State.arrayAt?_spec hat
    have hsz : cell.slots.size < 2 ^ 31 := len_lt hlen ht hat
    have h4 : cell.slots.size = 4 := by
      have e : (Int32.ofNat cell.slots.size) = nI 4 := by
        injection hv with hv
        exact hv.symm
      have e2 := congrArg Int32.toInt e
      rw [show Int32.ofNat cell.slots.size = nI cell.slots.size from rfl, nI_toInt hsz, nI_toInt (by decide)] at e2
      omega
    have hel : ∀ j : Nat, j < 4 → cell.slots[j]? = some (.int (stA j)) := by
      have key : ∀ (j : Nat) (x : Int32), (Term.elem tAF (.int (Int32.ofNat j))).eval args s none [] s = some (.int x) → j < 2 ^ 31 → cell.slots[j]? = some (.int x) := by
        intro j x h9 hj
        obtain ⟨a, i, cell2, g1, g2, g3, g4, g5⟩ := Term.elem_spec h9
        cases ht.symm.trans g1
        cases hat.symm.trans g3
        have hi : i = Int32.ofNat j := by
          have e : (Term.int (Int32.ofNat j)).eval args s none [] s = some (.int (Int32.ofNat j)) := rfl
          cases g2.symm.trans e
          rfl
        subst hi
        rw [show (Int32.ofNat j).toNatClampNeg = j from nI_clamp hj] at g5
        exact g5
      intro j hj
      rcases (show j = 0 ∨ j = 1 ∨ j = 2 ∨ j = 3 by omega) with rfl | rfl | rfl | rfl
      · exact key 0 10 (ev_eq (hs (.eq (.elem tAF (.int 0)) (.int 10)) (by decide +kernel))) (by decide)
      · exact key 1 300 (ev_eq (hs (.eq (.elem tAF (.int 1)) (.int 300)) (by decide +kernel))) (by decide)
      · exact key 2 3 (ev_eq (hs (.eq (.elem tAF (.int 2)) (.int 3)) (by decide +kernel))) (by decide)
      · exact key 3 40 (ev_eq (hs (.eq (.elem tAF (.int 3)) (.int 40)) (by decide +kernel))) (by decide)
    obtain ⟨a, c, cell2, kk, x1, x2, x3, x4, x5, x6, -⟩ := Cond.exactly_spec (hs (.exactly tAF "[I") (by decide +kernel))
    cases ht.symm.trans x1
    cases hcell.symm.trans x3
    exact ⟨t, cell, va_Zof (hts (.laysStatic "GaugeBlocks" "SETTINGS_AT_FIRST" "[I") (by decide +kernel)) (hts (.initialized "GaugeBlocks") (by decide +kernel)) ht hA, hcell, hA t (Array.getElem?_eq_some_iff.mp hcell).1, h4, hel, by rw [x6]; exact x2, hst, hkn, va_AO.of (hts (.arrayOver (.object "GaugeBlocks$State")) (by decide +kernel))⟩
  · obtain ⟨t, ht, hT⟩ := va_Tof (tm := tMX) (ty := .int) (N := 4) (f := fun j => .int (stM j)) (A := fun q : Nat => s.heap.size ≤ q) (by decide) (hs (.arrayOf tMX .int) (by decide +kernel)) (ev_eq (hs (.eq (.length tMX) (.int 4)) (by decide +kernel))) (fun j hj => by
      rcases (show j = 0 ∨ j = 1 ∨ j = 2 ∨ j = 3 by omega) with rfl | rfl | rfl | rfl
      · exact ev_eq (hs (.eq (.elem tMX (.int 0)) (.int 60)) (by decide +kernel))
      · exact ev_eq (hs (.eq (.elem tMX (.int 1)) (.int 1000)) (by decide +kernel))
      · exact ev_eq (hs (.eq (.elem tMX (.int 2)) (.int 20)) (by decide +kernel))
      · exact ev_eq (hs (.eq (.elem tMX (.int 3)) (.int 200)) (by decide +kernel))) hA
    exact ⟨t, va_Zof (hts (.laysStatic "GaugeBlocks" "SETTINGS_MAX" "[I") (by decide +kernel)) (hts (.initialized "GaugeBlocks") (by decide +kernel)) ht hA, hT⟩
  · intro q hq
    exact absurd hq List.not_mem_nil
  · intro w hw
    have w1 : ∀ w ∈ gWd, w.onTables = true := by decide +kernel
    have w2 : ∀ w ∈ gWd, w ∈ lw_tbl ∨ w ∈ narW := by decide +kernel
    exact va_Nw.of (A := args) (w1 w hw) ((w2 w hw).elim (fun h => hts w h) (fun h => hs w h))
  · intro q hq
    exact absurd hq List.not_mem_nil
