/-! what the constructors make (only in this lane: the whole lane has them with the constructors) -/
def iT : VT := (fun _ => 0, 0, 0, 0, 0, 0)
def iV : VV := (0, iS, iS, iS, iS, iS, iS)
def iM : VM := (upd (upd (upd (upd (fun _ => 0) (Int32.toNatClampNeg 0) 10) (Int32.toNatClampNeg 1) 300) (Int32.toNatClampNeg 2) 3) (Int32.toNatClampNeg 3) 40, fun _ => 0, 0, fun _ => 0, fun _ => 0, 0, fun _ => 0, 0, fun _ => 0, 0, 0, 0, 0, fun _ => 0, fun _ => 0, fun _ => 0, 0, 0)
