/-! the snapshots: what keep and goBack answer -/
def fX4_keep (N : Nat) (v : VS) (n0 n1 : Option VS) (p1 : Int32) : Option (Nat ⊕ (Option VS × Option VS × Int32)) := (fX4_checkRange N p1 0 1).bind fun r1 => Sum.elim (fun e => some (.inl e)) (fun _ => if p1 = 0 then (fX3_copyFrom N (n0.getD iS) v).bind fun c => some (.inr (some c, n1, sB v)) else (fX3_copyFrom N (n1.getD iS) v).bind fun c => some (.inr (n0, some c, sB v))) r1
def fX4_goBack (N : Nat) (v : VS) (z : VV) (n0 n1 : Option VS) (p1 : Int32) : Option (Nat ⊕ (VS × VV × Int32)) := (fX4_checkRange N p1 0 1).bind fun r1 => Sum.elim (fun e => some (.inl e)) (fun _ => match (if p1 = 0 then n0 else n1) with
  | none => some (.inl 2)
  | some s => (fX2_push N v z).bind fun z' => (fX3_copyFrom N v s).bind fun c => some (.inr (c, z', sB c))) r1
