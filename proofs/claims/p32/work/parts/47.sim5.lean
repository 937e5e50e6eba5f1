/-! class and reference side by side: the remaining answers -/
theorem asm_le (s : Bool) (e t : Nat) (h : e * 2 ^ 52 + t ≤ 2047 * 2 ^ 52) : Jvm.FP.Core.assemble Jvm.FP.Core.b64 s e t % 2 ^ 63 ≤ 2047 * 2 ^ 52 := by
  cases s
  · show ((0 * 2048 + e) * 2 ^ 52 + t) % 2 ^ 63 ≤ 2047 * 2 ^ 52
    omega
  · show ((1 * 2048 + e) * 2 ^ 52 + t) % 2 ^ 63 ≤ 2047 * 2 ^ 52
    omega
theorem bnd_le (s : Bool) (c : Nat) (q : Int) (h : c < 2 ^ 53) : Jvm.FP.Core.encode Jvm.FP.Core.b64 (Jvm.FP.Core.bound Jvm.FP.Core.b64 s c q) % 2 ^ 63 ≤ 2047 * 2 ^ 52 := by
  unfold Jvm.FP.Core.bound
  by_cases c1 : q ≤ Jvm.FP.Core.b64.qmax
  · rw [if_pos c1]
    have c1 : q ≤ 971 := c1
    show (if c < 2 ^ 52 then Jvm.FP.Core.assemble Jvm.FP.Core.b64 s 0 c else Jvm.FP.Core.assemble Jvm.FP.Core.b64 s ((q - (-1074)).toNat + 1) (c - 2 ^ 52)) % 2 ^ 63 ≤ _
    by_cases c2 : c < 2 ^ 52
    · rw [if_pos c2]
      exact asm_le s 0 c (by omega)
    · rw [if_neg c2]
      exact asm_le s _ _ (by omega)
  · rw [if_neg c1]
    exact asm_le s 2047 0 (by omega)
theorem rat_le (s : Bool) (a b : Nat) (e : Int) : Jvm.FP.Core.encode Jvm.FP.Core.b64 (Jvm.FP.Core.roundRatio Jvm.FP.Core.b64 s a b e) % 2 ^ 63 ≤ 2047 * 2 ^ 52 := by
  unfold Jvm.FP.Core.roundRatio
  by_cases c : a = 0
  · rw [if_pos c]
    exact asm_le s 0 0 (by omega)
  · rw [if_neg c]
    unfold Jvm.FP.Core.roundAt Jvm.FP.Core.settle
    by_cases c2 : Jvm.FP.Core.nearest (Jvm.FP.Core.unitsNum a e (Jvm.FP.Core.quantum Jvm.FP.Core.b64 a b e)) (Jvm.FP.Core.unitsDen b e (Jvm.FP.Core.quantum Jvm.FP.Core.b64 a b e)) < 2 ^ Jvm.FP.Core.b64.p
    · rw [if_pos c2]
      exact bnd_le _ _ _ c2
    · rw [if_neg c2]
      exact bnd_le _ _ _ (show 2 ^ 52 < 2 ^ 53 by decide)
theorem dec_nn (n : Nat) (h : n % 2 ^ 63 ≤ 2047 * 2 ^ 52) : Jvm.FP.Core.decode Jvm.FP.Core.b64 n ≠ .nan := by
  unfold Jvm.FP.Core.decode
  show (if n / 2 ^ 52 % 2048 = 2047 then (if n % 2 ^ 52 = 0 then Jvm.FP.Core.Datum.inf _ else .nan) else (if n / 2 ^ 52 % 2048 = 0 then Jvm.FP.Core.Datum.fin _ _ _ else Jvm.FP.Core.Datum.fin _ _ _)) ≠ .nan
  by_cases c1 : n / 2 ^ 52 % 2048 = 2047
  · rw [if_pos c1, if_pos (by omega)]
    exact Jvm.FP.Core.Datum.noConfusion
  · rw [if_neg c1]
    split <;> exact Jvm.FP.Core.Datum.noConfusion
theorem quo_le (x : Jvm.FP.Core.Datum) (hx : x ≠ .nan) (t : Bool) (d : Nat) (r : Int) (hd : d ≠ 0) : Jvm.FP.Core.encode Jvm.FP.Core.b64 (Jvm.FP.Core.quotient Jvm.FP.Core.b64 x (.fin t d r)) % 2 ^ 63 ≤ 2047 * 2 ^ 52 := by
  cases x with
  | nan => exact absurd rfl hx
  | inf s => exact asm_le _ 2047 0 (by omega)
  | fin s c q =>
    show Jvm.FP.Core.encode Jvm.FP.Core.b64 (if d = 0 then (if c = 0 then .nan else .inf (s != t)) else Jvm.FP.Core.roundRatio Jvm.FP.Core.b64 (s != t) c d (q - r)) % 2 ^ 63 ≤ _
    rw [if_neg hd]
    exact rat_le _ _ _ _
def isFin (x : Jvm.FP.Core.Datum) : Bool := match x with
  | .fin _ d _ => d != 0
  | _ => false
theorem i2d_nn (a : Int32) : Jvm.FP.Core.decode Jvm.FP.Core.b64 (FP.i2d a).toNat ≠ .nan := by
  refine dec_nn _ ?_
  show (UInt64.ofNat (Jvm.FP.Core.fromInt Jvm.FP.Core.b64 a.toInt)).toNat % 2 ^ 63 ≤ _
  rw [UInt64.toNat_ofNat']
  have : Jvm.FP.Core.fromInt Jvm.FP.Core.b64 a.toInt % 2 ^ 63 ≤ 2047 * 2 ^ 52 := rat_le _ _ _ _
  omega
theorem dd_le (a : Int32) {b : Nat} (h : 0 < b) (hb : b ≤ 20) : FP.ddiv (FP.i2d a) (FP.i2d (nI b)) &&& 0x7fffffffffffffff ≤ 0x7ff0000000000000 := by
  have k : ∀ b : Fin 20, isFin (Jvm.FP.Core.decode Jvm.FP.Core.b64 (FP.i2d (nI (b.1 + 1))).toNat) = true := by decide +kernel
  have k1 := k ⟨b - 1, by omega⟩
  have e : b - 1 + 1 = b := by omega
  simp only [e] at k1
  obtain ⟨t, d, r, k2, k3⟩ : ∃ t d r, Jvm.FP.Core.decode Jvm.FP.Core.b64 (FP.i2d (nI b)).toNat = .fin t d r ∧ d ≠ 0 := by
    revert k1
    cases Jvm.FP.Core.decode Jvm.FP.Core.b64 (FP.i2d (nI b)).toNat with
    | nan => exact fun q => Bool.noConfusion q
    | inf s => exact fun q => Bool.noConfusion q
    | fin t d r => exact fun q => ⟨t, d, r, rfl, fun z => by rw [z] at q; exact Bool.noConfusion q⟩
  have hq := quo_le _ (i2d_nn a) t d r k3
  rw [← k2] at hq
  have hq : Jvm.FP.Core.div Jvm.FP.Core.b64 (FP.i2d a).toNat (FP.i2d (nI b)).toNat % 2 ^ 63 ≤ 2047 * 2 ^ 52 := hq
  rw [UInt64.le_iff_toNat_le, UInt64.toNat_and, show (0x7fffffffffffffff : UInt64).toNat = 2 ^ 63 - 1 from rfl, Nat.and_two_pow_sub_one_eq_mod, show (0x7ff0000000000000 : UInt64).toNat = 2047 * 2 ^ 52 from rfl]
  show (UInt64.ofNat (Jvm.FP.Core.div Jvm.FP.Core.b64 (FP.i2d a).toNat (FP.i2d (nI b)).toNat)).toNat % 2 ^ 63 ≤ _
  rw [UInt64.toNat_ofNat']
  omega
section SIU
variable {N q : Nat} {v : VS} {z : VV} {n0 n1 : Option VS}
end SIU
