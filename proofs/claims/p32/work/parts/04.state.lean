abbrev VS : Type := (Nat → Int32) × (Nat → Int32) × (Nat → Int32) × (Nat → Int32) × (Nat → Int32) × (Nat → Int32) × (Nat → Int32) × (Nat → Int32) × Int32 × Int32 × Int32 × Int32 × Int32
abbrev sN (v : VS) : (Nat → Int32) := v.1
abbrev sD (v : VS) : (Nat → Int32) := v.2.1
abbrev sW (v : VS) : (Nat → Int32) := v.2.2.1
abbrev sH (v : VS) : (Nat → Int32) := v.2.2.2.1
abbrev sK (v : VS) : (Nat → Int32) := v.2.2.2.2.1
abbrev sP (v : VS) : (Nat → Int32) := v.2.2.2.2.2.1
abbrev sT (v : VS) : (Nat → Int32) := v.2.2.2.2.2.2.1
abbrev sS (v : VS) : (Nat → Int32) := v.2.2.2.2.2.2.2.1
abbrev sB (v : VS) : Int32 := v.2.2.2.2.2.2.2.2.1
abbrev sM (v : VS) : Int32 := v.2.2.2.2.2.2.2.2.2.1
abbrev sG (v : VS) : Int32 := v.2.2.2.2.2.2.2.2.2.2.1
abbrev sO (v : VS) : Int32 := v.2.2.2.2.2.2.2.2.2.2.2.1
abbrev sR (v : VS) : Int32 := v.2.2.2.2.2.2.2.2.2.2.2.2
abbrev VT : Type := (Nat → Int32) × Int32 × Int32 × Int32 × Int32 × Int32
abbrev tC (v : VT) : (Nat → Int32) := v.1
abbrev tL (v : VT) : Int32 := v.2.1
abbrev tA (v : VT) : Int32 := v.2.2.1
abbrev tR (v : VT) : Int32 := v.2.2.2.1
abbrev tF (v : VT) : Int32 := v.2.2.2.2.1
abbrev tE (v : VT) : Int32 := v.2.2.2.2.2
abbrev VM : Type := (Nat → Int32) × (Nat → Int32) × Int32 × (Nat → Int32) × (Nat → Int32) × Int32 × (Nat → Int32) × Int32 × (Nat → Int32) × Int32 × Int32 × Int32 × Int32 × (Nat → Int32) × (Nat → Int32) × (Nat → Int32) × Int32 × Int32
abbrev mRow (v : VM) : (Nat → Int32) := v.1
abbrev mSav (v : VM) : (Nat → Int32) := v.2.1
abbrev mSvn (v : VM) : Int32 := v.2.2.1
abbrev mSnp (v : VM) : (Nat → Int32) := v.2.2.2.1
abbrev mKep (v : VM) : (Nat → Int32) := v.2.2.2.2.1
abbrev mThr (v : VM) : Int32 := v.2.2.2.2.2.1
abbrev mFre (v : VM) : (Nat → Int32) := v.2.2.2.2.2.2.1
abbrev mFrn (v : VM) : Int32 := v.2.2.2.2.2.2.2.1
abbrev mBuf (v : VM) : (Nat → Int32) := v.2.2.2.2.2.2.2.2.1
abbrev mLen (v : VM) : Int32 := v.2.2.2.2.2.2.2.2.2.1
abbrev mSpt (v : VM) : Int32 := v.2.2.2.2.2.2.2.2.2.2.1
abbrev mNum (v : VM) : Int32 := v.2.2.2.2.2.2.2.2.2.2.2.1
abbrev mOrd (v : VM) : Int32 := v.2.2.2.2.2.2.2.2.2.2.2.2.1
abbrev mLet (v : VM) : (Nat → Int32) := v.2.2.2.2.2.2.2.2.2.2.2.2.2.1
abbrev mFst (v : VM) : (Nat → Int32) := v.2.2.2.2.2.2.2.2.2.2.2.2.2.2.1
abbrev mSnd (v : VM) : (Nat → Int32) := v.2.2.2.2.2.2.2.2.2.2.2.2.2.2.2.1
abbrev mTok (v : VM) : Int32 := v.2.2.2.2.2.2.2.2.2.2.2.2.2.2.2.2.1
abbrev mLft (v : VM) : Int32 := v.2.2.2.2.2.2.2.2.2.2.2.2.2.2.2.2.2
abbrev VV : Type := Int32 × VS × VS × VS × VS × VS × VS
abbrev vN (v : VV) : Int32 := v.1
abbrev v0 (v : VV) : VS := v.2.1
abbrev v1 (v : VV) : VS := v.2.2.1
abbrev v2 (v : VV) : VS := v.2.2.2.1
abbrev v3 (v : VV) : VS := v.2.2.2.2.1
abbrev v4 (v : VV) : VS := v.2.2.2.2.2.1
abbrev v5 (v : VV) : VS := v.2.2.2.2.2.2
def wSH (D : va_G) (a : Nat → Nat) (v : VS) : va_W := [(a 0, .inr (2, [.ref (a 1), .ref (a 2), .ref (a 3), .ref (a 4), .ref (a 5), .ref (a 6), .ref (a 7), .ref (a 8), .int (sB v), .int (sM v), .int (sG v), .int (sO v), .int (sR v)]))]
def wS (D : va_G) (a : Nat → Nat) (v : VS) : va_W := [(a 0, .inr (2, [.ref (a 1), .ref (a 2), .ref (a 3), .ref (a 4), .ref (a 5), .ref (a 6), .ref (a 7), .ref (a 8), .int (sB v), .int (sM v), .int (sG v), .int (sO v), .int (sR v)])), (a 1, .inl (D.1 100, 20, .inl (sN v))), (a 2, .inl (D.1 100, 20, .inl (sD v))), (a 3, .inl (D.1 100, 20, .inl (sW v))), (a 4, .inl (D.1 100, 20, .inl (sH v))), (a 5, .inl (D.1 100, 20, .inl (sK v))), (a 6, .inl (D.1 100, 20, .inl (sP v))), (a 7, .inl (D.1 100, 20, .inl (sT v))), (a 8, .inl (D.1 100, 4, .inl (sS v)))]
def wA (D : va_G) (a : Nat) (g : Nat → Int32) : va_W := [(a, .inl (D.1 100, 20, .inl g))]
def wT (D : va_G) (a : Nat → Nat) (v : VT) : va_W := [(a 0, .inr (0, [.ref (a 1), .int (tL v), .int (tA v), .int (tR v), .int (tF v), .int (tE v)])), (a 1, .inl (D.1 100, 60, .inl (tC v)))]
def wM (D : va_G) (a : Nat → Nat) (v : VM) : va_W := [(a 0, .inr (4, [.ref (a 1), .ref (a 2), .int (mSvn v), .ref (a 3), .ref (a 4), .int (mThr v), .ref (a 5), .int (mFrn v), .ref (a 6), .int (mLen v), .int (mSpt v), .int (mNum v), .int (mOrd v), .ref (a 7), .ref (a 8), .ref (a 9), .int (mTok v), .int (mLft v)])), (a 1, .inl (D.1 100, 149, .inl (mRow v))), (a 2, .inl (D.1 100, 894, .inl (mSav v))), (a 3, .inl (D.1 100, 298, .inl (mSnp v))), (a 4, .inl (D.1 102, 2, .inl (mKep v))), (a 5, .inl (D.1 100, 20, .inl (mFre v))), (a 6, .inl (D.1 100, 60, .inl (mBuf v))), (a 7, .inl (D.1 100, 24, .inl (mLet v))), (a 8, .inl (D.1 100, 24, .inl (mFst v))), (a 9, .inl (D.1 100, 24, .inl (mSnd v)))]
/-- the saved states: the object at r, its row at a 0, six states behind it in the row's order -/
def wV (D : va_G) (r : Nat) (a : Nat → Nat) (v : VV) : va_W := [(r, .inr (1, [.ref (a 0), .int (vN v)])), (a 0, .inl (D.1 103, 6, .inr (.inr (.inr (.inr (fun i => if i < 6 then some (a (1 + 9 * i)) else none))))))] ++ (wS D (fun i => a (1 + i)) (v0 v) ++ (wS D (fun i => a (10 + i)) (v1 v) ++ (wS D (fun i => a (19 + i)) (v2 v) ++ (wS D (fun i => a (28 + i)) (v3 v) ++ (wS D (fun i => a (37 + i)) (v4 v) ++ wS D (fun i => a (46 + i)) (v5 v))))))
def wG (D : va_G) (r rS rV rN rT : Nat) : va_W := [(r, .inr (3, [.ref rS, .ref rV, .ref rN, .ref rT]))]
theorem pfX1_1 : parseFieldDescriptor (TX1 1).2.2.1 = some .int := by decide +kernel
theorem pfX1_2 : parseFieldDescriptor (TX1 2).2.2.1 = some .int := by decide +kernel
theorem pfX1_3 : parseFieldDescriptor (TX1 3).2.2.1 = some .int := by decide +kernel
theorem pfX1_4 : parseFieldDescriptor (TX1 4).2.2.1 = some .int := by decide +kernel
theorem pfX1_5 : parseFieldDescriptor (TX1 5).2.2.1 = some .int := by decide +kernel
theorem pfX2_1 : parseFieldDescriptor (TX2 1).2.2.1 = some .int := by decide +kernel
theorem pfX3_8 : parseFieldDescriptor (TX3 8).2.2.1 = some .int := by decide +kernel
theorem pfX3_9 : parseFieldDescriptor (TX3 9).2.2.1 = some .int := by decide +kernel
theorem pfX3_10 : parseFieldDescriptor (TX3 10).2.2.1 = some .int := by decide +kernel
theorem pfX3_11 : parseFieldDescriptor (TX3 11).2.2.1 = some .int := by decide +kernel
theorem pfX3_12 : parseFieldDescriptor (TX3 12).2.2.1 = some .int := by decide +kernel

